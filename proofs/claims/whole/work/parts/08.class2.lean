def F_X3_figure (v0 : Int32) (v1 : Int32) (u : XM) : Option (Int32 × XM) := (if (v0 - 48) < 0 then some ((-9), u) else (if v1 < (v0 - 48) then some ((-9), u) else some ((v0 - 48), u)))
set_option maxRecDepth 20000 in
set_option maxHeartbeats 4000000 in
theorem T_X3_figure (v0 : Int32) (v1 : Int32) (u : XM) : GF E0 YY 1 yX3_figure cX3_figure 3 (some .int) 0 [some (.int v0), some (.int v1), none] [] u emI (F_X3_figure v0 v1 u) := by
  unfold F_X3_figure
  refine gf_iload_n (i := 0) (q := 1) dX3_figure_0 rfl rfl rfl ?_
  refine gf_bipush (q := 3) dX3_figure_1 kb_48 rfl ?_
  refine gf_isub (q := 4) dX3_figure_3 rfl ?_
  refine gf_istore_n (i := 2) (lv2 := [some (.int v0), some (.int v1), some (.int (v0 - 48))]) (q := 5) dX3_figure_4 rfl (by decide) rfl rfl ?_
  refine gf_iload_n (i := 2) (q := 6) dX3_figure_5 rfl rfl rfl ?_
  refine gf_if_lt (t := 18) (q := 9) dX3_figure_6 (by decide) rfl ?_ ?_
  · refine gf_bipush (q := 20) dX3_figure_18 kb_m9 rfl ?_
    exact gf_reti dX3_figure_20 rfl
  · refine gf_iload_n (i := 2) (q := 10) dX3_figure_9 rfl rfl rfl ?_
    refine gf_iload_n (i := 1) (q := 11) dX3_figure_10 rfl rfl rfl ?_
    refine gf_icmp_gt (t := 18) (q := 14) dX3_figure_11 (by decide) rfl ?_ ?_
    · refine gf_bipush (q := 20) dX3_figure_18 kb_m9 rfl ?_
      exact gf_reti dX3_figure_20 rfl
    · refine gf_iload_n (i := 2) (q := 15) dX3_figure_14 rfl rfl rfl ?_
      refine gf_goto (q := 20) dX3_figure_15 (by decide) ?_
      exact gf_reti dX3_figure_20 rfl
theorem C_X3_figure (v0 : Int32) (v1 : Int32) (u : XM) : CF YY 1 yX3_figure cX3_figure 3 (some .int) [.int v0, .int v1] u emI (F_X3_figure v0 v1 u) := cf_of (by decide +kernel) (Nat.le_of_ble_eq_true rfl) rfl (T_X3_figure v0 v1 u)
def F_X3_headPart (v0 : Int32) (v1 : Int32) (u : XM) : Option (Int32 × XM) := (if v0 = 0 then (if v1 = 102 then some (0, u) else some ((-9), u)) else (Option.bind (F_X3_figure v1 9 u) (fun x1 => some (x1.1, x1.2))))
set_option maxRecDepth 20000 in
set_option maxHeartbeats 4000000 in
theorem T_X3_headPart (v0 : Int32) (v1 : Int32) (u : XM) : GF E0 YY 2 yX3_headPart cX3_headPart 2 (some .int) 0 [some (.int v0), some (.int v1)] [] u emI (F_X3_headPart v0 v1 u) := by
  unfold F_X3_headPart
  refine gf_iload_n (i := 0) (q := 1) dX3_headPart_0 rfl rfl rfl ?_
  refine gf_if_ne (t := 17) (q := 4) dX3_headPart_1 (by decide) rfl ?_ ?_
  · refine gf_iload_n (i := 1) (q := 5) dX3_headPart_4 rfl rfl rfl ?_
    refine gf_bipush (q := 7) dX3_headPart_5 kb_102 rfl ?_
    refine gf_icmp_ne (t := 14) (q := 10) dX3_headPart_7 (by decide) rfl ?_ ?_
    · refine gf_iconst (q := 11) dX3_headPart_10 ki_0 rfl ?_
      refine gf_goto (q := 16) dX3_headPart_11 (by decide) ?_
      exact gf_reti dX3_headPart_16 rfl
    · refine gf_bipush (q := 16) dX3_headPart_14 kb_m9 rfl ?_
      exact gf_reti dX3_headPart_16 rfl
  · refine gf_iload_n (i := 1) (q := 18) dX3_headPart_17 rfl rfl rfl ?_
    refine gf_bipush (q := 20) dX3_headPart_18 kb_9 rfl ?_
    refine gf_callS_i (n2 := 2) (As := [.int v1, .int 9]) (st := []) (q := 23) (hlen := rfl) kw239 kw240 dX3_headPart_20 kw241 kw2 (by decide +kernel) (by decide) (Nat.le_of_ble_eq_true rfl) (C_X3_figure v1 9 u) rfl rfl (fun x1 => ?_)
    exact gf_reti dX3_headPart_23 rfl
theorem C_X3_headPart (v0 : Int32) (v1 : Int32) (u : XM) : CF YY 2 yX3_headPart cX3_headPart 2 (some .int) [.int v0, .int v1] u emI (F_X3_headPart v0 v1 u) := cf_of (by decide +kernel) (Nat.le_of_ble_eq_true rfl) rfl (T_X3_headPart v0 v1 u)
def F_X3_kindOfLetter (v0 : Int32) (u : XM) : Option (Int32 × XM) := (tsw v0 98 [some (3, u), some (5, u), some (4, u), some ((-9), u), some ((-9), u), some ((-9), u), some ((-9), u), some ((-9), u), some ((-9), u), some ((-9), u), some ((-9), u), some ((-9), u), some ((-9), u), some ((-9), u), some ((-9), u), some ((-9), u), some (1, u), some (2, u), some (0, u)] (some ((-9), u)))
set_option maxRecDepth 20000 in
set_option maxHeartbeats 4000000 in
theorem T_X3_kindOfLetter (v0 : Int32) (u : XM) : GF E0 YY 1 yX3_kindOfLetter cX3_kindOfLetter 1 (some .int) 0 [some (.int v0)] [] u emI (F_X3_kindOfLetter v0 u) := by
  unfold F_X3_kindOfLetter
  refine gf_iload_n (i := 0) (q := 1) dX3_kindOfLetter_0 rfl rfl rfl ?_
  refine gf_tsw (ts := [98, 102, 100, 104, 104, 104, 104, 104, 104, 104, 104, 104, 104, 104, 104, 104, 94, 96, 92]) (t0 := 104) dX3_kindOfLetter_1 (by decide +kernel) (xsw_c ?_ (xsw_c ?_ (xsw_c ?_ (xsw_c ?_ (xsw_c ?_ (xsw_c ?_ (xsw_c ?_ (xsw_c ?_ (xsw_c ?_ (xsw_c ?_ (xsw_c ?_ (xsw_c ?_ (xsw_c ?_ (xsw_c ?_ (xsw_c ?_ (xsw_c ?_ (xsw_c ?_ (xsw_c ?_ (xsw_c ?_ (xsw_n)))))))))))))))))))) ?_
  · refine gf_iconst (q := 99) dX3_kindOfLetter_98 ki_3 rfl ?_
    exact gf_reti dX3_kindOfLetter_99 rfl
  · refine gf_iconst (q := 103) dX3_kindOfLetter_102 ki_5 rfl ?_
    exact gf_reti dX3_kindOfLetter_103 rfl
  · refine gf_iconst (q := 101) dX3_kindOfLetter_100 ki_4 rfl ?_
    exact gf_reti dX3_kindOfLetter_101 rfl
  · refine gf_bipush (q := 106) dX3_kindOfLetter_104 kb_m9 rfl ?_
    exact gf_reti dX3_kindOfLetter_106 rfl
  · refine gf_bipush (q := 106) dX3_kindOfLetter_104 kb_m9 rfl ?_
    exact gf_reti dX3_kindOfLetter_106 rfl
  · refine gf_bipush (q := 106) dX3_kindOfLetter_104 kb_m9 rfl ?_
    exact gf_reti dX3_kindOfLetter_106 rfl
  · refine gf_bipush (q := 106) dX3_kindOfLetter_104 kb_m9 rfl ?_
    exact gf_reti dX3_kindOfLetter_106 rfl
  · refine gf_bipush (q := 106) dX3_kindOfLetter_104 kb_m9 rfl ?_
    exact gf_reti dX3_kindOfLetter_106 rfl
  · refine gf_bipush (q := 106) dX3_kindOfLetter_104 kb_m9 rfl ?_
    exact gf_reti dX3_kindOfLetter_106 rfl
  · refine gf_bipush (q := 106) dX3_kindOfLetter_104 kb_m9 rfl ?_
    exact gf_reti dX3_kindOfLetter_106 rfl
  · refine gf_bipush (q := 106) dX3_kindOfLetter_104 kb_m9 rfl ?_
    exact gf_reti dX3_kindOfLetter_106 rfl
  · refine gf_bipush (q := 106) dX3_kindOfLetter_104 kb_m9 rfl ?_
    exact gf_reti dX3_kindOfLetter_106 rfl
  · refine gf_bipush (q := 106) dX3_kindOfLetter_104 kb_m9 rfl ?_
    exact gf_reti dX3_kindOfLetter_106 rfl
  · refine gf_bipush (q := 106) dX3_kindOfLetter_104 kb_m9 rfl ?_
    exact gf_reti dX3_kindOfLetter_106 rfl
  · refine gf_bipush (q := 106) dX3_kindOfLetter_104 kb_m9 rfl ?_
    exact gf_reti dX3_kindOfLetter_106 rfl
  · refine gf_bipush (q := 106) dX3_kindOfLetter_104 kb_m9 rfl ?_
    exact gf_reti dX3_kindOfLetter_106 rfl
  · refine gf_iconst (q := 95) dX3_kindOfLetter_94 ki_1 rfl ?_
    exact gf_reti dX3_kindOfLetter_95 rfl
  · refine gf_iconst (q := 97) dX3_kindOfLetter_96 ki_2 rfl ?_
    exact gf_reti dX3_kindOfLetter_97 rfl
  · refine gf_iconst (q := 93) dX3_kindOfLetter_92 ki_0 rfl ?_
    exact gf_reti dX3_kindOfLetter_93 rfl
  · refine gf_bipush (q := 106) dX3_kindOfLetter_104 kb_m9 rfl ?_
    exact gf_reti dX3_kindOfLetter_106 rfl
theorem C_X3_kindOfLetter (v0 : Int32) (u : XM) : CF YY 1 yX3_kindOfLetter cX3_kindOfLetter 1 (some .int) [.int v0] u emI (F_X3_kindOfLetter v0 u) := cf_of (by decide +kernel) (Nat.le_of_ble_eq_true rfl) rfl (T_X3_kindOfLetter v0 u)
def F_X3_thingPart_22 (s0 : Int32) (s1 : Int32) (u : XM) : Option (Int32 × XM) := (Option.bind (F_X3_figure s1 s0 u) (fun x1 => some (x1.1, x1.2)))
set_option maxRecDepth 20000 in
set_option maxHeartbeats 4000000 in
theorem T_X3_thingPart_22 (s0 : Int32) (s1 : Int32) (u : XM) : GF E0 YY 2 yX3_thingPart cX3_thingPart 2 (some .int) 22 [none, none] [.int s0, .int s1] u emI (F_X3_thingPart_22 s0 s1 u) := by
  unfold F_X3_thingPart_22
  refine gf_callS_i (n2 := 2) (As := [.int s1, .int s0]) (st := []) (q := 25) (hlen := rfl) kw239 kw240 dX3_thingPart_22 kw241 kw2 (by decide +kernel) (by decide) (Nat.le_of_ble_eq_true rfl) (C_X3_figure s1 s0 u) rfl rfl (fun x1 => ?_)
  exact gf_reti dX3_thingPart_25 rfl
def F_X3_thingPart (v0 : Int32) (v1 : Int32) (u : XM) : Option (Int32 × XM) := (if v0 = 0 then (Option.bind (F_X3_kindOfLetter v1 u) (fun x2 => some (x2.1, x2.2))) else (if v0 = 2 then F_X3_thingPart_22 9 v1 u else F_X3_thingPart_22 7 v1 u))
set_option maxRecDepth 20000 in
set_option maxHeartbeats 4000000 in
theorem T_X3_thingPart (v0 : Int32) (v1 : Int32) (u : XM) : GF E0 YY 2 yX3_thingPart cX3_thingPart 2 (some .int) 0 [some (.int v0), some (.int v1)] [] u emI (F_X3_thingPart v0 v1 u) := by
  unfold F_X3_thingPart
  refine gf_iload_n (i := 0) (q := 1) dX3_thingPart_0 rfl rfl rfl ?_
  refine gf_if_ne (t := 9) (q := 4) dX3_thingPart_1 (by decide) rfl ?_ ?_
  · refine gf_iload_n (i := 1) (q := 5) dX3_thingPart_4 rfl rfl rfl ?_
    refine gf_callS_i (n2 := 1) (As := [.int v1]) (st := []) (q := 8) (hlen := rfl) kw245 kw246 dX3_thingPart_5 kw247 kw2 (by decide +kernel) (by decide) (Nat.le_of_ble_eq_true rfl) (C_X3_kindOfLetter v1 u) rfl rfl (fun x2 => ?_)
    exact gf_reti dX3_thingPart_8 rfl
  · refine gf_iload_n (i := 1) (q := 10) dX3_thingPart_9 rfl rfl rfl ?_
    refine gf_iload_n (i := 0) (q := 11) dX3_thingPart_10 rfl rfl rfl ?_
    refine gf_iconst (q := 12) dX3_thingPart_11 ki_2 rfl ?_
    refine gf_icmp_ne (t := 20) (q := 15) dX3_thingPart_12 (by decide) rfl ?_ ?_
    · refine gf_bipush (q := 17) dX3_thingPart_15 kb_9 rfl ?_
      refine gf_goto (q := 22) dX3_thingPart_17 (by decide) ?_
      exact gf_mask (b := [false, false]) rfl (T_X3_thingPart_22 9 v1 u)
    · refine gf_bipush (q := 22) dX3_thingPart_20 kb_7 rfl ?_
      exact gf_mask (b := [false, false]) rfl (T_X3_thingPart_22 7 v1 u)
theorem C_X3_thingPart (v0 : Int32) (v1 : Int32) (u : XM) : CF YY 2 yX3_thingPart cX3_thingPart 2 (some .int) [.int v0, .int v1] u emI (F_X3_thingPart v0 v1 u) := cf_of (by decide +kernel) (Nat.le_of_ble_eq_true rfl) rfl (T_X3_thingPart v0 v1 u)
def F_X3_firstFault_126 (v2 : Int32) (v3 : Int32) (v4 : Int32) (u : XM) : Option (Int32 × XM) := (if v4 = 0 then (if 2 ≤ v3 then some ((-9), (wi u 20 1 (v3 - 1))) else some (v2, u)) else some (v2, u))
set_option maxRecDepth 20000 in
set_option maxHeartbeats 4000000 in
theorem T_X3_firstFault_126 (v2 : Int32) (v3 : Int32) (v4 : Int32) (u : XM) : GF E0 YY 3 yX3_firstFault cX3_firstFault 8 (some .int) 126 [some (.ref 20), none, some (.int v2), some (.int v3), some (.int v4), none, none, none] [] u emI (F_X3_firstFault_126 v2 v3 v4 u) := by
  unfold F_X3_firstFault_126
  refine gf_iload (q := 128) dX3_firstFault_126 rfl rfl ?_
  refine gf_if_ne (t := 136) (q := 131) dX3_firstFault_128 (by decide) rfl ?_ ?_
  · refine gf_iload_n (i := 3) (q := 132) dX3_firstFault_131 rfl rfl rfl ?_
    refine gf_iconst (q := 133) dX3_firstFault_132 ki_2 rfl ?_
    refine gf_icmp_ge (t := 138) (q := 136) dX3_firstFault_133 (by decide) rfl ?_ ?_
    · refine gf_aload_n (i := 0) (q := 139) dX3_firstFault_138 rfl rfl rfl ?_
      refine gf_iload_n (i := 3) (q := 140) dX3_firstFault_139 rfl rfl rfl ?_
      refine gf_iconst (q := 141) dX3_firstFault_140 ki_1 rfl ?_
      refine gf_isub (q := 142) dX3_firstFault_141 rfl ?_
      refine gf_putI (C := RX3) (T := TX3) (N := 2) (ci := 3) (k := 20) (j := 1) (q := 145) dX3_firstFault_142 rfl rfl kin3 tyX3 tyX3_ok nmX3 (by decide) kw31 rfl rfl rfl rfl ?_
      refine gf_bipush (q := 147) dX3_firstFault_145 kb_m9 rfl ?_
      exact gf_reti dX3_firstFault_147 rfl
    · refine gf_iload_n (i := 2) (q := 137) dX3_firstFault_136 rfl rfl rfl ?_
      exact gf_reti dX3_firstFault_137 rfl
  · refine gf_iload_n (i := 2) (q := 137) dX3_firstFault_136 rfl rfl rfl ?_
    exact gf_reti dX3_firstFault_137 rfl
def F_X3_firstFault_120 (k8 : Nat → Int32 → Int32 → Int32 → Int32 → XM → Option (Int32 × XM)) (v1 : Nat) (v2 : Int32) (v3 : Int32) (v4 : Int32) (v5 : Int32) (u : XM) : Option (Int32 × XM) := k8 v1 v2 v3 v4 (v5 + 1) u
set_option maxRecDepth 20000 in
set_option maxHeartbeats 4000000 in
theorem T_X3_firstFault_120 (k8 : Nat → Int32 → Int32 → Int32 → Int32 → XM → Option (Int32 × XM)) (hk8 : ∀ (v1 : Nat) (v2 : Int32) (v3 : Int32) (v4 : Int32) (v5 : Int32) (u : XM), GF E0 YY 3 yX3_firstFault cX3_firstFault 8 (some .int) 8 [some (.ref 20), some (.ref v1), some (.int v2), some (.int v3), some (.int v4), some (.int v5), none, none] [] u emI (k8 v1 v2 v3 v4 v5 u)) (v1 : Nat) (v2 : Int32) (v3 : Int32) (v4 : Int32) (v5 : Int32) (u : XM) : GF E0 YY 3 yX3_firstFault cX3_firstFault 8 (some .int) 120 [some (.ref 20), some (.ref v1), some (.int v2), some (.int v3), some (.int v4), some (.int v5), none, none] [] u emI (F_X3_firstFault_120 k8 v1 v2 v3 v4 v5 u) := by
  unfold F_X3_firstFault_120
  refine gf_iinc (v := (v5 + 1)) (lv2 := [some (.ref 20), some (.ref v1), some (.int v2), some (.int v3), some (.int v4), some (.int (v5 + 1)), none, none]) (q := 123) dX3_firstFault_120 rfl (congrArg _ ki_1) (by decide) rfl rfl ?_
  refine gf_goto (q := 8) dX3_firstFault_123 (by decide) ?_
  exact (hk8 v1 v2 v3 v4 (v5 + 1) u)
def F_X3_firstFault_111 (k8 : Nat → Int32 → Int32 → Int32 → Int32 → XM → Option (Int32 × XM)) (v1 : Nat) (v2 : Int32) (v3 : Int32) (v4 : Int32) (v5 : Int32) (s0 : Int32) (s1 : Int32) (u : XM) : Option (Int32 × XM) := (if s1 = s0 then F_X3_firstFault_120 (k8) v1 v2 (v3 + 1) 0 v5 u else F_X3_firstFault_120 (k8) v1 v2 v3 v4 v5 u)
set_option maxRecDepth 20000 in
set_option maxHeartbeats 4000000 in
theorem T_X3_firstFault_111 (k8 : Nat → Int32 → Int32 → Int32 → Int32 → XM → Option (Int32 × XM)) (hk8 : ∀ (v1 : Nat) (v2 : Int32) (v3 : Int32) (v4 : Int32) (v5 : Int32) (u : XM), GF E0 YY 3 yX3_firstFault cX3_firstFault 8 (some .int) 8 [some (.ref 20), some (.ref v1), some (.int v2), some (.int v3), some (.int v4), some (.int v5), none, none] [] u emI (k8 v1 v2 v3 v4 v5 u)) (v1 : Nat) (v2 : Int32) (v3 : Int32) (v4 : Int32) (v5 : Int32) (s0 : Int32) (s1 : Int32) (u : XM) : GF E0 YY 3 yX3_firstFault cX3_firstFault 8 (some .int) 111 [some (.ref 20), some (.ref v1), some (.int v2), some (.int v3), some (.int v4), some (.int v5), none, none] [.int s0, .int s1] u emI (F_X3_firstFault_111 k8 v1 v2 v3 v4 v5 s0 s1 u) := by
  unfold F_X3_firstFault_111
  refine gf_icmp_ne (t := 120) (q := 114) dX3_firstFault_111 (by decide) rfl ?_ ?_
  · refine gf_iconst (q := 115) dX3_firstFault_114 ki_0 rfl ?_
    refine gf_istore (lv2 := [some (.ref 20), some (.ref v1), some (.int v2), some (.int v3), some (.int 0), some (.int v5), none, none]) (q := 117) dX3_firstFault_115 (by decide) rfl rfl ?_
    refine gf_iinc (v := (v3 + 1)) (lv2 := [some (.ref 20), some (.ref v1), some (.int v2), some (.int (v3 + 1)), some (.int 0), some (.int v5), none, none]) (q := 120) dX3_firstFault_117 rfl (congrArg _ ki_1) (by decide) rfl rfl ?_
    exact (T_X3_firstFault_120 (k8) hk8 v1 v2 (v3 + 1) 0 v5 u)
  · exact (T_X3_firstFault_120 (k8) hk8 v1 v2 v3 v4 v5 u)
def F_X3_firstFault_72 (k8 : Nat → Int32 → Int32 → Int32 → Int32 → XM → Option (Int32 × XM)) (v1 : Nat) (v2 : Int32) (v3 : Int32) (v4 : Int32) (v5 : Int32) (s0 : Int32) (u : XM) : Option (Int32 × XM) := (if s0 = (-9) then some (v5, u) else (if ain YY 0 21 ((4 * v3) + v4) = true then (if v3 = 0 then F_X3_firstFault_111 (k8) v1 v2 v3 (v4 + 1) v5 3 (v4 + 1) (wi u 21 (Int32.toNatClampNeg ((4 * v3) + v4)) s0) else F_X3_firstFault_111 (k8) v1 v2 v3 (v4 + 1) v5 4 (v4 + 1) (wi u 21 (Int32.toNatClampNeg ((4 * v3) + v4)) s0)) else none))
set_option maxRecDepth 20000 in
set_option maxHeartbeats 4000000 in
theorem T_X3_firstFault_72 (k8 : Nat → Int32 → Int32 → Int32 → Int32 → XM → Option (Int32 × XM)) (hk8 : ∀ (v1 : Nat) (v2 : Int32) (v3 : Int32) (v4 : Int32) (v5 : Int32) (u : XM), GF E0 YY 3 yX3_firstFault cX3_firstFault 8 (some .int) 8 [some (.ref 20), some (.ref v1), some (.int v2), some (.int v3), some (.int v4), some (.int v5), none, none] [] u emI (k8 v1 v2 v3 v4 v5 u)) (v1 : Nat) (v2 : Int32) (v3 : Int32) (v4 : Int32) (v5 : Int32) (s0 : Int32) (u : XM) : GF E0 YY 3 yX3_firstFault cX3_firstFault 8 (some .int) 72 [some (.ref 20), some (.ref v1), some (.int v2), some (.int v3), some (.int v4), some (.int v5), none, none] [.int s0] u emI (F_X3_firstFault_72 k8 v1 v2 v3 v4 v5 s0 u) := by
  unfold F_X3_firstFault_72
  refine gf_istore (lv2 := [some (.ref 20), some (.ref v1), some (.int v2), some (.int v3), some (.int v4), some (.int v5), none, some (.int s0)]) (q := 74) dX3_firstFault_72 (by decide) rfl rfl ?_
  refine gf_iload (q := 76) dX3_firstFault_74 rfl rfl ?_
  refine gf_bipush (q := 78) dX3_firstFault_76 kb_m9 rfl ?_
  refine gf_icmp_ne (t := 84) (q := 81) dX3_firstFault_78 (by decide) rfl ?_ ?_
  · refine gf_iload (q := 83) dX3_firstFault_81 rfl rfl ?_
    exact gf_reti dX3_firstFault_83 rfl
  · refine gf_aload_n (i := 0) (q := 85) dX3_firstFault_84 rfl rfl rfl ?_
    refine gf_getA (C := RX3) (T := TX3) (N := 2) (ci := 3) (k := 20) (j := 0) (t := 21) (q := 88) dX3_firstFault_85 rfl rfl kin3 (by decide) kw29 rfl rfl ?_
    refine gf_iconst (q := 89) dX3_firstFault_88 ki_4 rfl ?_
    refine gf_iload_n (i := 3) (q := 90) dX3_firstFault_89 rfl rfl rfl ?_
    refine gf_imul (q := 91) dX3_firstFault_90 rfl ?_
    refine gf_iload (q := 93) dX3_firstFault_91 rfl rfl ?_
    refine gf_iadd (q := 94) dX3_firstFault_93 rfl ?_
    refine gf_iload (q := 96) dX3_firstFault_94 rfl rfl ?_
    refine gf_iast (q := 97) dX3_firstFault_96 rfl ?_
    refine gf_iinc (v := (v4 + 1)) (lv2 := [some (.ref 20), some (.ref v1), some (.int v2), some (.int v3), some (.int (v4 + 1)), some (.int v5), none, some (.int s0)]) (q := 100) dX3_firstFault_97 rfl (congrArg _ ki_1) (by decide) rfl rfl ?_
    refine gf_iload (q := 102) dX3_firstFault_100 rfl rfl ?_
    refine gf_iload_n (i := 3) (q := 103) dX3_firstFault_102 rfl rfl rfl ?_
    refine gf_if_ne (t := 110) (q := 106) dX3_firstFault_103 (by decide) rfl ?_ ?_
    · refine gf_iconst (q := 107) dX3_firstFault_106 ki_3 rfl ?_
      refine gf_goto (q := 111) dX3_firstFault_107 (by decide) ?_
      exact gf_mask (b := [true, true, true, true, true, true, false, false]) rfl (T_X3_firstFault_111 (k8) hk8 v1 v2 v3 (v4 + 1) v5 3 (v4 + 1) (wi u 21 (Int32.toNatClampNeg ((4 * v3) + v4)) s0))
    · refine gf_iconst (q := 111) dX3_firstFault_110 ki_4 rfl ?_
      exact gf_mask (b := [true, true, true, true, true, true, false, false]) rfl (T_X3_firstFault_111 (k8) hk8 v1 v2 v3 (v4 + 1) v5 4 (v4 + 1) (wi u 21 (Int32.toNatClampNeg ((4 * v3) + v4)) s0))
def F_X3_firstFault_42 (k8 : Nat → Int32 → Int32 → Int32 → Int32 → XM → Option (Int32 × XM)) (v1 : Nat) (v2 : Int32) (v3 : Int32) (v4 : Int32) (v5 : Int32) (v6 : Int32) (u : XM) : Option (Int32 × XM) := (if v3 ≤ 6 then (if v3 = 0 then (Option.bind (F_X3_headPart v4 v6 u) (fun x2 => F_X3_firstFault_72 (k8) v1 v2 v3 v4 v5 x2.1 x2.2)) else (Option.bind (F_X3_thingPart v4 v6 u) (fun x1 => F_X3_firstFault_72 (k8) v1 v2 v3 v4 v5 x1.1 x1.2))) else some (v5, u))
set_option maxRecDepth 20000 in
set_option maxHeartbeats 4000000 in
theorem T_X3_firstFault_42 (k8 : Nat → Int32 → Int32 → Int32 → Int32 → XM → Option (Int32 × XM)) (hk8 : ∀ (v1 : Nat) (v2 : Int32) (v3 : Int32) (v4 : Int32) (v5 : Int32) (u : XM), GF E0 YY 3 yX3_firstFault cX3_firstFault 8 (some .int) 8 [some (.ref 20), some (.ref v1), some (.int v2), some (.int v3), some (.int v4), some (.int v5), none, none] [] u emI (k8 v1 v2 v3 v4 v5 u)) (v1 : Nat) (v2 : Int32) (v3 : Int32) (v4 : Int32) (v5 : Int32) (v6 : Int32) (u : XM) : GF E0 YY 3 yX3_firstFault cX3_firstFault 8 (some .int) 42 [some (.ref 20), some (.ref v1), some (.int v2), some (.int v3), some (.int v4), some (.int v5), some (.int v6), none] [] u emI (F_X3_firstFault_42 k8 v1 v2 v3 v4 v5 v6 u) := by
  unfold F_X3_firstFault_42
  refine gf_iload_n (i := 3) (q := 43) dX3_firstFault_42 rfl rfl rfl ?_
  refine gf_bipush (q := 45) dX3_firstFault_43 kb_6 rfl ?_
  refine gf_icmp_le (t := 51) (q := 48) dX3_firstFault_45 (by decide) rfl ?_ ?_
  · refine gf_iload_n (i := 3) (q := 52) dX3_firstFault_51 rfl rfl rfl ?_
    refine gf_if_ne (t := 65) (q := 55) dX3_firstFault_52 (by decide) rfl ?_ ?_
    · refine gf_iload (q := 57) dX3_firstFault_55 rfl rfl ?_
      refine gf_iload (q := 59) dX3_firstFault_57 rfl rfl ?_
      refine gf_callS_i (n2 := 2) (As := [.int v4, .int v6]) (st := []) (q := 62) (hlen := rfl) kw236 kw237 dX3_firstFault_59 kw238 kw2 (by decide +kernel) (by decide) (Nat.le_of_ble_eq_true rfl) (C_X3_headPart v4 v6 u) rfl rfl (fun x2 => ?_)
      refine gf_goto (q := 72) dX3_firstFault_62 (by decide) ?_
      exact gf_mask (b := [true, true, true, true, true, true, false, false]) rfl (T_X3_firstFault_72 (k8) hk8 v1 v2 v3 v4 v5 x2.1 x2.2)
    · refine gf_iload (q := 67) dX3_firstFault_65 rfl rfl ?_
      refine gf_iload (q := 69) dX3_firstFault_67 rfl rfl ?_
      refine gf_callS_i (n2 := 2) (As := [.int v4, .int v6]) (st := []) (q := 72) (hlen := rfl) kw242 kw243 dX3_firstFault_69 kw244 kw2 (by decide +kernel) (by decide) (Nat.le_of_ble_eq_true rfl) (C_X3_thingPart v4 v6 u) rfl rfl (fun x1 => ?_)
      exact gf_mask (b := [true, true, true, true, true, true, false, false]) rfl (T_X3_firstFault_72 (k8) hk8 v1 v2 v3 v4 v5 x1.1 x1.2)
  · refine gf_iload (q := 50) dX3_firstFault_48 rfl rfl ?_
    exact gf_reti dX3_firstFault_50 rfl
def F_X3_firstFault_8 : Nat → Nat → Int32 → Int32 → Int32 → Int32 → XM → Option (Int32 × XM)
  | 0, _, _, _, _, _, _ => none
  | n + 1, v1, v2, v3, v4, v5, u => (if v2 ≤ v5 then F_X3_firstFault_126 v2 v3 v4 u else (Option.bind (alen YY 1 v1) (fun n3 => (if (nI n3) ≤ v5 then F_X3_firstFault_126 v2 v3 v4 u else (if ain YY 1 v1 v5 = true then (if v4 = 0 then (if (mi u v1 (Int32.toNatClampNeg v5)) = 32 then F_X3_firstFault_120 (F_X3_firstFault_8 n) v1 v2 v3 v4 v5 u else F_X3_firstFault_42 (F_X3_firstFault_8 n) v1 v2 v3 v4 v5 (mi u v1 (Int32.toNatClampNeg v5)) u) else F_X3_firstFault_42 (F_X3_firstFault_8 n) v1 v2 v3 v4 v5 (mi u v1 (Int32.toNatClampNeg v5)) u) else none)))))
set_option maxRecDepth 20000 in
set_option maxHeartbeats 4000000 in
theorem T_X3_firstFault_8 : ∀ (n : Nat) (v1 : Nat) (v2 : Int32) (v3 : Int32) (v4 : Int32) (v5 : Int32) (u : XM), GF E0 YY 3 yX3_firstFault cX3_firstFault 8 (some .int) 8 [some (.ref 20), some (.ref v1), some (.int v2), some (.int v3), some (.int v4), some (.int v5), none, none] [] u emI (F_X3_firstFault_8 n v1 v2 v3 v4 v5 u) := by
  intro n
  induction n with
  | zero => intro v1 v2 v3 v4 v5 u; exact gf_none
  | succ n ih =>
    intro v1 v2 v3 v4 v5 u
    unfold F_X3_firstFault_8
    refine gf_iload (q := 10) dX3_firstFault_8 rfl rfl ?_
    refine gf_iload_n (i := 2) (q := 11) dX3_firstFault_10 rfl rfl rfl ?_
    refine gf_icmp_ge (t := 126) (q := 14) dX3_firstFault_11 (by decide) rfl ?_ ?_
    · exact gf_mask (b := [true, false, true, true, true, false, false, false]) rfl (T_X3_firstFault_126 v2 v3 v4 u)
    · refine gf_iload (q := 16) dX3_firstFault_14 rfl rfl ?_
      refine gf_aload_n (i := 1) (q := 17) dX3_firstFault_16 rfl rfl rfl ?_
      refine gf_alenS1 (q := 18) dX3_firstFault_17 rfl (fun n3 => ?_)
      refine gf_icmp_ge (t := 126) (q := 21) dX3_firstFault_18 (by decide) rfl ?_ ?_
      · exact gf_mask (b := [true, false, true, true, true, false, false, false]) rfl (T_X3_firstFault_126 v2 v3 v4 u)
      · refine gf_aload_n (i := 1) (q := 22) dX3_firstFault_21 rfl rfl rfl ?_
        refine gf_iload (q := 24) dX3_firstFault_22 rfl rfl ?_
        refine gf_bald (q := 25) dX3_firstFault_24 rfl ?_
        refine gf_istore (lv2 := [some (.ref 20), some (.ref v1), some (.int v2), some (.int v3), some (.int v4), some (.int v5), some (.int (mi u v1 (Int32.toNatClampNeg v5))), none]) (q := 27) dX3_firstFault_25 (by decide) rfl rfl ?_
        refine gf_iload (q := 29) dX3_firstFault_27 rfl rfl ?_
        refine gf_if_ne (t := 42) (q := 32) dX3_firstFault_29 (by decide) rfl ?_ ?_
        · refine gf_iload (q := 34) dX3_firstFault_32 rfl rfl ?_
          refine gf_bipush (q := 36) dX3_firstFault_34 kb_32 rfl ?_
          refine gf_icmp_ne (t := 42) (q := 39) dX3_firstFault_36 (by decide) rfl ?_ ?_
          · refine gf_goto (q := 120) dX3_firstFault_39 (by decide) ?_
            exact gf_mask (b := [true, true, true, true, true, true, false, false]) rfl (T_X3_firstFault_120 (F_X3_firstFault_8 n) ih v1 v2 v3 v4 v5 u)
          · exact (T_X3_firstFault_42 (F_X3_firstFault_8 n) ih v1 v2 v3 v4 v5 (mi u v1 (Int32.toNatClampNeg v5)) u)
        · exact (T_X3_firstFault_42 (F_X3_firstFault_8 n) ih v1 v2 v3 v4 v5 (mi u v1 (Int32.toNatClampNeg v5)) u)
def F_X3_firstFault (v1 : Nat) (v2 : Int32) (u : XM) : Option (Int32 × XM) := F_X3_firstFault_8 FU v1 v2 0 0 0 u
set_option maxRecDepth 20000 in
set_option maxHeartbeats 4000000 in
theorem T_X3_firstFault (v1 : Nat) (v2 : Int32) (u : XM) : GF E0 YY 3 yX3_firstFault cX3_firstFault 8 (some .int) 0 [some (.ref 20), some (.ref v1), some (.int v2), none, none, none, none, none] [] u emI (F_X3_firstFault v1 v2 u) := by
  unfold F_X3_firstFault
  refine gf_iconst (q := 1) dX3_firstFault_0 ki_0 rfl ?_
  refine gf_istore_n (i := 3) (lv2 := [some (.ref 20), some (.ref v1), some (.int v2), some (.int 0), none, none, none, none]) (q := 2) dX3_firstFault_1 rfl (by decide) rfl rfl ?_
  refine gf_iconst (q := 3) dX3_firstFault_2 ki_0 rfl ?_
  refine gf_istore (lv2 := [some (.ref 20), some (.ref v1), some (.int v2), some (.int 0), some (.int 0), none, none, none]) (q := 5) dX3_firstFault_3 (by decide) rfl rfl ?_
  refine gf_iconst (q := 6) dX3_firstFault_5 ki_0 rfl ?_
  refine gf_istore (lv2 := [some (.ref 20), some (.ref v1), some (.int v2), some (.int 0), some (.int 0), some (.int 0), none, none]) (q := 8) dX3_firstFault_6 (by decide) rfl rfl ?_
  exact (T_X3_firstFault_8 FU v1 v2 0 0 0 u)
theorem C_X3_firstFault (v1 : Nat) (v2 : Int32) (u : XM) : CF YY 3 yX3_firstFault cX3_firstFault 8 (some .int) [.ref 20, .ref v1, .int v2] u emI (F_X3_firstFault v1 v2 u) := cf_of (by decide +kernel) (Nat.le_of_ble_eq_true rfl) rfl (T_X3_firstFault v1 v2 u)
def F_X4_isRow (v0 : Int32) (u : XM) : Option (Int32 × XM) := (if v0 < 0 then some (0, u) else (if 6 ≤ v0 then some (0, u) else some (1, u)))
set_option maxRecDepth 20000 in
set_option maxHeartbeats 4000000 in
theorem T_X4_isRow (v0 : Int32) (u : XM) : GF E0 YY 1 yX4_isRow cX4_isRow 1 (some .boolean) 0 [some (.int v0)] [] u emI (F_X4_isRow v0 u) := by
  unfold F_X4_isRow
  refine gf_iload_n (i := 0) (q := 1) dX4_isRow_0 rfl rfl rfl ?_
  refine gf_if_lt (t := 14) (q := 4) dX4_isRow_1 (by decide) rfl ?_ ?_
  · refine gf_iconst (q := 15) dX4_isRow_14 ki_0 rfl ?_
    exact gf_retz dX4_isRow_15 rfl rfl
  · refine gf_iload_n (i := 0) (q := 5) dX4_isRow_4 rfl rfl rfl ?_
    refine gf_bipush (q := 7) dX4_isRow_5 kb_6 rfl ?_
    refine gf_icmp_ge (t := 14) (q := 10) dX4_isRow_7 (by decide) rfl ?_ ?_
    · refine gf_iconst (q := 15) dX4_isRow_14 ki_0 rfl ?_
      exact gf_retz dX4_isRow_15 rfl rfl
    · refine gf_iconst (q := 11) dX4_isRow_10 ki_1 rfl ?_
      refine gf_goto (q := 15) dX4_isRow_11 (by decide) ?_
      exact gf_retz dX4_isRow_15 rfl rfl
theorem C_X4_isRow (v0 : Int32) (u : XM) : CF YY 1 yX4_isRow cX4_isRow 1 (some .boolean) [.int v0] u emI (F_X4_isRow v0 u) := cf_of (by decide +kernel) (Nat.le_of_ble_eq_true rfl) rfl (T_X4_isRow v0 u)
def F_X4_found (v1 : Int32) (u : XM) : Option (Int32 × XM) := (if ain YY 0 34 v1 = true then (if ain YY 0 34 v1 = true then some ((-3), (wi (wi u 0 11 v1) 34 (Int32.toNatClampNeg v1) ((mi (wi u 0 11 v1) 34 (Int32.toNatClampNeg v1)) + 1))) else none) else none)
set_option maxRecDepth 20000 in
set_option maxHeartbeats 4000000 in
theorem T_X4_found (v1 : Int32) (u : XM) : GF E0 YY 1 yX4_found cX4_found 2 (some .int) 0 [some (.ref 0), some (.int v1)] [] u emI (F_X4_found v1 u) := by
  unfold F_X4_found
  refine gf_aload_n (i := 0) (q := 1) dX4_found_0 rfl rfl rfl ?_
  refine gf_iload_n (i := 1) (q := 2) dX4_found_1 rfl rfl rfl ?_
  refine gf_putI (C := RX4) (T := TX4) (N := 15) (ci := 4) (k := 0) (j := 11) (q := 5) dX4_found_2 rfl rfl kin4 tyX4 tyX4_ok nmX4 (by decide) kw138 rfl rfl rfl rfl ?_
  refine gf_aload_n (i := 0) (q := 6) dX4_found_5 rfl rfl rfl ?_
  refine gf_getA (C := RX4) (T := TX4) (N := 15) (ci := 4) (k := 0) (j := 10) (t := 34) (q := 9) dX4_found_6 rfl rfl kin4 (by decide) kw137 rfl rfl ?_
  refine gf_iload_n (i := 1) (q := 10) dX4_found_9 rfl rfl rfl ?_
  refine gf_dup2 (q := 11) dX4_found_10 rfl rfl rfl ?_
  refine gf_iald (q := 12) dX4_found_11 rfl ?_
  refine gf_iconst (q := 13) dX4_found_12 ki_1 rfl ?_
  refine gf_iadd (q := 14) dX4_found_13 rfl ?_
  refine gf_iast (q := 15) dX4_found_14 rfl ?_
  refine gf_bipush (q := 17) dX4_found_15 kb_m3 rfl ?_
  exact gf_reti dX4_found_17 rfl
theorem C_X4_found (v1 : Int32) (u : XM) : CF YY 1 yX4_found cX4_found 2 (some .int) [.ref 0, .int v1] u emI (F_X4_found v1 u) := cf_of (by decide +kernel) (Nat.le_of_ble_eq_true rfl) rfl (T_X4_found v1 u)
def F_X4_row (v1 : Int32) (v2 : Int32) (u : XM) : Option (Int32 × XM) := (Option.bind (F_X4_isRow v1 u) (fun x1 => (if x1.1 = 0 then some ((-1), x1.2) else (if v2 ≤ 40 then (if 0 ≤ v2 then (if ain YY 3 1 v1 = true then (Option.bind (F_J7_fill_53178 YY (2 + Int32.toNatClampNeg v1) 0 x1.2) (fun x2 => (if ain YY 0 8 v1 = true then some (v2, (wi x2.2 8 (Int32.toNatClampNeg v1) v2)) else none))) else none) else (Option.bind (F_X4_found 5 x1.2) (fun x3 => some (x3.1, x3.2)))) else some ((-1), x1.2)))))
set_option maxRecDepth 20000 in
set_option maxHeartbeats 4000000 in
theorem T_X4_row (v1 : Int32) (v2 : Int32) (u : XM) : GF E0 YY 2 yX4_row cX4_row 3 (some .int) 0 [some (.ref 0), some (.int v1), some (.int v2)] [] u emI (F_X4_row v1 v2 u) := by
  unfold F_X4_row
  refine gf_iload_n (i := 1) (q := 1) dX4_row_0 rfl rfl rfl ?_
  refine gf_callS_i (n2 := 1) (As := [.int v1]) (st := []) (q := 4) (hlen := rfl) kw177 kw178 dX4_row_1 kw179 kw1 (by decide +kernel) (by decide) (Nat.le_of_ble_eq_true rfl) (C_X4_isRow v1 u) rfl rfl (fun x1 => ?_)
  refine gf_if_eq (t := 13) (q := 7) dX4_row_4 (by decide) rfl ?_ ?_
  · refine gf_iconst (q := 14) dX4_row_13 ki_m1 rfl ?_
    exact gf_reti dX4_row_14 rfl
  · refine gf_iload_n (i := 2) (q := 8) dX4_row_7 rfl rfl rfl ?_
    refine gf_bipush (q := 10) dX4_row_8 kb_40 rfl ?_
    refine gf_icmp_le (t := 15) (q := 13) dX4_row_10 (by decide) rfl ?_ ?_
    · refine gf_iload_n (i := 2) (q := 16) dX4_row_15 rfl rfl rfl ?_
      refine gf_if_ge (t := 25) (q := 19) dX4_row_16 (by decide) rfl ?_ ?_
      · refine gf_aload_n (i := 0) (q := 26) dX4_row_25 rfl rfl rfl ?_
        refine gf_getA (C := RX4) (T := TX4) (N := 15) (ci := 4) (k := 0) (j := 0) (t := 1) (q := 29) dX4_row_26 rfl rfl kin4 (by decide) kw127 rfl rfl ?_
        refine gf_iload_n (i := 1) (q := 30) dX4_row_29 rfl rfl rfl ?_
        refine gf_aald3 (n := 6) (b := 2) (q := 31) dX4_row_30 rfl rfl ?_
        refine gf_iconst (q := 32) dX4_row_31 ki_0 rfl ?_
        refine gf_callS_v (n2 := 2) (As := [.ref (2 + Int32.toNatClampNeg v1), .int 0]) (st := []) (q := 35) (hlen := rfl) kw124 kw125 dX4_row_32 kw126 kw6 (by decide +kernel) (by decide) (Nat.le_of_ble_eq_true rfl) (C_J7_fill_53178 YY (2 + Int32.toNatClampNeg v1) 0 x1.2) rfl rfl (fun x2 => ?_)
        refine gf_aload_n (i := 0) (q := 36) dX4_row_35 rfl rfl rfl ?_
        refine gf_getA (C := RX4) (T := TX4) (N := 15) (ci := 4) (k := 0) (j := 1) (t := 8) (q := 39) dX4_row_36 rfl rfl kin4 (by decide) kw128 rfl rfl ?_
        refine gf_iload_n (i := 1) (q := 40) dX4_row_39 rfl rfl rfl ?_
        refine gf_iload_n (i := 2) (q := 41) dX4_row_40 rfl rfl rfl ?_
        refine gf_iast (q := 42) dX4_row_41 rfl ?_
        refine gf_iload_n (i := 2) (q := 43) dX4_row_42 rfl rfl rfl ?_
        exact gf_reti dX4_row_43 rfl
      · refine gf_aload_n (i := 0) (q := 20) dX4_row_19 rfl rfl rfl ?_
        refine gf_iconst (q := 21) dX4_row_20 ki_5 rfl ?_
        refine gf_callV_i (n2 := 1) (As := [.int 5]) (st := []) (b := 0) (ci := 4) (C := RX4) (q := 24) (hlen := rfl) rfl rfl kw180 kw182 kp0 dX4_row_21 kw183 kw1 (by decide +kernel) (by decide) (Nat.le_of_ble_eq_true rfl) (C_X4_found 5 x1.2) rfl rfl (fun x3 => ?_)
        exact gf_reti dX4_row_24 rfl
    · refine gf_iconst (q := 14) dX4_row_13 ki_m1 rfl ?_
      exact gf_reti dX4_row_14 rfl
theorem C_X4_row (v1 : Int32) (v2 : Int32) (u : XM) : CF YY 2 yX4_row cX4_row 3 (some .int) [.ref 0, .int v1, .int v2] u emI (F_X4_row v1 v2 u) := cf_of (by decide +kernel) (Nat.le_of_ble_eq_true rfl) rfl (T_X4_row v1 v2 u)
def F_X4_tell (v1 : Int32) (u : XM) : Option (Int32 × XM) := some (1, (wi u 0 12 v1))
set_option maxRecDepth 20000 in
set_option maxHeartbeats 4000000 in
theorem T_X4_tell (v1 : Int32) (u : XM) : GF E0 YY 1 yX4_tell cX4_tell 2 (some .int) 0 [some (.ref 0), some (.int v1)] [] u emI (F_X4_tell v1 u) := by
  unfold F_X4_tell
  refine gf_aload_n (i := 0) (q := 1) dX4_tell_0 rfl rfl rfl ?_
  refine gf_iload_n (i := 1) (q := 2) dX4_tell_1 rfl rfl rfl ?_
  refine gf_putI (C := RX4) (T := TX4) (N := 15) (ci := 4) (k := 0) (j := 12) (q := 5) dX4_tell_2 rfl rfl kin4 tyX4 tyX4_ok nmX4 (by decide) kw139 rfl rfl rfl rfl ?_
  refine gf_iconst (q := 6) dX4_tell_5 ki_1 rfl ?_
  exact gf_reti dX4_tell_6 rfl
theorem C_X4_tell (v1 : Int32) (u : XM) : CF YY 1 yX4_tell cX4_tell 2 (some .int) [.ref 0, .int v1] u emI (F_X4_tell v1 u) := cf_of (by decide +kernel) (Nat.le_of_ble_eq_true rfl) rfl (T_X4_tell v1 u)
def F_X4_lay_39  (u : XM) : Option (Int32 × XM) := (Option.bind (F_X4_found 2 u) (fun x1 => some (x1.1, x1.2)))
set_option maxRecDepth 20000 in
set_option maxHeartbeats 4000000 in
theorem T_X4_lay_39  (u : XM) : GF E0 YY 2 yX4_lay cX4_lay 5 (some .int) 39 [some (.ref 0), none, none, none, none] [] u emI (F_X4_lay_39 u) := by
  unfold F_X4_lay_39
  refine gf_aload_n (i := 0) (q := 40) dX4_lay_39 rfl rfl rfl ?_
  refine gf_iconst (q := 41) dX4_lay_40 ki_2 rfl ?_
  refine gf_callV_i (n2 := 1) (As := [.int 2]) (st := []) (b := 0) (ci := 4) (C := RX4) (q := 44) (hlen := rfl) rfl rfl kw180 kw182 kp0 dX4_lay_41 kw183 kw1 (by decide +kernel) (by decide) (Nat.le_of_ble_eq_true rfl) (C_X4_found 2 u) rfl rfl (fun x1 => ?_)
  exact gf_reti dX4_lay_44 rfl
def F_X4_lay (v1 : Int32) (v2 : Int32) (v3 : Int32) (u : XM) : Option (Int32 × XM) := (Option.bind (F_X4_isRow v1 u) (fun x2 => (if x2.1 = 0 then some ((-1), x2.2) else (if ain YY 0 8 v1 = true then (if (mi x2.2 8 (Int32.toNatClampNeg v1)) = (-1) then (Option.bind (F_X4_found 1 x2.2) (fun x4 => some (x4.1, x4.2))) else (if v2 < 0 then F_X4_lay_39 x2.2 else (if ain YY 0 8 v1 = true then (if v2 < (mi x2.2 8 (Int32.toNatClampNeg v1)) then (if ain YY 3 1 v1 = true then (if ain YY 0 (2 + Int32.toNatClampNeg v1) v2 = true then (if ain YY 3 1 v1 = true then (if ain YY 0 (2 + Int32.toNatClampNeg v1) v2 = true then (Option.bind (F_X4_tell (mi x2.2 (2 + Int32.toNatClampNeg v1) (Int32.toNatClampNeg v2)) (wi x2.2 (2 + Int32.toNatClampNeg v1) (Int32.toNatClampNeg v2) v3)) (fun x3 => some (x3.1, x3.2))) else none) else none) else none) else none) else F_X4_lay_39 x2.2) else none))) else none))))
set_option maxRecDepth 20000 in
set_option maxHeartbeats 4000000 in
theorem T_X4_lay (v1 : Int32) (v2 : Int32) (v3 : Int32) (u : XM) : GF E0 YY 2 yX4_lay cX4_lay 5 (some .int) 0 [some (.ref 0), some (.int v1), some (.int v2), some (.int v3), none] [] u emI (F_X4_lay v1 v2 v3 u) := by
  unfold F_X4_lay
  refine gf_iload_n (i := 1) (q := 1) dX4_lay_0 rfl rfl rfl ?_
  refine gf_callS_i (n2 := 1) (As := [.int v1]) (st := []) (q := 4) (hlen := rfl) kw177 kw178 dX4_lay_1 kw179 kw1 (by decide +kernel) (by decide) (Nat.le_of_ble_eq_true rfl) (C_X4_isRow v1 u) rfl rfl (fun x2 => ?_)
  refine gf_if_ne (t := 9) (q := 7) dX4_lay_4 (by decide) rfl ?_ ?_
  · refine gf_iconst (q := 8) dX4_lay_7 ki_m1 rfl ?_
    exact gf_reti dX4_lay_8 rfl
  · refine gf_aload_n (i := 0) (q := 10) dX4_lay_9 rfl rfl rfl ?_
    refine gf_getA (C := RX4) (T := TX4) (N := 15) (ci := 4) (k := 0) (j := 1) (t := 8) (q := 13) dX4_lay_10 rfl rfl kin4 (by decide) kw128 rfl rfl ?_
    refine gf_iload_n (i := 1) (q := 14) dX4_lay_13 rfl rfl rfl ?_
    refine gf_iald (q := 15) dX4_lay_14 rfl ?_
    refine gf_iconst (q := 16) dX4_lay_15 ki_m1 rfl ?_
    refine gf_icmp_ne (t := 25) (q := 19) dX4_lay_16 (by decide) rfl ?_ ?_
    · refine gf_aload_n (i := 0) (q := 20) dX4_lay_19 rfl rfl rfl ?_
      refine gf_iconst (q := 21) dX4_lay_20 ki_1 rfl ?_
      refine gf_callV_i (n2 := 1) (As := [.int 1]) (st := []) (b := 0) (ci := 4) (C := RX4) (q := 24) (hlen := rfl) rfl rfl kw180 kw182 kp0 dX4_lay_21 kw183 kw1 (by decide +kernel) (by decide) (Nat.le_of_ble_eq_true rfl) (C_X4_found 1 x2.2) rfl rfl (fun x4 => ?_)
      exact gf_reti dX4_lay_24 rfl
    · refine gf_iload_n (i := 2) (q := 26) dX4_lay_25 rfl rfl rfl ?_
      refine gf_if_lt (t := 39) (q := 29) dX4_lay_26 (by decide) rfl ?_ ?_
      · exact gf_mask (b := [true, false, false, false, false]) rfl (T_X4_lay_39 x2.2)
      · refine gf_iload_n (i := 2) (q := 30) dX4_lay_29 rfl rfl rfl ?_
        refine gf_aload_n (i := 0) (q := 31) dX4_lay_30 rfl rfl rfl ?_
        refine gf_getA (C := RX4) (T := TX4) (N := 15) (ci := 4) (k := 0) (j := 1) (t := 8) (q := 34) dX4_lay_31 rfl rfl kin4 (by decide) kw128 rfl rfl ?_
        refine gf_iload_n (i := 1) (q := 35) dX4_lay_34 rfl rfl rfl ?_
        refine gf_iald (q := 36) dX4_lay_35 rfl ?_
        refine gf_icmp_lt (t := 45) (q := 39) dX4_lay_36 (by decide) rfl ?_ ?_
        · refine gf_aload_n (i := 0) (q := 46) dX4_lay_45 rfl rfl rfl ?_
          refine gf_getA (C := RX4) (T := TX4) (N := 15) (ci := 4) (k := 0) (j := 0) (t := 1) (q := 49) dX4_lay_46 rfl rfl kin4 (by decide) kw127 rfl rfl ?_
          refine gf_iload_n (i := 1) (q := 50) dX4_lay_49 rfl rfl rfl ?_
          refine gf_aald3 (n := 6) (b := 2) (q := 51) dX4_lay_50 rfl rfl ?_
          refine gf_iload_n (i := 2) (q := 52) dX4_lay_51 rfl rfl rfl ?_
          refine gf_iald (q := 53) dX4_lay_52 rfl ?_
          refine gf_istore (lv2 := [some (.ref 0), some (.int v1), some (.int v2), some (.int v3), some (.int (mi x2.2 (2 + Int32.toNatClampNeg v1) (Int32.toNatClampNeg v2)))]) (q := 55) dX4_lay_53 (by decide) rfl rfl ?_
          refine gf_aload_n (i := 0) (q := 56) dX4_lay_55 rfl rfl rfl ?_
          refine gf_getA (C := RX4) (T := TX4) (N := 15) (ci := 4) (k := 0) (j := 0) (t := 1) (q := 59) dX4_lay_56 rfl rfl kin4 (by decide) kw127 rfl rfl ?_
          refine gf_iload_n (i := 1) (q := 60) dX4_lay_59 rfl rfl rfl ?_
          refine gf_aald3 (n := 6) (b := 2) (q := 61) dX4_lay_60 rfl rfl ?_
          refine gf_iload_n (i := 2) (q := 62) dX4_lay_61 rfl rfl rfl ?_
          refine gf_iload_n (i := 3) (q := 63) dX4_lay_62 rfl rfl rfl ?_
          refine gf_iast (q := 64) dX4_lay_63 rfl ?_
          refine gf_aload_n (i := 0) (q := 65) dX4_lay_64 rfl rfl rfl ?_
          refine gf_iload (q := 67) dX4_lay_65 rfl rfl ?_
          refine gf_callV_i (n2 := 1) (As := [.int (mi x2.2 (2 + Int32.toNatClampNeg v1) (Int32.toNatClampNeg v2))]) (st := []) (b := 0) (ci := 4) (C := RX4) (q := 70) (hlen := rfl) rfl rfl kw188 kw190 kp1 dX4_lay_67 kw191 kw1 (by decide +kernel) (by decide) (Nat.le_of_ble_eq_true rfl) (C_X4_tell (mi x2.2 (2 + Int32.toNatClampNeg v1) (Int32.toNatClampNeg v2)) (wi x2.2 (2 + Int32.toNatClampNeg v1) (Int32.toNatClampNeg v2) v3)) rfl rfl (fun x3 => ?_)
          exact gf_reti dX4_lay_70 rfl
        · exact gf_mask (b := [true, false, false, false, false]) rfl (T_X4_lay_39 x2.2)
theorem C_X4_lay (v1 : Int32) (v2 : Int32) (v3 : Int32) (u : XM) : CF YY 2 yX4_lay cX4_lay 5 (some .int) [.ref 0, .int v1, .int v2, .int v3] u emI (F_X4_lay v1 v2 v3 u) := cf_of (by decide +kernel) (Nat.le_of_ble_eq_true rfl) rfl (T_X4_lay v1 v2 v3 u)
def F_X4_at_39  (u : XM) : Option (Int32 × XM) := (Option.bind (F_X4_found 2 u) (fun x1 => some (x1.1, x1.2)))
set_option maxRecDepth 20000 in
set_option maxHeartbeats 4000000 in
theorem T_X4_at_39  (u : XM) : GF E0 YY 2 yX4_at cX4_at 3 (some .int) 39 [some (.ref 0), none, none] [] u emI (F_X4_at_39 u) := by
  unfold F_X4_at_39
  refine gf_aload_n (i := 0) (q := 40) dX4_at_39 rfl rfl rfl ?_
  refine gf_iconst (q := 41) dX4_at_40 ki_2 rfl ?_
  refine gf_callV_i (n2 := 1) (As := [.int 2]) (st := []) (b := 0) (ci := 4) (C := RX4) (q := 44) (hlen := rfl) rfl rfl kw180 kw182 kp0 dX4_at_41 kw183 kw1 (by decide +kernel) (by decide) (Nat.le_of_ble_eq_true rfl) (C_X4_found 2 u) rfl rfl (fun x1 => ?_)
  exact gf_reti dX4_at_44 rfl
def F_X4_at (v1 : Int32) (v2 : Int32) (u : XM) : Option (Int32 × XM) := (Option.bind (F_X4_isRow v1 u) (fun x2 => (if x2.1 = 0 then some ((-1), x2.2) else (if ain YY 0 8 v1 = true then (if (mi x2.2 8 (Int32.toNatClampNeg v1)) = (-1) then (Option.bind (F_X4_found 1 x2.2) (fun x4 => some (x4.1, x4.2))) else (if v2 < 0 then F_X4_at_39 x2.2 else (if ain YY 0 8 v1 = true then (if v2 < (mi x2.2 8 (Int32.toNatClampNeg v1)) then (if ain YY 3 1 v1 = true then (if ain YY 0 (2 + Int32.toNatClampNeg v1) v2 = true then (Option.bind (F_X4_tell (mi x2.2 (2 + Int32.toNatClampNeg v1) (Int32.toNatClampNeg v2)) x2.2) (fun x3 => some (x3.1, x3.2))) else none) else none) else F_X4_at_39 x2.2) else none))) else none))))
set_option maxRecDepth 20000 in
set_option maxHeartbeats 4000000 in
theorem T_X4_at (v1 : Int32) (v2 : Int32) (u : XM) : GF E0 YY 2 yX4_at cX4_at 3 (some .int) 0 [some (.ref 0), some (.int v1), some (.int v2)] [] u emI (F_X4_at v1 v2 u) := by
  unfold F_X4_at
  refine gf_iload_n (i := 1) (q := 1) dX4_at_0 rfl rfl rfl ?_
  refine gf_callS_i (n2 := 1) (As := [.int v1]) (st := []) (q := 4) (hlen := rfl) kw177 kw178 dX4_at_1 kw179 kw1 (by decide +kernel) (by decide) (Nat.le_of_ble_eq_true rfl) (C_X4_isRow v1 u) rfl rfl (fun x2 => ?_)
  refine gf_if_ne (t := 9) (q := 7) dX4_at_4 (by decide) rfl ?_ ?_
  · refine gf_iconst (q := 8) dX4_at_7 ki_m1 rfl ?_
    exact gf_reti dX4_at_8 rfl
  · refine gf_aload_n (i := 0) (q := 10) dX4_at_9 rfl rfl rfl ?_
    refine gf_getA (C := RX4) (T := TX4) (N := 15) (ci := 4) (k := 0) (j := 1) (t := 8) (q := 13) dX4_at_10 rfl rfl kin4 (by decide) kw128 rfl rfl ?_
    refine gf_iload_n (i := 1) (q := 14) dX4_at_13 rfl rfl rfl ?_
    refine gf_iald (q := 15) dX4_at_14 rfl ?_
    refine gf_iconst (q := 16) dX4_at_15 ki_m1 rfl ?_
    refine gf_icmp_ne (t := 25) (q := 19) dX4_at_16 (by decide) rfl ?_ ?_
    · refine gf_aload_n (i := 0) (q := 20) dX4_at_19 rfl rfl rfl ?_
      refine gf_iconst (q := 21) dX4_at_20 ki_1 rfl ?_
      refine gf_callV_i (n2 := 1) (As := [.int 1]) (st := []) (b := 0) (ci := 4) (C := RX4) (q := 24) (hlen := rfl) rfl rfl kw180 kw182 kp0 dX4_at_21 kw183 kw1 (by decide +kernel) (by decide) (Nat.le_of_ble_eq_true rfl) (C_X4_found 1 x2.2) rfl rfl (fun x4 => ?_)
      exact gf_reti dX4_at_24 rfl
    · refine gf_iload_n (i := 2) (q := 26) dX4_at_25 rfl rfl rfl ?_
      refine gf_if_lt (t := 39) (q := 29) dX4_at_26 (by decide) rfl ?_ ?_
      · exact gf_mask (b := [true, false, false]) rfl (T_X4_at_39 x2.2)
      · refine gf_iload_n (i := 2) (q := 30) dX4_at_29 rfl rfl rfl ?_
        refine gf_aload_n (i := 0) (q := 31) dX4_at_30 rfl rfl rfl ?_
        refine gf_getA (C := RX4) (T := TX4) (N := 15) (ci := 4) (k := 0) (j := 1) (t := 8) (q := 34) dX4_at_31 rfl rfl kin4 (by decide) kw128 rfl rfl ?_
        refine gf_iload_n (i := 1) (q := 35) dX4_at_34 rfl rfl rfl ?_
        refine gf_iald (q := 36) dX4_at_35 rfl ?_
        refine gf_icmp_lt (t := 45) (q := 39) dX4_at_36 (by decide) rfl ?_ ?_
        · refine gf_aload_n (i := 0) (q := 46) dX4_at_45 rfl rfl rfl ?_
          refine gf_aload_n (i := 0) (q := 47) dX4_at_46 rfl rfl rfl ?_
          refine gf_getA (C := RX4) (T := TX4) (N := 15) (ci := 4) (k := 0) (j := 0) (t := 1) (q := 50) dX4_at_47 rfl rfl kin4 (by decide) kw127 rfl rfl ?_
          refine gf_iload_n (i := 1) (q := 51) dX4_at_50 rfl rfl rfl ?_
          refine gf_aald3 (n := 6) (b := 2) (q := 52) dX4_at_51 rfl rfl ?_
          refine gf_iload_n (i := 2) (q := 53) dX4_at_52 rfl rfl rfl ?_
          refine gf_iald (q := 54) dX4_at_53 rfl ?_
          refine gf_callV_i (n2 := 1) (As := [.int (mi x2.2 (2 + Int32.toNatClampNeg v1) (Int32.toNatClampNeg v2))]) (st := []) (b := 0) (ci := 4) (C := RX4) (q := 57) (hlen := rfl) rfl rfl kw188 kw190 kp1 dX4_at_54 kw191 kw1 (by decide +kernel) (by decide) (Nat.le_of_ble_eq_true rfl) (C_X4_tell (mi x2.2 (2 + Int32.toNatClampNeg v1) (Int32.toNatClampNeg v2)) x2.2) rfl rfl (fun x3 => ?_)
          exact gf_reti dX4_at_57 rfl
        · exact gf_mask (b := [true, false, false]) rfl (T_X4_at_39 x2.2)
theorem C_X4_at (v1 : Int32) (v2 : Int32) (u : XM) : CF YY 2 yX4_at cX4_at 3 (some .int) [.ref 0, .int v1, .int v2] u emI (F_X4_at v1 v2 u) := cf_of (by decide +kernel) (Nat.le_of_ble_eq_true rfl) rfl (T_X4_at v1 v2 u)
def F_X4_tear (v1 : Int32) (u : XM) : Option (Int32 × XM) := (Option.bind (F_X4_isRow v1 u) (fun x1 => (if x1.1 = 0 then some ((-1), x1.2) else (if ain YY 0 8 v1 = true then (if (mi x1.2 8 (Int32.toNatClampNeg v1)) = (-1) then (Option.bind (F_X4_found 1 x1.2) (fun x2 => some (x2.1, x2.2))) else (if ain YY 0 8 v1 = true then some (1, (wi x1.2 8 (Int32.toNatClampNeg v1) (-1))) else none)) else none))))
set_option maxRecDepth 20000 in
set_option maxHeartbeats 4000000 in
theorem T_X4_tear (v1 : Int32) (u : XM) : GF E0 YY 2 yX4_tear cX4_tear 2 (some .int) 0 [some (.ref 0), some (.int v1)] [] u emI (F_X4_tear v1 u) := by
  unfold F_X4_tear
  refine gf_iload_n (i := 1) (q := 1) dX4_tear_0 rfl rfl rfl ?_
  refine gf_callS_i (n2 := 1) (As := [.int v1]) (st := []) (q := 4) (hlen := rfl) kw177 kw178 dX4_tear_1 kw179 kw1 (by decide +kernel) (by decide) (Nat.le_of_ble_eq_true rfl) (C_X4_isRow v1 u) rfl rfl (fun x1 => ?_)
  refine gf_if_ne (t := 9) (q := 7) dX4_tear_4 (by decide) rfl ?_ ?_
  · refine gf_iconst (q := 8) dX4_tear_7 ki_m1 rfl ?_
    exact gf_reti dX4_tear_8 rfl
  · refine gf_aload_n (i := 0) (q := 10) dX4_tear_9 rfl rfl rfl ?_
    refine gf_getA (C := RX4) (T := TX4) (N := 15) (ci := 4) (k := 0) (j := 1) (t := 8) (q := 13) dX4_tear_10 rfl rfl kin4 (by decide) kw128 rfl rfl ?_
    refine gf_iload_n (i := 1) (q := 14) dX4_tear_13 rfl rfl rfl ?_
    refine gf_iald (q := 15) dX4_tear_14 rfl ?_
    refine gf_iconst (q := 16) dX4_tear_15 ki_m1 rfl ?_
    refine gf_icmp_ne (t := 25) (q := 19) dX4_tear_16 (by decide) rfl ?_ ?_
    · refine gf_aload_n (i := 0) (q := 20) dX4_tear_19 rfl rfl rfl ?_
      refine gf_iconst (q := 21) dX4_tear_20 ki_1 rfl ?_
      refine gf_callV_i (n2 := 1) (As := [.int 1]) (st := []) (b := 0) (ci := 4) (C := RX4) (q := 24) (hlen := rfl) rfl rfl kw180 kw182 kp0 dX4_tear_21 kw183 kw1 (by decide +kernel) (by decide) (Nat.le_of_ble_eq_true rfl) (C_X4_found 1 x1.2) rfl rfl (fun x2 => ?_)
      exact gf_reti dX4_tear_24 rfl
    · refine gf_aload_n (i := 0) (q := 26) dX4_tear_25 rfl rfl rfl ?_
      refine gf_getA (C := RX4) (T := TX4) (N := 15) (ci := 4) (k := 0) (j := 1) (t := 8) (q := 29) dX4_tear_26 rfl rfl kin4 (by decide) kw128 rfl rfl ?_
      refine gf_iload_n (i := 1) (q := 30) dX4_tear_29 rfl rfl rfl ?_
      refine gf_iconst (q := 31) dX4_tear_30 ki_m1 rfl ?_
      refine gf_iast (q := 32) dX4_tear_31 rfl ?_
      refine gf_iconst (q := 33) dX4_tear_32 ki_1 rfl ?_
      exact gf_reti dX4_tear_33 rfl
theorem C_X4_tear (v1 : Int32) (u : XM) : CF YY 2 yX4_tear cX4_tear 2 (some .int) [.ref 0, .int v1] u emI (F_X4_tear v1 u) := cf_of (by decide +kernel) (Nat.le_of_ble_eq_true rfl) rfl (T_X4_tear v1 u)
def F_X4_hasSpan (v0 : Int32) (v1 : Int32) (v2 : Int32) (u : XM) : Option (Int32 × XM) := (if v1 < 0 then some (0, u) else (if v0 < v1 then some (0, u) else (if (v0 - v1) < v2 then some (0, u) else some (1, u))))
set_option maxRecDepth 20000 in
set_option maxHeartbeats 4000000 in
theorem T_X4_hasSpan (v0 : Int32) (v1 : Int32) (v2 : Int32) (u : XM) : GF E0 YY 1 yX4_hasSpan cX4_hasSpan 3 (some .boolean) 0 [some (.int v0), some (.int v1), some (.int v2)] [] u emI (F_X4_hasSpan v0 v1 v2 u) := by
  unfold F_X4_hasSpan
  refine gf_iload_n (i := 1) (q := 1) dX4_hasSpan_0 rfl rfl rfl ?_
  refine gf_if_lt (t := 20) (q := 4) dX4_hasSpan_1 (by decide) rfl ?_ ?_
  · refine gf_iconst (q := 21) dX4_hasSpan_20 ki_0 rfl ?_
    exact gf_retz dX4_hasSpan_21 rfl rfl
  · refine gf_iload_n (i := 1) (q := 5) dX4_hasSpan_4 rfl rfl rfl ?_
    refine gf_iload_n (i := 0) (q := 6) dX4_hasSpan_5 rfl rfl rfl ?_
    refine gf_icmp_gt (t := 20) (q := 9) dX4_hasSpan_6 (by decide) rfl ?_ ?_
    · refine gf_iconst (q := 21) dX4_hasSpan_20 ki_0 rfl ?_
      exact gf_retz dX4_hasSpan_21 rfl rfl
    · refine gf_iload_n (i := 2) (q := 10) dX4_hasSpan_9 rfl rfl rfl ?_
      refine gf_iload_n (i := 0) (q := 11) dX4_hasSpan_10 rfl rfl rfl ?_
      refine gf_iload_n (i := 1) (q := 12) dX4_hasSpan_11 rfl rfl rfl ?_
      refine gf_isub (q := 13) dX4_hasSpan_12 rfl ?_
      refine gf_icmp_gt (t := 20) (q := 16) dX4_hasSpan_13 (by decide) rfl ?_ ?_
      · refine gf_iconst (q := 21) dX4_hasSpan_20 ki_0 rfl ?_
        exact gf_retz dX4_hasSpan_21 rfl rfl
      · refine gf_iconst (q := 17) dX4_hasSpan_16 ki_1 rfl ?_
        refine gf_goto (q := 21) dX4_hasSpan_17 (by decide) ?_
        exact gf_retz dX4_hasSpan_21 rfl rfl
theorem C_X4_hasSpan (v0 : Int32) (v1 : Int32) (v2 : Int32) (u : XM) : CF YY 1 yX4_hasSpan cX4_hasSpan 3 (some .boolean) [.int v0, .int v1, .int v2] u emI (F_X4_hasSpan v0 v1 v2 u) := cf_of (by decide +kernel) (Nat.le_of_ble_eq_true rfl) rfl (T_X4_hasSpan v0 v1 v2 u)
def F_X4_copy_84  (u : XM) : Option (Int32 × XM) := (Option.bind (F_X4_found 2 u) (fun x1 => some (x1.1, x1.2)))
set_option maxRecDepth 20000 in
set_option maxHeartbeats 4000000 in
theorem T_X4_copy_84  (u : XM) : GF E0 YY 2 yX4_copy cX4_copy 6 (some .int) 84 [some (.ref 0), none, none, none, none, none] [] u emI (F_X4_copy_84 u) := by
  unfold F_X4_copy_84
  refine gf_aload_n (i := 0) (q := 85) dX4_copy_84 rfl rfl rfl ?_
  refine gf_iconst (q := 86) dX4_copy_85 ki_2 rfl ?_
  refine gf_callV_i (n2 := 1) (As := [.int 2]) (st := []) (b := 0) (ci := 4) (C := RX4) (q := 89) (hlen := rfl) rfl rfl kw180 kw182 kp0 dX4_copy_86 kw183 kw1 (by decide +kernel) (by decide) (Nat.le_of_ble_eq_true rfl) (C_X4_found 2 u) rfl rfl (fun x1 => ?_)
  exact gf_reti dX4_copy_89 rfl
def F_X4_copy_47  (u : XM) : Option (Int32 × XM) := (Option.bind (F_X4_found 1 u) (fun x2 => some (x2.1, x2.2)))
set_option maxRecDepth 20000 in
set_option maxHeartbeats 4000000 in
theorem T_X4_copy_47  (u : XM) : GF E0 YY 2 yX4_copy cX4_copy 6 (some .int) 47 [some (.ref 0), none, none, none, none, none] [] u emI (F_X4_copy_47 u) := by
  unfold F_X4_copy_47
  refine gf_aload_n (i := 0) (q := 48) dX4_copy_47 rfl rfl rfl ?_
  refine gf_iconst (q := 49) dX4_copy_48 ki_1 rfl ?_
  refine gf_callV_i (n2 := 1) (As := [.int 1]) (st := []) (b := 0) (ci := 4) (C := RX4) (q := 52) (hlen := rfl) rfl rfl kw180 kw182 kp0 dX4_copy_49 kw183 kw1 (by decide +kernel) (by decide) (Nat.le_of_ble_eq_true rfl) (C_X4_found 1 u) rfl rfl (fun x2 => ?_)
  exact gf_reti dX4_copy_52 rfl
def F_X4_copy (v1 : Int32) (v2 : Int32) (v3 : Int32) (v4 : Int32) (v5 : Int32) (u : XM) : Option (Int32 × XM) := (Option.bind (F_X4_isRow v1 u) (fun x3 => (if x3.1 = 0 then some ((-1), x3.2) else (Option.bind (F_X4_isRow v3 x3.2) (fun x4 => (if x4.1 = 0 then some ((-1), x4.2) else (if 0 ≤ v5 then (if ain YY 0 8 v1 = true then (if (mi x4.2 8 (Int32.toNatClampNeg v1)) = (-1) then F_X4_copy_47 x4.2 else (if ain YY 0 8 v3 = true then (if (mi x4.2 8 (Int32.toNatClampNeg v3)) = (-1) then F_X4_copy_47 x4.2 else (if ain YY 0 8 v1 = true then (Option.bind (F_X4_hasSpan (mi x4.2 8 (Int32.toNatClampNeg v1)) v2 v5 x4.2) (fun x5 => (if x5.1 = 0 then F_X4_copy_84 x5.2 else (if ain YY 0 8 v3 = true then (Option.bind (F_X4_hasSpan (mi x5.2 8 (Int32.toNatClampNeg v3)) v4 v5 x5.2) (fun x6 => (if x6.1 = 0 then F_X4_copy_84 x6.2 else (if ain YY 3 1 v1 = true then (if ain YY 3 1 v3 = true then (Option.bind (alen YY 0 (2 + Int32.toNatClampNeg v1)) (fun n7 => Option.bind (alen YY 0 (2 + Int32.toNatClampNeg v3)) (fun n8 => if (0 : Int32) ≤ v2 ∧ (0 : Int32) ≤ v4 ∧ (0 : Int32) ≤ v5 ∧ (Int32.toNatClampNeg v2) + (Int32.toNatClampNeg v5) ≤ n7 ∧ (Int32.toNatClampNeg v4) + (Int32.toNatClampNeg v5) ≤ n8 then some (1, (wc x6.2 (2 + Int32.toNatClampNeg v1) (Int32.toNatClampNeg v2) (2 + Int32.toNatClampNeg v3) (Int32.toNatClampNeg v4) (Int32.toNatClampNeg v5))) else none))) else none) else none)))) else none)))) else none)) else none)) else none) else (Option.bind (F_X4_found 5 x4.2) (fun x9 => some (x9.1, x9.2))))))))))
set_option maxRecDepth 20000 in
set_option maxHeartbeats 4000000 in
theorem T_X4_copy (v1 : Int32) (v2 : Int32) (v3 : Int32) (v4 : Int32) (v5 : Int32) (u : XM) : GF E0 YY 2 yX4_copy cX4_copy 6 (some .int) 0 [some (.ref 0), some (.int v1), some (.int v2), some (.int v3), some (.int v4), some (.int v5)] [] u emI (F_X4_copy v1 v2 v3 v4 v5 u) := by
  unfold F_X4_copy
  refine gf_iload_n (i := 1) (q := 1) dX4_copy_0 rfl rfl rfl ?_
  refine gf_callS_i (n2 := 1) (As := [.int v1]) (st := []) (q := 4) (hlen := rfl) kw177 kw178 dX4_copy_1 kw179 kw1 (by decide +kernel) (by decide) (Nat.le_of_ble_eq_true rfl) (C_X4_isRow v1 u) rfl rfl (fun x3 => ?_)
  refine gf_if_eq (t := 14) (q := 7) dX4_copy_4 (by decide) rfl ?_ ?_
  · refine gf_iconst (q := 15) dX4_copy_14 ki_m1 rfl ?_
    exact gf_reti dX4_copy_15 rfl
  · refine gf_iload_n (i := 3) (q := 8) dX4_copy_7 rfl rfl rfl ?_
    refine gf_callS_i (n2 := 1) (As := [.int v3]) (st := []) (q := 11) (hlen := rfl) kw177 kw178 dX4_copy_8 kw179 kw1 (by decide +kernel) (by decide) (Nat.le_of_ble_eq_true rfl) (C_X4_isRow v3 x3.2) rfl rfl (fun x4 => ?_)
    refine gf_if_ne (t := 16) (q := 14) dX4_copy_11 (by decide) rfl ?_ ?_
    · refine gf_iconst (q := 15) dX4_copy_14 ki_m1 rfl ?_
      exact gf_reti dX4_copy_15 rfl
    · refine gf_iload (q := 18) dX4_copy_16 rfl rfl ?_
      refine gf_if_ge (t := 27) (q := 21) dX4_copy_18 (by decide) rfl ?_ ?_
      · refine gf_aload_n (i := 0) (q := 28) dX4_copy_27 rfl rfl rfl ?_
        refine gf_getA (C := RX4) (T := TX4) (N := 15) (ci := 4) (k := 0) (j := 1) (t := 8) (q := 31) dX4_copy_28 rfl rfl kin4 (by decide) kw128 rfl rfl ?_
        refine gf_iload_n (i := 1) (q := 32) dX4_copy_31 rfl rfl rfl ?_
        refine gf_iald (q := 33) dX4_copy_32 rfl ?_
        refine gf_iconst (q := 34) dX4_copy_33 ki_m1 rfl ?_
        refine gf_icmp_eq (t := 47) (q := 37) dX4_copy_34 (by decide) rfl ?_ ?_
        · exact gf_mask (b := [true, false, false, false, false, false]) rfl (T_X4_copy_47 x4.2)
        · refine gf_aload_n (i := 0) (q := 38) dX4_copy_37 rfl rfl rfl ?_
          refine gf_getA (C := RX4) (T := TX4) (N := 15) (ci := 4) (k := 0) (j := 1) (t := 8) (q := 41) dX4_copy_38 rfl rfl kin4 (by decide) kw128 rfl rfl ?_
          refine gf_iload_n (i := 3) (q := 42) dX4_copy_41 rfl rfl rfl ?_
          refine gf_iald (q := 43) dX4_copy_42 rfl ?_
          refine gf_iconst (q := 44) dX4_copy_43 ki_m1 rfl ?_
          refine gf_icmp_ne (t := 53) (q := 47) dX4_copy_44 (by decide) rfl ?_ ?_
          · exact gf_mask (b := [true, false, false, false, false, false]) rfl (T_X4_copy_47 x4.2)
          · refine gf_aload_n (i := 0) (q := 54) dX4_copy_53 rfl rfl rfl ?_
            refine gf_getA (C := RX4) (T := TX4) (N := 15) (ci := 4) (k := 0) (j := 1) (t := 8) (q := 57) dX4_copy_54 rfl rfl kin4 (by decide) kw128 rfl rfl ?_
            refine gf_iload_n (i := 1) (q := 58) dX4_copy_57 rfl rfl rfl ?_
            refine gf_iald (q := 59) dX4_copy_58 rfl ?_
            refine gf_iload_n (i := 2) (q := 60) dX4_copy_59 rfl rfl rfl ?_
            refine gf_iload (q := 62) dX4_copy_60 rfl rfl ?_
            refine gf_callS_i (n2 := 3) (As := [.int (mi x4.2 8 (Int32.toNatClampNeg v1)), .int v2, .int v5]) (st := []) (q := 65) (hlen := rfl) kw204 kw205 dX4_copy_62 kw206 kw1 (by decide +kernel) (by decide) (Nat.le_of_ble_eq_true rfl) (C_X4_hasSpan (mi x4.2 8 (Int32.toNatClampNeg v1)) v2 v5 x4.2) rfl rfl (fun x5 => ?_)
            refine gf_if_eq (t := 84) (q := 68) dX4_copy_65 (by decide) rfl ?_ ?_
            · exact gf_mask (b := [true, false, false, false, false, false]) rfl (T_X4_copy_84 x5.2)
            · refine gf_aload_n (i := 0) (q := 69) dX4_copy_68 rfl rfl rfl ?_
              refine gf_getA (C := RX4) (T := TX4) (N := 15) (ci := 4) (k := 0) (j := 1) (t := 8) (q := 72) dX4_copy_69 rfl rfl kin4 (by decide) kw128 rfl rfl ?_
              refine gf_iload_n (i := 3) (q := 73) dX4_copy_72 rfl rfl rfl ?_
              refine gf_iald (q := 74) dX4_copy_73 rfl ?_
              refine gf_iload (q := 76) dX4_copy_74 rfl rfl ?_
              refine gf_iload (q := 78) dX4_copy_76 rfl rfl ?_
              refine gf_callS_i (n2 := 3) (As := [.int (mi x5.2 8 (Int32.toNatClampNeg v3)), .int v4, .int v5]) (st := []) (q := 81) (hlen := rfl) kw204 kw205 dX4_copy_78 kw206 kw1 (by decide +kernel) (by decide) (Nat.le_of_ble_eq_true rfl) (C_X4_hasSpan (mi x5.2 8 (Int32.toNatClampNeg v3)) v4 v5 x5.2) rfl rfl (fun x6 => ?_)
              refine gf_if_ne (t := 90) (q := 84) dX4_copy_81 (by decide) rfl ?_ ?_
              · exact gf_mask (b := [true, false, false, false, false, false]) rfl (T_X4_copy_84 x6.2)
              · refine gf_aload_n (i := 0) (q := 91) dX4_copy_90 rfl rfl rfl ?_
                refine gf_getA (C := RX4) (T := TX4) (N := 15) (ci := 4) (k := 0) (j := 0) (t := 1) (q := 94) dX4_copy_91 rfl rfl kin4 (by decide) kw127 rfl rfl ?_
                refine gf_iload_n (i := 1) (q := 95) dX4_copy_94 rfl rfl rfl ?_
                refine gf_aald3 (n := 6) (b := 2) (q := 96) dX4_copy_95 rfl rfl ?_
                refine gf_iload_n (i := 2) (q := 97) dX4_copy_96 rfl rfl rfl ?_
                refine gf_aload_n (i := 0) (q := 98) dX4_copy_97 rfl rfl rfl ?_
                refine gf_getA (C := RX4) (T := TX4) (N := 15) (ci := 4) (k := 0) (j := 0) (t := 1) (q := 101) dX4_copy_98 rfl rfl kin4 (by decide) kw127 rfl rfl ?_
                refine gf_iload_n (i := 3) (q := 102) dX4_copy_101 rfl rfl rfl ?_
                refine gf_aald3 (n := 6) (b := 2) (q := 103) dX4_copy_102 rfl rfl ?_
                refine gf_iload (q := 105) dX4_copy_103 rfl rfl ?_
                refine gf_iload (q := 107) dX4_copy_105 rfl rfl ?_
                refine gf_copy (q := 110) dX4_copy_107 kw207 kw209 kw208 kw8 (by decide) (by decide) rfl ?_
                refine gf_iconst (q := 111) dX4_copy_110 ki_1 rfl ?_
                exact gf_reti dX4_copy_111 rfl
      · refine gf_aload_n (i := 0) (q := 22) dX4_copy_21 rfl rfl rfl ?_
        refine gf_iconst (q := 23) dX4_copy_22 ki_5 rfl ?_
        refine gf_callV_i (n2 := 1) (As := [.int 5]) (st := []) (b := 0) (ci := 4) (C := RX4) (q := 26) (hlen := rfl) rfl rfl kw180 kw182 kp0 dX4_copy_23 kw183 kw1 (by decide +kernel) (by decide) (Nat.le_of_ble_eq_true rfl) (C_X4_found 5 x4.2) rfl rfl (fun x9 => ?_)
        exact gf_reti dX4_copy_26 rfl
theorem C_X4_copy (v1 : Int32) (v2 : Int32) (v3 : Int32) (v4 : Int32) (v5 : Int32) (u : XM) : CF YY 2 yX4_copy cX4_copy 6 (some .int) [.ref 0, .int v1, .int v2, .int v3, .int v4, .int v5] u emI (F_X4_copy v1 v2 v3 v4 v5 u) := cf_of (by decide +kernel) (Nat.le_of_ble_eq_true rfl) rfl (T_X4_copy v1 v2 v3 v4 v5 u)
def F_X4_mean_42 : Nat → Int32 → Int32 → Int64 → Int32 → XM → Option (Int32 × XM)
  | 0, _, _, _, _, _ => none
  | n + 1, v1, v2, v3, v5, u => (if v2 ≤ v5 then (if (Int32.toInt64 v2) = 0 then none else (Option.bind (F_X4_tell (Int64.toInt32 (v3 / (Int32.toInt64 v2))) u) (fun x1 => some (x1.1, x1.2)))) else (if ain YY 3 1 v1 = true then (if ain YY 0 (2 + Int32.toNatClampNeg v1) v5 = true then F_X4_mean_42 n v1 v2 (v3 + (Int32.toInt64 (mi u (2 + Int32.toNatClampNeg v1) (Int32.toNatClampNeg v5)))) (v5 + 1) u else none) else none))
set_option maxRecDepth 20000 in
set_option maxHeartbeats 4000000 in
theorem T_X4_mean_42 : ∀ (n : Nat) (v1 : Int32) (v2 : Int32) (v3 : Int64) (v5 : Int32) (u : XM), GF E0 YY 2 yX4_mean cX4_mean 6 (some .int) 42 [some (.ref 0), some (.int v1), some (.int v2), some (.long v3), none, some (.int v5)] [] u emI (F_X4_mean_42 n v1 v2 v3 v5 u) := by
  intro n
  induction n with
  | zero => intro v1 v2 v3 v5 u; exact gf_none
  | succ n ih =>
    intro v1 v2 v3 v5 u
    unfold F_X4_mean_42
    refine gf_iload (q := 44) dX4_mean_42 rfl rfl ?_
    refine gf_iload_n (i := 2) (q := 45) dX4_mean_44 rfl rfl rfl ?_
    refine gf_icmp_ge (t := 67) (q := 48) dX4_mean_45 (by decide) rfl ?_ ?_
    · refine gf_aload_n (i := 0) (q := 68) dX4_mean_67 rfl rfl rfl ?_
      refine gf_lload_n (i := 3) (q := 69) dX4_mean_68 rfl rfl rfl ?_
      refine gf_iload_n (i := 2) (q := 70) dX4_mean_69 rfl rfl rfl ?_
      refine gf_i2l (q := 71) dX4_mean_70 rfl ?_
      refine gf_ldiv (q := 72) dX4_mean_71 rfl ?_
      refine gf_l2i (q := 73) dX4_mean_72 rfl ?_
      refine gf_callV_i (n2 := 1) (As := [.int (Int64.toInt32 (v3 / (Int32.toInt64 v2)))]) (st := []) (b := 0) (ci := 4) (C := RX4) (q := 76) (hlen := rfl) rfl rfl kw188 kw190 kp1 dX4_mean_73 kw191 kw1 (by decide +kernel) (by decide) (Nat.le_of_ble_eq_true rfl) (C_X4_tell (Int64.toInt32 (v3 / (Int32.toInt64 v2))) u) rfl rfl (fun x1 => ?_)
      exact gf_reti dX4_mean_76 rfl
    · refine gf_lload_n (i := 3) (q := 49) dX4_mean_48 rfl rfl rfl ?_
      refine gf_aload_n (i := 0) (q := 50) dX4_mean_49 rfl rfl rfl ?_
      refine gf_getA (C := RX4) (T := TX4) (N := 15) (ci := 4) (k := 0) (j := 0) (t := 1) (q := 53) dX4_mean_50 rfl rfl kin4 (by decide) kw127 rfl rfl ?_
      refine gf_iload_n (i := 1) (q := 54) dX4_mean_53 rfl rfl rfl ?_
      refine gf_aald3 (n := 6) (b := 2) (q := 55) dX4_mean_54 rfl rfl ?_
      refine gf_iload (q := 57) dX4_mean_55 rfl rfl ?_
      refine gf_iald (q := 58) dX4_mean_57 rfl ?_
      refine gf_i2l (q := 59) dX4_mean_58 rfl ?_
      refine gf_ladd (q := 60) dX4_mean_59 rfl ?_
      refine gf_lstore_n (i := 3) (lv2 := [some (.ref 0), some (.int v1), some (.int v2), some (.long (v3 + (Int32.toInt64 (mi u (2 + Int32.toNatClampNeg v1) (Int32.toNatClampNeg v5))))), none, some (.int v5)]) (q := 61) dX4_mean_60 rfl (by decide) rfl rfl ?_
      refine gf_iinc (v := (v5 + 1)) (lv2 := [some (.ref 0), some (.int v1), some (.int v2), some (.long (v3 + (Int32.toInt64 (mi u (2 + Int32.toNatClampNeg v1) (Int32.toNatClampNeg v5))))), none, some (.int (v5 + 1))]) (q := 64) dX4_mean_61 rfl (congrArg _ ki_1) (by decide) rfl rfl ?_
      refine gf_goto (q := 42) dX4_mean_64 (by decide) ?_
      exact (ih v1 v2 (v3 + (Int32.toInt64 (mi u (2 + Int32.toNatClampNeg v1) (Int32.toNatClampNeg v5)))) (v5 + 1) u)
def F_X4_mean (v1 : Int32) (u : XM) : Option (Int32 × XM) := (Option.bind (F_X4_isRow v1 u) (fun x2 => (if x2.1 = 0 then some ((-1), x2.2) else (if ain YY 0 8 v1 = true then (if (mi x2.2 8 (Int32.toNatClampNeg v1)) = (-1) then (Option.bind (F_X4_found 1 x2.2) (fun x4 => some (x4.1, x4.2))) else (if (mi x2.2 8 (Int32.toNatClampNeg v1)) = 0 then (Option.bind (F_X4_found 4 x2.2) (fun x3 => some (x3.1, x3.2))) else F_X4_mean_42 FU v1 (mi x2.2 8 (Int32.toNatClampNeg v1)) 0 0 x2.2)) else none))))
set_option maxRecDepth 20000 in
set_option maxHeartbeats 4000000 in
theorem T_X4_mean (v1 : Int32) (u : XM) : GF E0 YY 2 yX4_mean cX4_mean 6 (some .int) 0 [some (.ref 0), some (.int v1), none, none, none, none] [] u emI (F_X4_mean v1 u) := by
  unfold F_X4_mean
  refine gf_iload_n (i := 1) (q := 1) dX4_mean_0 rfl rfl rfl ?_
  refine gf_callS_i (n2 := 1) (As := [.int v1]) (st := []) (q := 4) (hlen := rfl) kw177 kw178 dX4_mean_1 kw179 kw1 (by decide +kernel) (by decide) (Nat.le_of_ble_eq_true rfl) (C_X4_isRow v1 u) rfl rfl (fun x2 => ?_)
  refine gf_if_ne (t := 9) (q := 7) dX4_mean_4 (by decide) rfl ?_ ?_
  · refine gf_iconst (q := 8) dX4_mean_7 ki_m1 rfl ?_
    exact gf_reti dX4_mean_8 rfl
  · refine gf_aload_n (i := 0) (q := 10) dX4_mean_9 rfl rfl rfl ?_
    refine gf_getA (C := RX4) (T := TX4) (N := 15) (ci := 4) (k := 0) (j := 1) (t := 8) (q := 13) dX4_mean_10 rfl rfl kin4 (by decide) kw128 rfl rfl ?_
    refine gf_iload_n (i := 1) (q := 14) dX4_mean_13 rfl rfl rfl ?_
    refine gf_iald (q := 15) dX4_mean_14 rfl ?_
    refine gf_istore_n (i := 2) (lv2 := [some (.ref 0), some (.int v1), some (.int (mi x2.2 8 (Int32.toNatClampNeg v1))), none, none, none]) (q := 16) dX4_mean_15 rfl (by decide) rfl rfl ?_
    refine gf_iload_n (i := 2) (q := 17) dX4_mean_16 rfl rfl rfl ?_
    refine gf_iconst (q := 18) dX4_mean_17 ki_m1 rfl ?_
    refine gf_icmp_ne (t := 27) (q := 21) dX4_mean_18 (by decide) rfl ?_ ?_
    · refine gf_aload_n (i := 0) (q := 22) dX4_mean_21 rfl rfl rfl ?_
      refine gf_iconst (q := 23) dX4_mean_22 ki_1 rfl ?_
      refine gf_callV_i (n2 := 1) (As := [.int 1]) (st := []) (b := 0) (ci := 4) (C := RX4) (q := 26) (hlen := rfl) rfl rfl kw180 kw182 kp0 dX4_mean_23 kw183 kw1 (by decide +kernel) (by decide) (Nat.le_of_ble_eq_true rfl) (C_X4_found 1 x2.2) rfl rfl (fun x4 => ?_)
      exact gf_reti dX4_mean_26 rfl
    · refine gf_iload_n (i := 2) (q := 28) dX4_mean_27 rfl rfl rfl ?_
      refine gf_if_ne (t := 37) (q := 31) dX4_mean_28 (by decide) rfl ?_ ?_
      · refine gf_aload_n (i := 0) (q := 32) dX4_mean_31 rfl rfl rfl ?_
        refine gf_iconst (q := 33) dX4_mean_32 ki_4 rfl ?_
        refine gf_callV_i (n2 := 1) (As := [.int 4]) (st := []) (b := 0) (ci := 4) (C := RX4) (q := 36) (hlen := rfl) rfl rfl kw180 kw182 kp0 dX4_mean_33 kw183 kw1 (by decide +kernel) (by decide) (Nat.le_of_ble_eq_true rfl) (C_X4_found 4 x2.2) rfl rfl (fun x3 => ?_)
        exact gf_reti dX4_mean_36 rfl
      · refine gf_lconst (v := 0) (q := 38) dX4_mean_37 rfl rfl ?_
        refine gf_lstore_n (i := 3) (lv2 := [some (.ref 0), some (.int v1), some (.int (mi x2.2 8 (Int32.toNatClampNeg v1))), some (.long 0), none, none]) (q := 39) dX4_mean_38 rfl (by decide) rfl rfl ?_
        refine gf_iconst (q := 40) dX4_mean_39 ki_0 rfl ?_
        refine gf_istore (lv2 := [some (.ref 0), some (.int v1), some (.int (mi x2.2 8 (Int32.toNatClampNeg v1))), some (.long 0), none, some (.int 0)]) (q := 42) dX4_mean_40 (by decide) rfl rfl ?_
        exact (T_X4_mean_42 FU v1 (mi x2.2 8 (Int32.toNatClampNeg v1)) 0 0 x2.2)
theorem C_X4_mean (v1 : Int32) (u : XM) : CF YY 2 yX4_mean cX4_mean 6 (some .int) [.ref 0, .int v1] u emI (F_X4_mean v1 u) := cf_of (by decide +kernel) (Nat.le_of_ble_eq_true rfl) rfl (T_X4_mean v1 u)
def F_X4_isText (v0 : Int32) (u : XM) : Option (Int32 × XM) := (if v0 < 0 then some (0, u) else (if 4 ≤ v0 then some (0, u) else some (1, u)))
set_option maxRecDepth 20000 in
set_option maxHeartbeats 4000000 in
theorem T_X4_isText (v0 : Int32) (u : XM) : GF E0 YY 1 yX4_isText cX4_isText 1 (some .boolean) 0 [some (.int v0)] [] u emI (F_X4_isText v0 u) := by
  unfold F_X4_isText
  refine gf_iload_n (i := 0) (q := 1) dX4_isText_0 rfl rfl rfl ?_
  refine gf_if_lt (t := 13) (q := 4) dX4_isText_1 (by decide) rfl ?_ ?_
  · refine gf_iconst (q := 14) dX4_isText_13 ki_0 rfl ?_
    exact gf_retz dX4_isText_14 rfl rfl
  · refine gf_iload_n (i := 0) (q := 5) dX4_isText_4 rfl rfl rfl ?_
    refine gf_iconst (q := 6) dX4_isText_5 ki_4 rfl ?_
    refine gf_icmp_ge (t := 13) (q := 9) dX4_isText_6 (by decide) rfl ?_ ?_
    · refine gf_iconst (q := 14) dX4_isText_13 ki_0 rfl ?_
      exact gf_retz dX4_isText_14 rfl rfl
    · refine gf_iconst (q := 10) dX4_isText_9 ki_1 rfl ?_
      refine gf_goto (q := 14) dX4_isText_10 (by decide) ?_
      exact gf_retz dX4_isText_14 rfl rfl
theorem C_X4_isText (v0 : Int32) (u : XM) : CF YY 1 yX4_isText cX4_isText 1 (some .boolean) [.int v0] u emI (F_X4_isText v0 u) := cf_of (by decide +kernel) (Nat.le_of_ble_eq_true rfl) rfl (T_X4_isText v0 u)
def F_X4_text (v1 : Int32) (v2 : Int32) (u : XM) : Option (Int32 × XM) := (Option.bind (F_X4_isText v1 u) (fun x1 => (if x1.1 = 0 then some ((-1), x1.2) else (if v2 ≤ 60 then (if 0 ≤ v2 then (if ain YY 4 9 v1 = true then (Option.bind (F_J7_fill_031fb YY (10 + Int32.toNatClampNeg v1) 32 x1.2) (fun x2 => (if ain YY 0 14 v1 = true then some (v2, (wi x2.2 14 (Int32.toNatClampNeg v1) v2)) else none))) else none) else (Option.bind (F_X4_found 5 x1.2) (fun x3 => some (x3.1, x3.2)))) else some ((-1), x1.2)))))
set_option maxRecDepth 20000 in
set_option maxHeartbeats 4000000 in
theorem T_X4_text (v1 : Int32) (v2 : Int32) (u : XM) : GF E0 YY 2 yX4_text cX4_text 3 (some .int) 0 [some (.ref 0), some (.int v1), some (.int v2)] [] u emI (F_X4_text v1 v2 u) := by
  unfold F_X4_text
  refine gf_iload_n (i := 1) (q := 1) dX4_text_0 rfl rfl rfl ?_
  refine gf_callS_i (n2 := 1) (As := [.int v1]) (st := []) (q := 4) (hlen := rfl) kw218 kw219 dX4_text_1 kw220 kw1 (by decide +kernel) (by decide) (Nat.le_of_ble_eq_true rfl) (C_X4_isText v1 u) rfl rfl (fun x1 => ?_)
  refine gf_if_eq (t := 13) (q := 7) dX4_text_4 (by decide) rfl ?_ ?_
  · refine gf_iconst (q := 14) dX4_text_13 ki_m1 rfl ?_
    exact gf_reti dX4_text_14 rfl
  · refine gf_iload_n (i := 2) (q := 8) dX4_text_7 rfl rfl rfl ?_
    refine gf_bipush (q := 10) dX4_text_8 kb_60 rfl ?_
    refine gf_icmp_le (t := 15) (q := 13) dX4_text_10 (by decide) rfl ?_ ?_
    · refine gf_iload_n (i := 2) (q := 16) dX4_text_15 rfl rfl rfl ?_
      refine gf_if_ge (t := 25) (q := 19) dX4_text_16 (by decide) rfl ?_ ?_
      · refine gf_aload_n (i := 0) (q := 26) dX4_text_25 rfl rfl rfl ?_
        refine gf_getA (C := RX4) (T := TX4) (N := 15) (ci := 4) (k := 0) (j := 2) (t := 9) (q := 29) dX4_text_26 rfl rfl kin4 (by decide) kw129 rfl rfl ?_
        refine gf_iload_n (i := 1) (q := 30) dX4_text_29 rfl rfl rfl ?_
        refine gf_aald4 (n := 4) (b := 10) (q := 31) dX4_text_30 rfl rfl ?_
        refine gf_bipush (q := 33) dX4_text_31 kb_32 rfl ?_
        refine gf_callS_v (n2 := 2) (As := [.ref (10 + Int32.toNatClampNeg v1), .int 32]) (st := []) (q := 36) (hlen := rfl) kw221 kw222 dX4_text_33 kw223 kw6 (by decide +kernel) (by decide) (Nat.le_of_ble_eq_true rfl) (C_J7_fill_031fb YY (10 + Int32.toNatClampNeg v1) 32 x1.2) rfl rfl (fun x2 => ?_)
        refine gf_aload_n (i := 0) (q := 37) dX4_text_36 rfl rfl rfl ?_
        refine gf_getA (C := RX4) (T := TX4) (N := 15) (ci := 4) (k := 0) (j := 3) (t := 14) (q := 40) dX4_text_37 rfl rfl kin4 (by decide) kw130 rfl rfl ?_
        refine gf_iload_n (i := 1) (q := 41) dX4_text_40 rfl rfl rfl ?_
        refine gf_iload_n (i := 2) (q := 42) dX4_text_41 rfl rfl rfl ?_
        refine gf_iast (q := 43) dX4_text_42 rfl ?_
        refine gf_iload_n (i := 2) (q := 44) dX4_text_43 rfl rfl rfl ?_
        exact gf_reti dX4_text_44 rfl
      · refine gf_aload_n (i := 0) (q := 20) dX4_text_19 rfl rfl rfl ?_
        refine gf_iconst (q := 21) dX4_text_20 ki_5 rfl ?_
        refine gf_callV_i (n2 := 1) (As := [.int 5]) (st := []) (b := 0) (ci := 4) (C := RX4) (q := 24) (hlen := rfl) rfl rfl kw180 kw182 kp0 dX4_text_21 kw183 kw1 (by decide +kernel) (by decide) (Nat.le_of_ble_eq_true rfl) (C_X4_found 5 x1.2) rfl rfl (fun x3 => ?_)
        exact gf_reti dX4_text_24 rfl
    · refine gf_iconst (q := 14) dX4_text_13 ki_m1 rfl ?_
      exact gf_reti dX4_text_14 rfl
theorem C_X4_text (v1 : Int32) (v2 : Int32) (u : XM) : CF YY 2 yX4_text cX4_text 3 (some .int) [.ref 0, .int v1, .int v2] u emI (F_X4_text v1 v2 u) := cf_of (by decide +kernel) (Nat.le_of_ble_eq_true rfl) rfl (T_X4_text v1 v2 u)
def F_X4_put_39  (u : XM) : Option (Int32 × XM) := (Option.bind (F_X4_found 2 u) (fun x1 => some (x1.1, x1.2)))
set_option maxRecDepth 20000 in
set_option maxHeartbeats 4000000 in
theorem T_X4_put_39  (u : XM) : GF E0 YY 2 yX4_put cX4_put 5 (some .int) 39 [some (.ref 0), none, none, none, none] [] u emI (F_X4_put_39 u) := by
  unfold F_X4_put_39
  refine gf_aload_n (i := 0) (q := 40) dX4_put_39 rfl rfl rfl ?_
  refine gf_iconst (q := 41) dX4_put_40 ki_2 rfl ?_
  refine gf_callV_i (n2 := 1) (As := [.int 2]) (st := []) (b := 0) (ci := 4) (C := RX4) (q := 44) (hlen := rfl) rfl rfl kw180 kw182 kp0 dX4_put_41 kw183 kw1 (by decide +kernel) (by decide) (Nat.le_of_ble_eq_true rfl) (C_X4_found 2 u) rfl rfl (fun x1 => ?_)
  exact gf_reti dX4_put_44 rfl
def F_X4_put (v1 : Int32) (v2 : Int32) (v3 : Int32) (u : XM) : Option (Int32 × XM) := (Option.bind (F_X4_isText v1 u) (fun x2 => (if x2.1 = 0 then some ((-1), x2.2) else (if ain YY 0 14 v1 = true then (if (mi x2.2 14 (Int32.toNatClampNeg v1)) = (-1) then (Option.bind (F_X4_found 1 x2.2) (fun x3 => some (x3.1, x3.2))) else (if v2 < 0 then F_X4_put_39 x2.2 else (if ain YY 0 14 v1 = true then (if v2 < (mi x2.2 14 (Int32.toNatClampNeg v1)) then (if ain YY 4 9 v1 = true then (if ain YY 1 (10 + Int32.toNatClampNeg v1) v2 = true then (if ain YY 4 9 v1 = true then (if ain YY 1 (10 + Int32.toNatClampNeg v1) v2 = true then some (((mi x2.2 (10 + Int32.toNatClampNeg v1) (Int32.toNatClampNeg v2)) + 1000), (wi x2.2 (10 + Int32.toNatClampNeg v1) (Int32.toNatClampNeg v2) (vp_nar .byte (Int8.toInt32 (Int32.toInt8 v3))))) else none) else none) else none) else none) else F_X4_put_39 x2.2) else none))) else none))))
set_option maxRecDepth 20000 in
set_option maxHeartbeats 4000000 in
theorem T_X4_put (v1 : Int32) (v2 : Int32) (v3 : Int32) (u : XM) : GF E0 YY 2 yX4_put cX4_put 5 (some .int) 0 [some (.ref 0), some (.int v1), some (.int v2), some (.int v3), none] [] u emI (F_X4_put v1 v2 v3 u) := by
  unfold F_X4_put
  refine gf_iload_n (i := 1) (q := 1) dX4_put_0 rfl rfl rfl ?_
  refine gf_callS_i (n2 := 1) (As := [.int v1]) (st := []) (q := 4) (hlen := rfl) kw218 kw219 dX4_put_1 kw220 kw1 (by decide +kernel) (by decide) (Nat.le_of_ble_eq_true rfl) (C_X4_isText v1 u) rfl rfl (fun x2 => ?_)
  refine gf_if_ne (t := 9) (q := 7) dX4_put_4 (by decide) rfl ?_ ?_
  · refine gf_iconst (q := 8) dX4_put_7 ki_m1 rfl ?_
    exact gf_reti dX4_put_8 rfl
  · refine gf_aload_n (i := 0) (q := 10) dX4_put_9 rfl rfl rfl ?_
    refine gf_getA (C := RX4) (T := TX4) (N := 15) (ci := 4) (k := 0) (j := 3) (t := 14) (q := 13) dX4_put_10 rfl rfl kin4 (by decide) kw130 rfl rfl ?_
    refine gf_iload_n (i := 1) (q := 14) dX4_put_13 rfl rfl rfl ?_
    refine gf_iald (q := 15) dX4_put_14 rfl ?_
    refine gf_iconst (q := 16) dX4_put_15 ki_m1 rfl ?_
    refine gf_icmp_ne (t := 25) (q := 19) dX4_put_16 (by decide) rfl ?_ ?_
    · refine gf_aload_n (i := 0) (q := 20) dX4_put_19 rfl rfl rfl ?_
      refine gf_iconst (q := 21) dX4_put_20 ki_1 rfl ?_
      refine gf_callV_i (n2 := 1) (As := [.int 1]) (st := []) (b := 0) (ci := 4) (C := RX4) (q := 24) (hlen := rfl) rfl rfl kw180 kw182 kp0 dX4_put_21 kw183 kw1 (by decide +kernel) (by decide) (Nat.le_of_ble_eq_true rfl) (C_X4_found 1 x2.2) rfl rfl (fun x3 => ?_)
      exact gf_reti dX4_put_24 rfl
    · refine gf_iload_n (i := 2) (q := 26) dX4_put_25 rfl rfl rfl ?_
      refine gf_if_lt (t := 39) (q := 29) dX4_put_26 (by decide) rfl ?_ ?_
      · exact gf_mask (b := [true, false, false, false, false]) rfl (T_X4_put_39 x2.2)
      · refine gf_iload_n (i := 2) (q := 30) dX4_put_29 rfl rfl rfl ?_
        refine gf_aload_n (i := 0) (q := 31) dX4_put_30 rfl rfl rfl ?_
        refine gf_getA (C := RX4) (T := TX4) (N := 15) (ci := 4) (k := 0) (j := 3) (t := 14) (q := 34) dX4_put_31 rfl rfl kin4 (by decide) kw130 rfl rfl ?_
        refine gf_iload_n (i := 1) (q := 35) dX4_put_34 rfl rfl rfl ?_
        refine gf_iald (q := 36) dX4_put_35 rfl ?_
        refine gf_icmp_lt (t := 45) (q := 39) dX4_put_36 (by decide) rfl ?_ ?_
        · refine gf_aload_n (i := 0) (q := 46) dX4_put_45 rfl rfl rfl ?_
          refine gf_getA (C := RX4) (T := TX4) (N := 15) (ci := 4) (k := 0) (j := 2) (t := 9) (q := 49) dX4_put_46 rfl rfl kin4 (by decide) kw129 rfl rfl ?_
          refine gf_iload_n (i := 1) (q := 50) dX4_put_49 rfl rfl rfl ?_
          refine gf_aald4 (n := 4) (b := 10) (q := 51) dX4_put_50 rfl rfl ?_
          refine gf_iload_n (i := 2) (q := 52) dX4_put_51 rfl rfl rfl ?_
          refine gf_bald (q := 53) dX4_put_52 rfl ?_
          refine gf_istore (lv2 := [some (.ref 0), some (.int v1), some (.int v2), some (.int v3), some (.int (mi x2.2 (10 + Int32.toNatClampNeg v1) (Int32.toNatClampNeg v2)))]) (q := 55) dX4_put_53 (by decide) rfl rfl ?_
          refine gf_aload_n (i := 0) (q := 56) dX4_put_55 rfl rfl rfl ?_
          refine gf_getA (C := RX4) (T := TX4) (N := 15) (ci := 4) (k := 0) (j := 2) (t := 9) (q := 59) dX4_put_56 rfl rfl kin4 (by decide) kw129 rfl rfl ?_
          refine gf_iload_n (i := 1) (q := 60) dX4_put_59 rfl rfl rfl ?_
          refine gf_aald4 (n := 4) (b := 10) (q := 61) dX4_put_60 rfl rfl ?_
          refine gf_iload_n (i := 2) (q := 62) dX4_put_61 rfl rfl rfl ?_
          refine gf_iload_n (i := 3) (q := 63) dX4_put_62 rfl rfl rfl ?_
          refine gf_i2b (q := 64) dX4_put_63 rfl ?_
          refine gf_bast (q := 65) dX4_put_64 rfl ?_
          refine gf_iload (q := 67) dX4_put_65 rfl rfl ?_
          refine gf_sipush (q := 70) dX4_put_67 ks_1000 rfl ?_
          refine gf_iadd (q := 71) dX4_put_70 rfl ?_
          exact gf_reti dX4_put_71 rfl
        · exact gf_mask (b := [true, false, false, false, false]) rfl (T_X4_put_39 x2.2)
theorem C_X4_put (v1 : Int32) (v2 : Int32) (v3 : Int32) (u : XM) : CF YY 2 yX4_put cX4_put 5 (some .int) [.ref 0, .int v1, .int v2, .int v3] u emI (F_X4_put v1 v2 v3 u) := cf_of (by decide +kernel) (Nat.le_of_ble_eq_true rfl) rfl (T_X4_put v1 v2 v3 u)
def F_X4_fault (v1 : Int32) (u : XM) : Option (Int32 × XM) := (Option.bind (F_X4_isText v1 u) (fun x1 => (if x1.1 = 0 then some ((-1), x1.2) else (if ain YY 0 14 v1 = true then (if (mi x1.2 14 (Int32.toNatClampNeg v1)) = (-1) then (Option.bind (F_X4_found 1 x1.2) (fun x3 => some (x3.1, x3.2))) else (if ain YY 4 9 v1 = true then (if ain YY 0 14 v1 = true then (Option.bind (F_X3_firstFault (10 + Int32.toNatClampNeg v1) (mi x1.2 14 (Int32.toNatClampNeg v1)) x1.2) (fun x2 => some (x2.1, x2.2))) else none) else none)) else none))))
set_option maxRecDepth 20000 in
set_option maxHeartbeats 4000000 in
theorem T_X4_fault (v1 : Int32) (u : XM) : GF E0 YY 4 yX4_fault cX4_fault 2 (some .int) 0 [some (.ref 0), some (.int v1)] [] u emI (F_X4_fault v1 u) := by
  unfold F_X4_fault
  refine gf_iload_n (i := 1) (q := 1) dX4_fault_0 rfl rfl rfl ?_
  refine gf_callS_i (n2 := 1) (As := [.int v1]) (st := []) (q := 4) (hlen := rfl) kw218 kw219 dX4_fault_1 kw220 kw1 (by decide +kernel) (by decide) (Nat.le_of_ble_eq_true rfl) (C_X4_isText v1 u) rfl rfl (fun x1 => ?_)
  refine gf_if_ne (t := 9) (q := 7) dX4_fault_4 (by decide) rfl ?_ ?_
  · refine gf_iconst (q := 8) dX4_fault_7 ki_m1 rfl ?_
    exact gf_reti dX4_fault_8 rfl
  · refine gf_aload_n (i := 0) (q := 10) dX4_fault_9 rfl rfl rfl ?_
    refine gf_getA (C := RX4) (T := TX4) (N := 15) (ci := 4) (k := 0) (j := 3) (t := 14) (q := 13) dX4_fault_10 rfl rfl kin4 (by decide) kw130 rfl rfl ?_
    refine gf_iload_n (i := 1) (q := 14) dX4_fault_13 rfl rfl rfl ?_
    refine gf_iald (q := 15) dX4_fault_14 rfl ?_
    refine gf_iconst (q := 16) dX4_fault_15 ki_m1 rfl ?_
    refine gf_icmp_ne (t := 25) (q := 19) dX4_fault_16 (by decide) rfl ?_ ?_
    · refine gf_aload_n (i := 0) (q := 20) dX4_fault_19 rfl rfl rfl ?_
      refine gf_iconst (q := 21) dX4_fault_20 ki_1 rfl ?_
      refine gf_callV_i (n2 := 1) (As := [.int 1]) (st := []) (b := 0) (ci := 4) (C := RX4) (q := 24) (hlen := rfl) rfl rfl kw180 kw182 kp0 dX4_fault_21 kw183 kw1 (by decide +kernel) (by decide) (Nat.le_of_ble_eq_true rfl) (C_X4_found 1 x1.2) rfl rfl (fun x3 => ?_)
      exact gf_reti dX4_fault_24 rfl
    · refine gf_aload_n (i := 0) (q := 26) dX4_fault_25 rfl rfl rfl ?_
      refine gf_getA (C := RX4) (T := TX4) (N := 15) (ci := 4) (k := 0) (j := 6) (t := 20) (q := 29) dX4_fault_26 rfl rfl kin4 (by decide) kw133 rfl rfl ?_
      refine gf_aload_n (i := 0) (q := 30) dX4_fault_29 rfl rfl rfl ?_
      refine gf_getA (C := RX4) (T := TX4) (N := 15) (ci := 4) (k := 0) (j := 2) (t := 9) (q := 33) dX4_fault_30 rfl rfl kin4 (by decide) kw129 rfl rfl ?_
      refine gf_iload_n (i := 1) (q := 34) dX4_fault_33 rfl rfl rfl ?_
      refine gf_aald4 (n := 4) (b := 10) (q := 35) dX4_fault_34 rfl rfl ?_
      refine gf_aload_n (i := 0) (q := 36) dX4_fault_35 rfl rfl rfl ?_
      refine gf_getA (C := RX4) (T := TX4) (N := 15) (ci := 4) (k := 0) (j := 3) (t := 14) (q := 39) dX4_fault_36 rfl rfl kin4 (by decide) kw130 rfl rfl ?_
      refine gf_iload_n (i := 1) (q := 40) dX4_fault_39 rfl rfl rfl ?_
      refine gf_iald (q := 41) dX4_fault_40 rfl ?_
      refine gf_callV_i (n2 := 2) (As := [.ref (10 + Int32.toNatClampNeg v1), .int (mi x1.2 14 (Int32.toNatClampNeg v1))]) (st := []) (b := 20) (ci := 3) (C := RX3) (q := 44) (hlen := rfl) rfl rfl kw232 kw233 kw234 dX4_fault_41 kw235 kw2 (by decide +kernel) (by decide) (Nat.le_of_ble_eq_true rfl) (C_X3_firstFault (10 + Int32.toNatClampNeg v1) (mi x1.2 14 (Int32.toNatClampNeg v1)) x1.2) rfl rfl (fun x2 => ?_)
      exact gf_reti dX4_fault_44 rfl
theorem C_X4_fault (v1 : Int32) (u : XM) : CF YY 4 yX4_fault cX4_fault 2 (some .int) [.ref 0, .int v1] u emI (F_X4_fault v1 u) := cf_of (by decide +kernel) (Nat.le_of_ble_eq_true rfl) rfl (T_X4_fault v1 u)
def F_X4_canal (v1 : Int32) (u : XM) : Option (Int32 × XM) := (Option.bind (F_X4_isText v1 u) (fun x1 => (if x1.1 = 0 then some ((-1), x1.2) else (if ain YY 0 14 v1 = true then (if (mi x1.2 14 (Int32.toNatClampNeg v1)) = (-1) then (Option.bind (F_X4_found 1 x1.2) (fun x5 => some (x5.1, x5.2))) else (if ain YY 4 9 v1 = true then (if ain YY 0 14 v1 = true then (Option.bind (F_X3_firstFault (10 + Int32.toNatClampNeg v1) (mi x1.2 14 (Int32.toNatClampNeg v1)) x1.2) (fun x2 => (if x2.1 = (-9) then (Option.bind (F_X0_fillFrom x2.2) (fun x3 => (Option.bind (F_J7_fill_53178 YY 19 (-1) x3.2) (fun x4 => some ((mi x4.2 22 6), x4.2))))) else some ((-4), x2.2)))) else none) else none)) else none))))
set_option maxRecDepth 20000 in
set_option maxHeartbeats 4000000 in
theorem T_X4_canal (v1 : Int32) (u : XM) : GF E0 YY 7 yX4_canal cX4_canal 2 (some .int) 0 [some (.ref 0), some (.int v1)] [] u emI (F_X4_canal v1 u) := by
  unfold F_X4_canal
  refine gf_iload_n (i := 1) (q := 1) dX4_canal_0 rfl rfl rfl ?_
  refine gf_callS_i (n2 := 1) (As := [.int v1]) (st := []) (q := 4) (hlen := rfl) kw218 kw219 dX4_canal_1 kw220 kw1 (by decide +kernel) (by decide) (Nat.le_of_ble_eq_true rfl) (C_X4_isText v1 u) rfl rfl (fun x1 => ?_)
  refine gf_if_ne (t := 9) (q := 7) dX4_canal_4 (by decide) rfl ?_ ?_
  · refine gf_iconst (q := 8) dX4_canal_7 ki_m1 rfl ?_
    exact gf_reti dX4_canal_8 rfl
  · refine gf_aload_n (i := 0) (q := 10) dX4_canal_9 rfl rfl rfl ?_
    refine gf_getA (C := RX4) (T := TX4) (N := 15) (ci := 4) (k := 0) (j := 3) (t := 14) (q := 13) dX4_canal_10 rfl rfl kin4 (by decide) kw130 rfl rfl ?_
    refine gf_iload_n (i := 1) (q := 14) dX4_canal_13 rfl rfl rfl ?_
    refine gf_iald (q := 15) dX4_canal_14 rfl ?_
    refine gf_iconst (q := 16) dX4_canal_15 ki_m1 rfl ?_
    refine gf_icmp_ne (t := 25) (q := 19) dX4_canal_16 (by decide) rfl ?_ ?_
    · refine gf_aload_n (i := 0) (q := 20) dX4_canal_19 rfl rfl rfl ?_
      refine gf_iconst (q := 21) dX4_canal_20 ki_1 rfl ?_
      refine gf_callV_i (n2 := 1) (As := [.int 1]) (st := []) (b := 0) (ci := 4) (C := RX4) (q := 24) (hlen := rfl) rfl rfl kw180 kw182 kp0 dX4_canal_21 kw183 kw1 (by decide +kernel) (by decide) (Nat.le_of_ble_eq_true rfl) (C_X4_found 1 x1.2) rfl rfl (fun x5 => ?_)
      exact gf_reti dX4_canal_24 rfl
    · refine gf_aload_n (i := 0) (q := 26) dX4_canal_25 rfl rfl rfl ?_
      refine gf_getA (C := RX4) (T := TX4) (N := 15) (ci := 4) (k := 0) (j := 6) (t := 20) (q := 29) dX4_canal_26 rfl rfl kin4 (by decide) kw133 rfl rfl ?_
      refine gf_aload_n (i := 0) (q := 30) dX4_canal_29 rfl rfl rfl ?_
      refine gf_getA (C := RX4) (T := TX4) (N := 15) (ci := 4) (k := 0) (j := 2) (t := 9) (q := 33) dX4_canal_30 rfl rfl kin4 (by decide) kw129 rfl rfl ?_
      refine gf_iload_n (i := 1) (q := 34) dX4_canal_33 rfl rfl rfl ?_
      refine gf_aald4 (n := 4) (b := 10) (q := 35) dX4_canal_34 rfl rfl ?_
      refine gf_aload_n (i := 0) (q := 36) dX4_canal_35 rfl rfl rfl ?_
      refine gf_getA (C := RX4) (T := TX4) (N := 15) (ci := 4) (k := 0) (j := 3) (t := 14) (q := 39) dX4_canal_36 rfl rfl kin4 (by decide) kw130 rfl rfl ?_
      refine gf_iload_n (i := 1) (q := 40) dX4_canal_39 rfl rfl rfl ?_
      refine gf_iald (q := 41) dX4_canal_40 rfl ?_
      refine gf_callV_i (n2 := 2) (As := [.ref (10 + Int32.toNatClampNeg v1), .int (mi x1.2 14 (Int32.toNatClampNeg v1))]) (st := []) (b := 20) (ci := 3) (C := RX3) (q := 44) (hlen := rfl) rfl rfl kw232 kw233 kw234 dX4_canal_41 kw235 kw2 (by decide +kernel) (by decide) (Nat.le_of_ble_eq_true rfl) (C_X3_firstFault (10 + Int32.toNatClampNeg v1) (mi x1.2 14 (Int32.toNatClampNeg v1)) x1.2) rfl rfl (fun x2 => ?_)
      refine gf_bipush (q := 46) dX4_canal_44 kb_m9 rfl ?_
      refine gf_icmp_eq (t := 52) (q := 49) dX4_canal_46 (by decide) rfl ?_ ?_
      · refine gf_aload_n (i := 0) (q := 53) dX4_canal_52 rfl rfl rfl ?_
        refine gf_getA (C := RX4) (T := TX4) (N := 15) (ci := 4) (k := 0) (j := 7) (t := 22) (q := 56) dX4_canal_53 rfl rfl kin4 (by decide) kw134 rfl rfl ?_
        refine gf_aload_n (i := 0) (q := 57) dX4_canal_56 rfl rfl rfl ?_
        refine gf_getA (C := RX4) (T := TX4) (N := 15) (ci := 4) (k := 0) (j := 6) (t := 20) (q := 60) dX4_canal_57 rfl rfl kin4 (by decide) kw133 rfl rfl ?_
        refine gf_callV_v (n2 := 1) (As := [.ref 20]) (st := []) (b := 22) (ci := 0) (C := RX0) (q := 63) (hlen := rfl) rfl rfl kw252 kw253 kw254 dX4_canal_60 kw255 kw3 (by decide +kernel) (by decide) (Nat.le_of_ble_eq_true rfl) (C_X0_fillFrom x2.2) rfl rfl (fun x3 => ?_)
        refine gf_aload_n (i := 0) (q := 64) dX4_canal_63 rfl rfl rfl ?_
        refine gf_getA (C := RX4) (T := TX4) (N := 15) (ci := 4) (k := 0) (j := 5) (t := 19) (q := 67) dX4_canal_64 rfl rfl kin4 (by decide) kw132 rfl rfl ?_
        refine gf_iconst (q := 68) dX4_canal_67 ki_m1 rfl ?_
        refine gf_callS_v (n2 := 2) (As := [.ref 19, .int (-1)]) (st := []) (q := 71) (hlen := rfl) kw124 kw125 dX4_canal_68 kw126 kw6 (by decide +kernel) (by decide) (Nat.le_of_ble_eq_true rfl) (C_J7_fill_53178 YY 19 (-1) x3.2) rfl rfl (fun x4 => ?_)
        refine gf_aload_n (i := 0) (q := 72) dX4_canal_71 rfl rfl rfl ?_
        refine gf_getA (C := RX4) (T := TX4) (N := 15) (ci := 4) (k := 0) (j := 7) (t := 22) (q := 75) dX4_canal_72 rfl rfl kin4 (by decide) kw134 rfl rfl ?_
        refine gf_getI (C := RX0) (T := TX0) (N := 12) (ci := 0) (k := 22) (j := 6) (q := 78) dX4_canal_75 rfl rfl kin0 (by decide) kw61 rfl rfl ?_
        exact gf_reti dX4_canal_78 rfl
      · refine gf_bipush (q := 51) dX4_canal_49 kb_m4 rfl ?_
        exact gf_reti dX4_canal_51 rfl
theorem C_X4_canal (v1 : Int32) (u : XM) : CF YY 7 yX4_canal cX4_canal 2 (some .int) [.ref 0, .int v1] u emI (F_X4_canal v1 u) := cf_of (by decide +kernel) (Nat.le_of_ble_eq_true rfl) rfl (T_X4_canal v1 u)
def F_X4_thing (v1 : Int32) (v2 : Int32) (u : XM) : Option (Int32 × XM) := (Option.bind (F_X0_has v1 u) (fun x1 => (if x1.1 = 0 then some ((-1), x1.2) else (if v2 < 0 then some ((-1), x1.2) else (if v2 < 5 then (Option.bind (F_X0_fact v1 v2 x1.2) (fun x2 => (Option.bind (F_X4_tell x2.1 x2.2) (fun x3 => some (x3.1, x3.2))))) else some ((-1), x1.2))))))
set_option maxRecDepth 20000 in
set_option maxHeartbeats 4000000 in
theorem T_X4_thing (v1 : Int32) (v2 : Int32) (u : XM) : GF E0 YY 3 yX4_thing cX4_thing 3 (some .int) 0 [some (.ref 0), some (.int v1), some (.int v2)] [] u emI (F_X4_thing v1 v2 u) := by
  unfold F_X4_thing
  refine gf_aload_n (i := 0) (q := 1) dX4_thing_0 rfl rfl rfl ?_
  refine gf_getA (C := RX4) (T := TX4) (N := 15) (ci := 4) (k := 0) (j := 7) (t := 22) (q := 4) dX4_thing_1 rfl rfl kin4 (by decide) kw134 rfl rfl ?_
  refine gf_iload_n (i := 1) (q := 5) dX4_thing_4 rfl rfl rfl ?_
  refine gf_callV_i (n2 := 1) (As := [.int v1]) (st := []) (b := 22) (ci := 0) (C := RX0) (q := 8) (hlen := rfl) rfl rfl kw303 kw269 kw270 dX4_thing_5 kw271 kw3 (by decide +kernel) (by decide) (Nat.le_of_ble_eq_true rfl) (C_X0_has v1 u) rfl rfl (fun x1 => ?_)
  refine gf_if_eq (t := 20) (q := 11) dX4_thing_8 (by decide) rfl ?_ ?_
  · refine gf_iconst (q := 21) dX4_thing_20 ki_m1 rfl ?_
    exact gf_reti dX4_thing_21 rfl
  · refine gf_iload_n (i := 2) (q := 12) dX4_thing_11 rfl rfl rfl ?_
    refine gf_if_lt (t := 20) (q := 15) dX4_thing_12 (by decide) rfl ?_ ?_
    · refine gf_iconst (q := 21) dX4_thing_20 ki_m1 rfl ?_
      exact gf_reti dX4_thing_21 rfl
    · refine gf_iload_n (i := 2) (q := 16) dX4_thing_15 rfl rfl rfl ?_
      refine gf_iconst (q := 17) dX4_thing_16 ki_5 rfl ?_
      refine gf_icmp_lt (t := 22) (q := 20) dX4_thing_17 (by decide) rfl ?_ ?_
      · refine gf_aload_n (i := 0) (q := 23) dX4_thing_22 rfl rfl rfl ?_
        refine gf_aload_n (i := 0) (q := 24) dX4_thing_23 rfl rfl rfl ?_
        refine gf_getA (C := RX4) (T := TX4) (N := 15) (ci := 4) (k := 0) (j := 7) (t := 22) (q := 27) dX4_thing_24 rfl rfl kin4 (by decide) kw134 rfl rfl ?_
        refine gf_iload_n (i := 1) (q := 28) dX4_thing_27 rfl rfl rfl ?_
        refine gf_iload_n (i := 2) (q := 29) dX4_thing_28 rfl rfl rfl ?_
        refine gf_callV_i (n2 := 2) (As := [.int v1, .int v2]) (st := [.ref 0]) (b := 22) (ci := 0) (C := RX0) (q := 32) (hlen := rfl) rfl rfl kw304 kw305 kw306 dX4_thing_29 kw307 kw3 (by decide +kernel) (by decide) (Nat.le_of_ble_eq_true rfl) (C_X0_fact v1 v2 x1.2) rfl rfl (fun x2 => ?_)
        refine gf_callV_i (n2 := 1) (As := [.int x2.1]) (st := []) (b := 0) (ci := 4) (C := RX4) (q := 35) (hlen := rfl) rfl rfl kw188 kw190 kp1 dX4_thing_32 kw191 kw1 (by decide +kernel) (by decide) (Nat.le_of_ble_eq_true rfl) (C_X4_tell x2.1 x2.2) rfl rfl (fun x3 => ?_)
        exact gf_reti dX4_thing_35 rfl
      · refine gf_iconst (q := 21) dX4_thing_20 ki_m1 rfl ?_
        exact gf_reti dX4_thing_21 rfl
theorem C_X4_thing (v1 : Int32) (v2 : Int32) (u : XM) : CF YY 3 yX4_thing cX4_thing 3 (some .int) [.ref 0, .int v1, .int v2] u emI (F_X4_thing v1 v2 u) := cf_of (by decide +kernel) (Nat.le_of_ble_eq_true rfl) rfl (T_X4_thing v1 v2 u)
def F_X4_mark (v1 : Int32) (v2 : Int32) (u : XM) : Option (Int32 × XM) := (Option.bind (F_X0_has v1 u) (fun x1 => (if x1.1 = 0 then some ((-1), x1.2) else (if v2 ≤ 0 then some ((-1), x1.2) else (if v2 < 6 then (if ain YY 0 23 v1 = true then (Option.bind (F_X4_isOfKind (mi x1.2 23 (Int32.toNatClampNeg v1)) v2 x1.2) (fun x2 => (if x2.1 = 0 then (Option.bind (F_X4_found 3 x2.2) (fun x4 => some (x4.1, x4.2))) else (Option.bind (F_X0_markAs v1 v2 x2.2) (fun x3 => some (x3.1, x3.2)))))) else none) else some ((-1), x1.2))))))
set_option maxRecDepth 20000 in
set_option maxHeartbeats 4000000 in
theorem T_X4_mark (v1 : Int32) (v2 : Int32) (u : XM) : GF E0 YY 4 yX4_mark cX4_mark 3 (some .int) 0 [some (.ref 0), some (.int v1), some (.int v2)] [] u emI (F_X4_mark v1 v2 u) := by
  unfold F_X4_mark
  refine gf_aload_n (i := 0) (q := 1) dX4_mark_0 rfl rfl rfl ?_
  refine gf_getA (C := RX4) (T := TX4) (N := 15) (ci := 4) (k := 0) (j := 7) (t := 22) (q := 4) dX4_mark_1 rfl rfl kin4 (by decide) kw134 rfl rfl ?_
  refine gf_iload_n (i := 1) (q := 5) dX4_mark_4 rfl rfl rfl ?_
  refine gf_callV_i (n2 := 1) (As := [.int v1]) (st := []) (b := 22) (ci := 0) (C := RX0) (q := 8) (hlen := rfl) rfl rfl kw303 kw269 kw270 dX4_mark_5 kw271 kw3 (by decide +kernel) (by decide) (Nat.le_of_ble_eq_true rfl) (C_X0_has v1 u) rfl rfl (fun x1 => ?_)
  refine gf_if_eq (t := 21) (q := 11) dX4_mark_8 (by decide) rfl ?_ ?_
  · refine gf_iconst (q := 22) dX4_mark_21 ki_m1 rfl ?_
    exact gf_reti dX4_mark_22 rfl
  · refine gf_iload_n (i := 2) (q := 12) dX4_mark_11 rfl rfl rfl ?_
    refine gf_if_le (t := 21) (q := 15) dX4_mark_12 (by decide) rfl ?_ ?_
    · refine gf_iconst (q := 22) dX4_mark_21 ki_m1 rfl ?_
      exact gf_reti dX4_mark_22 rfl
    · refine gf_iload_n (i := 2) (q := 16) dX4_mark_15 rfl rfl rfl ?_
      refine gf_bipush (q := 18) dX4_mark_16 kb_6 rfl ?_
      refine gf_icmp_lt (t := 23) (q := 21) dX4_mark_18 (by decide) rfl ?_ ?_
      · refine gf_aload_n (i := 0) (q := 24) dX4_mark_23 rfl rfl rfl ?_
        refine gf_getA (C := RX4) (T := TX4) (N := 15) (ci := 4) (k := 0) (j := 7) (t := 22) (q := 27) dX4_mark_24 rfl rfl kin4 (by decide) kw134 rfl rfl ?_
        refine gf_getA (C := RX0) (T := TX0) (N := 12) (ci := 0) (k := 22) (j := 0) (t := 23) (q := 30) dX4_mark_27 rfl rfl kin0 (by decide) kw47 rfl rfl ?_
        refine gf_iload_n (i := 1) (q := 31) dX4_mark_30 rfl rfl rfl ?_
        refine gf_iald (q := 32) dX4_mark_31 rfl ?_
        refine gf_iload_n (i := 2) (q := 33) dX4_mark_32 rfl rfl rfl ?_
        refine gf_callS_i (n2 := 2) (As := [.int (mi x1.2 23 (Int32.toNatClampNeg v1)), .int v2]) (st := []) (q := 36) (hlen := rfl) kw312 kw313 dX4_mark_33 kw314 kw1 (by decide +kernel) (by decide) (Nat.le_of_ble_eq_true rfl) (C_X4_isOfKind (mi x1.2 23 (Int32.toNatClampNeg v1)) v2 x1.2) rfl rfl (fun x2 => ?_)
        refine gf_if_ne (t := 45) (q := 39) dX4_mark_36 (by decide) rfl ?_ ?_
        · refine gf_aload_n (i := 0) (q := 40) dX4_mark_39 rfl rfl rfl ?_
          refine gf_iconst (q := 41) dX4_mark_40 ki_3 rfl ?_
          refine gf_callV_i (n2 := 1) (As := [.int 3]) (st := []) (b := 0) (ci := 4) (C := RX4) (q := 44) (hlen := rfl) rfl rfl kw180 kw182 kp0 dX4_mark_41 kw183 kw1 (by decide +kernel) (by decide) (Nat.le_of_ble_eq_true rfl) (C_X4_found 3 x2.2) rfl rfl (fun x4 => ?_)
          exact gf_reti dX4_mark_44 rfl
        · refine gf_aload_n (i := 0) (q := 46) dX4_mark_45 rfl rfl rfl ?_
          refine gf_getA (C := RX4) (T := TX4) (N := 15) (ci := 4) (k := 0) (j := 7) (t := 22) (q := 49) dX4_mark_46 rfl rfl kin4 (by decide) kw134 rfl rfl ?_
          refine gf_iload_n (i := 1) (q := 50) dX4_mark_49 rfl rfl rfl ?_
          refine gf_iload_n (i := 2) (q := 51) dX4_mark_50 rfl rfl rfl ?_
          refine gf_callV_i (n2 := 2) (As := [.int v1, .int v2]) (st := []) (b := 22) (ci := 0) (C := RX0) (q := 54) (hlen := rfl) rfl rfl kw315 kw316 kw317 dX4_mark_51 kw318 kw3 (by decide +kernel) (by decide) (Nat.le_of_ble_eq_true rfl) (C_X0_markAs v1 v2 x2.2) rfl rfl (fun x3 => ?_)
          exact gf_reti dX4_mark_54 rfl
      · refine gf_iconst (q := 22) dX4_mark_21 ki_m1 rfl ?_
        exact gf_reti dX4_mark_22 rfl
theorem C_X4_mark (v1 : Int32) (v2 : Int32) (u : XM) : CF YY 4 yX4_mark cX4_mark 3 (some .int) [.ref 0, .int v1, .int v2] u emI (F_X4_mark v1 v2 u) := cf_of (by decide +kernel) (Nat.le_of_ble_eq_true rfl) rfl (T_X4_mark v1 v2 u)
def F_X4_cell (v1 : Int32) (u : XM) : Option (Int32 × XM) := (Option.bind (F_X4_isCell v1 u) (fun x1 => (if x1.1 = 0 then some ((-1), x1.2) else (Option.bind (F_X0_lyingIn v1 x1.2) (fun x2 => some (x2.1, x2.2))))))
set_option maxRecDepth 20000 in
set_option maxHeartbeats 4000000 in
theorem T_X4_cell (v1 : Int32) (u : XM) : GF E0 YY 2 yX4_cell cX4_cell 2 (some .int) 0 [some (.ref 0), some (.int v1)] [] u emI (F_X4_cell v1 u) := by
  unfold F_X4_cell
  refine gf_iload_n (i := 1) (q := 1) dX4_cell_0 rfl rfl rfl ?_
  refine gf_callS_i (n2 := 1) (As := [.int v1]) (st := []) (q := 4) (hlen := rfl) kw338 kw339 dX4_cell_1 kw340 kw1 (by decide +kernel) (by decide) (Nat.le_of_ble_eq_true rfl) (C_X4_isCell v1 u) rfl rfl (fun x1 => ?_)
  refine gf_if_ne (t := 9) (q := 7) dX4_cell_4 (by decide) rfl ?_ ?_
  · refine gf_iconst (q := 8) dX4_cell_7 ki_m1 rfl ?_
    exact gf_reti dX4_cell_8 rfl
  · refine gf_aload_n (i := 0) (q := 10) dX4_cell_9 rfl rfl rfl ?_
    refine gf_getA (C := RX4) (T := TX4) (N := 15) (ci := 4) (k := 0) (j := 7) (t := 22) (q := 13) dX4_cell_10 rfl rfl kin4 (by decide) kw134 rfl rfl ?_
    refine gf_iload_n (i := 1) (q := 14) dX4_cell_13 rfl rfl rfl ?_
    refine gf_callV_i (n2 := 1) (As := [.int v1]) (st := []) (b := 22) (ci := 0) (C := RX0) (q := 17) (hlen := rfl) rfl rfl kw341 kw320 kw321 dX4_cell_14 kw322 kw3 (by decide +kernel) (by decide) (Nat.le_of_ble_eq_true rfl) (C_X0_lyingIn v1 x1.2) rfl rfl (fun x2 => ?_)
    exact gf_reti dX4_cell_17 rfl
theorem C_X4_cell (v1 : Int32) (u : XM) : CF YY 2 yX4_cell cX4_cell 2 (some .int) [.ref 0, .int v1] u emI (F_X4_cell v1 u) := cf_of (by decide +kernel) (Nat.le_of_ble_eq_true rfl) rfl (T_X4_cell v1 u)
def F_X4_year  (u : XM) : Option (Int32 × XM) := (if (mi u 22 6) = 0 then some ((-4), u) else (if (mi u 22 11) < 40 then (Option.bind (F_X0_perform 0 0 u) (fun x1 => some ((mi x1.2 22 10), x1.2))) else some ((-2), u)))
set_option maxRecDepth 20000 in
set_option maxHeartbeats 4000000 in
theorem T_X4_year  (u : XM) : GF E0 YY 6 yX4_year cX4_year 1 (some .int) 0 [some (.ref 0)] [] u emI (F_X4_year u) := by
  unfold F_X4_year
  refine gf_aload_n (i := 0) (q := 1) dX4_year_0 rfl rfl rfl ?_
  refine gf_getA (C := RX4) (T := TX4) (N := 15) (ci := 4) (k := 0) (j := 7) (t := 22) (q := 4) dX4_year_1 rfl rfl kin4 (by decide) kw134 rfl rfl ?_
  refine gf_getI (C := RX0) (T := TX0) (N := 12) (ci := 0) (k := 22) (j := 6) (q := 7) dX4_year_4 rfl rfl kin0 (by decide) kw61 rfl rfl ?_
  refine gf_if_ne (t := 13) (q := 10) dX4_year_7 (by decide) rfl ?_ ?_
  · refine gf_bipush (q := 12) dX4_year_10 kb_m4 rfl ?_
    exact gf_reti dX4_year_12 rfl
  · refine gf_aload_n (i := 0) (q := 14) dX4_year_13 rfl rfl rfl ?_
    refine gf_getA (C := RX4) (T := TX4) (N := 15) (ci := 4) (k := 0) (j := 7) (t := 22) (q := 17) dX4_year_14 rfl rfl kin4 (by decide) kw134 rfl rfl ?_
    refine gf_getI (C := RX0) (T := TX0) (N := 12) (ci := 0) (k := 22) (j := 11) (q := 20) dX4_year_17 rfl rfl kin0 (by decide) kw70 rfl rfl ?_
    refine gf_bipush (q := 22) dX4_year_20 kb_40 rfl ?_
    refine gf_icmp_lt (t := 28) (q := 25) dX4_year_22 (by decide) rfl ?_ ?_
    · refine gf_aload_n (i := 0) (q := 29) dX4_year_28 rfl rfl rfl ?_
      refine gf_getA (C := RX4) (T := TX4) (N := 15) (ci := 4) (k := 0) (j := 7) (t := 22) (q := 32) dX4_year_29 rfl rfl kin4 (by decide) kw134 rfl rfl ?_
      refine gf_iconst (q := 33) dX4_year_32 ki_0 rfl ?_
      refine gf_iconst (q := 34) dX4_year_33 ki_0 rfl ?_
      refine gf_callV_v (n2 := 2) (As := [.int 0, .int 0]) (st := []) (b := 22) (ci := 0) (C := RX0) (q := 37) (hlen := rfl) rfl rfl kw346 kw347 kw348 dX4_year_34 kw349 kw3 (by decide +kernel) (by decide) (Nat.le_of_ble_eq_true rfl) (C_X0_perform 0 0 u) rfl rfl (fun x1 => ?_)
      refine gf_aload_n (i := 0) (q := 38) dX4_year_37 rfl rfl rfl ?_
      refine gf_getA (C := RX4) (T := TX4) (N := 15) (ci := 4) (k := 0) (j := 7) (t := 22) (q := 41) dX4_year_38 rfl rfl kin4 (by decide) kw134 rfl rfl ?_
      refine gf_getI (C := RX0) (T := TX0) (N := 12) (ci := 0) (k := 22) (j := 10) (q := 44) dX4_year_41 rfl rfl kin0 (by decide) kw68 rfl rfl ?_
      exact gf_reti dX4_year_44 rfl
    · refine gf_bipush (q := 27) dX4_year_25 kb_m2 rfl ?_
      exact gf_reti dX4_year_27 rfl
theorem C_X4_year  (u : XM) : CF YY 6 yX4_year cX4_year 1 (some .int) [.ref 0] u emI (F_X4_year u) := cf_of (by decide +kernel) (Nat.le_of_ble_eq_true rfl) rfl (T_X4_year u)
def F_X4_paddle_53 (s0 : Int32) (u : XM) : Option (Int32 × XM) := (Option.bind (F_X0_perform s0 0 u) (fun x1 => some ((mi x1.2 22 9), x1.2)))
set_option maxRecDepth 20000 in
set_option maxHeartbeats 4000000 in
theorem T_X4_paddle_53 (s0 : Int32) (u : XM) : GF E0 YY 6 yX4_paddle cX4_paddle 2 (some .int) 53 [some (.ref 0), none] [.int s0, .ref 22] u emI (F_X4_paddle_53 s0 u) := by
  unfold F_X4_paddle_53
  refine gf_iconst (q := 54) dX4_paddle_53 ki_0 rfl ?_
  refine gf_callV_v (n2 := 2) (As := [.int s0, .int 0]) (st := []) (b := 22) (ci := 0) (C := RX0) (q := 57) (hlen := rfl) rfl rfl kw346 kw347 kw348 dX4_paddle_54 kw349 kw3 (by decide +kernel) (by decide) (Nat.le_of_ble_eq_true rfl) (C_X0_perform s0 0 u) rfl rfl (fun x1 => ?_)
  refine gf_aload_n (i := 0) (q := 58) dX4_paddle_57 rfl rfl rfl ?_
  refine gf_getA (C := RX4) (T := TX4) (N := 15) (ci := 4) (k := 0) (j := 7) (t := 22) (q := 61) dX4_paddle_58 rfl rfl kin4 (by decide) kw134 rfl rfl ?_
  refine gf_getI (C := RX0) (T := TX0) (N := 12) (ci := 0) (k := 22) (j := 9) (q := 64) dX4_paddle_61 rfl rfl kin0 (by decide) kw66 rfl rfl ?_
  exact gf_reti dX4_paddle_64 rfl
def F_X4_paddle_11 (v1 : Int32) (u : XM) : Option (Int32 × XM) := (if (mi u 22 6) = 0 then some ((-4), u) else (if (mi u 22 11) < 40 then (if v1 = 1 then F_X4_paddle_53 2 u else F_X4_paddle_53 1 u) else some ((-2), u)))
set_option maxRecDepth 20000 in
set_option maxHeartbeats 4000000 in
theorem T_X4_paddle_11 (v1 : Int32) (u : XM) : GF E0 YY 6 yX4_paddle cX4_paddle 2 (some .int) 11 [some (.ref 0), some (.int v1)] [] u emI (F_X4_paddle_11 v1 u) := by
  unfold F_X4_paddle_11
  refine gf_aload_n (i := 0) (q := 12) dX4_paddle_11 rfl rfl rfl ?_
  refine gf_getA (C := RX4) (T := TX4) (N := 15) (ci := 4) (k := 0) (j := 7) (t := 22) (q := 15) dX4_paddle_12 rfl rfl kin4 (by decide) kw134 rfl rfl ?_
  refine gf_getI (C := RX0) (T := TX0) (N := 12) (ci := 0) (k := 22) (j := 6) (q := 18) dX4_paddle_15 rfl rfl kin0 (by decide) kw61 rfl rfl ?_
  refine gf_if_ne (t := 24) (q := 21) dX4_paddle_18 (by decide) rfl ?_ ?_
  · refine gf_bipush (q := 23) dX4_paddle_21 kb_m4 rfl ?_
    exact gf_reti dX4_paddle_23 rfl
  · refine gf_aload_n (i := 0) (q := 25) dX4_paddle_24 rfl rfl rfl ?_
    refine gf_getA (C := RX4) (T := TX4) (N := 15) (ci := 4) (k := 0) (j := 7) (t := 22) (q := 28) dX4_paddle_25 rfl rfl kin4 (by decide) kw134 rfl rfl ?_
    refine gf_getI (C := RX0) (T := TX0) (N := 12) (ci := 0) (k := 22) (j := 11) (q := 31) dX4_paddle_28 rfl rfl kin0 (by decide) kw70 rfl rfl ?_
    refine gf_bipush (q := 33) dX4_paddle_31 kb_40 rfl ?_
    refine gf_icmp_lt (t := 39) (q := 36) dX4_paddle_33 (by decide) rfl ?_ ?_
    · refine gf_aload_n (i := 0) (q := 40) dX4_paddle_39 rfl rfl rfl ?_
      refine gf_getA (C := RX4) (T := TX4) (N := 15) (ci := 4) (k := 0) (j := 7) (t := 22) (q := 43) dX4_paddle_40 rfl rfl kin4 (by decide) kw134 rfl rfl ?_
      refine gf_iload_n (i := 1) (q := 44) dX4_paddle_43 rfl rfl rfl ?_
      refine gf_iconst (q := 45) dX4_paddle_44 ki_1 rfl ?_
      refine gf_icmp_ne (t := 52) (q := 48) dX4_paddle_45 (by decide) rfl ?_ ?_
      · refine gf_iconst (q := 49) dX4_paddle_48 ki_2 rfl ?_
        refine gf_goto (q := 53) dX4_paddle_49 (by decide) ?_
        exact gf_mask (b := [true, false]) rfl (T_X4_paddle_53 2 u)
      · refine gf_iconst (q := 53) dX4_paddle_52 ki_1 rfl ?_
        exact gf_mask (b := [true, false]) rfl (T_X4_paddle_53 1 u)
    · refine gf_bipush (q := 38) dX4_paddle_36 kb_m2 rfl ?_
      exact gf_reti dX4_paddle_38 rfl
def F_X4_paddle (v1 : Int32) (u : XM) : Option (Int32 × XM) := (if v1 = 0 then F_X4_paddle_11 v1 u else (if v1 = 1 then F_X4_paddle_11 v1 u else some ((-1), u)))
set_option maxRecDepth 20000 in
set_option maxHeartbeats 4000000 in
theorem T_X4_paddle (v1 : Int32) (u : XM) : GF E0 YY 6 yX4_paddle cX4_paddle 2 (some .int) 0 [some (.ref 0), some (.int v1)] [] u emI (F_X4_paddle v1 u) := by
  unfold F_X4_paddle
  refine gf_iload_n (i := 1) (q := 1) dX4_paddle_0 rfl rfl rfl ?_
  refine gf_if_eq (t := 11) (q := 4) dX4_paddle_1 (by decide) rfl ?_ ?_
  · exact (T_X4_paddle_11 v1 u)
  · refine gf_iload_n (i := 1) (q := 5) dX4_paddle_4 rfl rfl rfl ?_
    refine gf_iconst (q := 6) dX4_paddle_5 ki_1 rfl ?_
    refine gf_icmp_eq (t := 11) (q := 9) dX4_paddle_6 (by decide) rfl ?_ ?_
    · exact (T_X4_paddle_11 v1 u)
    · refine gf_iconst (q := 10) dX4_paddle_9 ki_m1 rfl ?_
      exact gf_reti dX4_paddle_10 rfl
theorem C_X4_paddle (v1 : Int32) (u : XM) : CF YY 6 yX4_paddle cX4_paddle 2 (some .int) [.ref 0, .int v1] u emI (F_X4_paddle v1 u) := cf_of (by decide +kernel) (Nat.le_of_ble_eq_true rfl) rfl (T_X4_paddle v1 u)
def F_X4_move_67 (v1 : Int32) (s0 : Int32) (u : XM) : Option (Int32 × XM) := (Option.bind (F_X0_perform s0 v1 u) (fun x1 => (if ain YY 0 25 v1 = true then some ((mi x1.2 25 (Int32.toNatClampNeg v1)), x1.2) else none)))
set_option maxRecDepth 20000 in
set_option maxHeartbeats 4000000 in
theorem T_X4_move_67 (v1 : Int32) (s0 : Int32) (u : XM) : GF E0 YY 6 yX4_move cX4_move 3 (some .int) 67 [some (.ref 0), some (.int v1), none] [.int s0, .ref 22] u emI (F_X4_move_67 v1 s0 u) := by
  unfold F_X4_move_67
  refine gf_iload_n (i := 1) (q := 68) dX4_move_67 rfl rfl rfl ?_
  refine gf_callV_v (n2 := 2) (As := [.int s0, .int v1]) (st := []) (b := 22) (ci := 0) (C := RX0) (q := 71) (hlen := rfl) rfl rfl kw346 kw347 kw348 dX4_move_68 kw349 kw3 (by decide +kernel) (by decide) (Nat.le_of_ble_eq_true rfl) (C_X0_perform s0 v1 u) rfl rfl (fun x1 => ?_)
  refine gf_aload_n (i := 0) (q := 72) dX4_move_71 rfl rfl rfl ?_
  refine gf_getA (C := RX4) (T := TX4) (N := 15) (ci := 4) (k := 0) (j := 7) (t := 22) (q := 75) dX4_move_72 rfl rfl kin4 (by decide) kw134 rfl rfl ?_
  refine gf_getA (C := RX0) (T := TX0) (N := 12) (ci := 0) (k := 22) (j := 2) (t := 25) (q := 78) dX4_move_75 rfl rfl kin0 (by decide) kw51 rfl rfl ?_
  refine gf_iload_n (i := 1) (q := 79) dX4_move_78 rfl rfl rfl ?_
  refine gf_iald (q := 80) dX4_move_79 rfl ?_
  exact gf_reti dX4_move_80 rfl
def F_X4_move_23 (v1 : Int32) (v2 : Int32) (u : XM) : Option (Int32 × XM) := (Option.bind (F_X0_canMove v1 v2 u) (fun x2 => (if x2.1 = 0 then some ((-4), x2.2) else (if (mi x2.2 22 11) < 40 then (if v2 = 1 then F_X4_move_67 v1 3 x2.2 else F_X4_move_67 v1 4 x2.2) else some ((-2), x2.2)))))
set_option maxRecDepth 20000 in
set_option maxHeartbeats 4000000 in
theorem T_X4_move_23 (v1 : Int32) (v2 : Int32) (u : XM) : GF E0 YY 6 yX4_move cX4_move 3 (some .int) 23 [some (.ref 0), some (.int v1), some (.int v2)] [] u emI (F_X4_move_23 v1 v2 u) := by
  unfold F_X4_move_23
  refine gf_aload_n (i := 0) (q := 24) dX4_move_23 rfl rfl rfl ?_
  refine gf_getA (C := RX4) (T := TX4) (N := 15) (ci := 4) (k := 0) (j := 7) (t := 22) (q := 27) dX4_move_24 rfl rfl kin4 (by decide) kw134 rfl rfl ?_
  refine gf_iload_n (i := 1) (q := 28) dX4_move_27 rfl rfl rfl ?_
  refine gf_iload_n (i := 2) (q := 29) dX4_move_28 rfl rfl rfl ?_
  refine gf_callV_i (n2 := 2) (As := [.int v1, .int v2]) (st := []) (b := 22) (ci := 0) (C := RX0) (q := 32) (hlen := rfl) rfl rfl kw358 kw359 kw360 dX4_move_29 kw361 kw3 (by decide +kernel) (by decide) (Nat.le_of_ble_eq_true rfl) (C_X0_canMove v1 v2 u) rfl rfl (fun x2 => ?_)
  refine gf_if_ne (t := 38) (q := 35) dX4_move_32 (by decide) rfl ?_ ?_
  · refine gf_bipush (q := 37) dX4_move_35 kb_m4 rfl ?_
    exact gf_reti dX4_move_37 rfl
  · refine gf_aload_n (i := 0) (q := 39) dX4_move_38 rfl rfl rfl ?_
    refine gf_getA (C := RX4) (T := TX4) (N := 15) (ci := 4) (k := 0) (j := 7) (t := 22) (q := 42) dX4_move_39 rfl rfl kin4 (by decide) kw134 rfl rfl ?_
    refine gf_getI (C := RX0) (T := TX0) (N := 12) (ci := 0) (k := 22) (j := 11) (q := 45) dX4_move_42 rfl rfl kin0 (by decide) kw70 rfl rfl ?_
    refine gf_bipush (q := 47) dX4_move_45 kb_40 rfl ?_
    refine gf_icmp_lt (t := 53) (q := 50) dX4_move_47 (by decide) rfl ?_ ?_
    · refine gf_aload_n (i := 0) (q := 54) dX4_move_53 rfl rfl rfl ?_
      refine gf_getA (C := RX4) (T := TX4) (N := 15) (ci := 4) (k := 0) (j := 7) (t := 22) (q := 57) dX4_move_54 rfl rfl kin4 (by decide) kw134 rfl rfl ?_
      refine gf_iload_n (i := 2) (q := 58) dX4_move_57 rfl rfl rfl ?_
      refine gf_iconst (q := 59) dX4_move_58 ki_1 rfl ?_
      refine gf_icmp_ne (t := 66) (q := 62) dX4_move_59 (by decide) rfl ?_ ?_
      · refine gf_iconst (q := 63) dX4_move_62 ki_3 rfl ?_
        refine gf_goto (q := 67) dX4_move_63 (by decide) ?_
        exact gf_mask (b := [true, true, false]) rfl (T_X4_move_67 v1 3 x2.2)
      · refine gf_iconst (q := 67) dX4_move_66 ki_4 rfl ?_
        exact gf_mask (b := [true, true, false]) rfl (T_X4_move_67 v1 4 x2.2)
    · refine gf_bipush (q := 52) dX4_move_50 kb_m2 rfl ?_
      exact gf_reti dX4_move_52 rfl
def F_X4_move (v1 : Int32) (v2 : Int32) (u : XM) : Option (Int32 × XM) := (Option.bind (F_X0_has v1 u) (fun x3 => (if x3.1 = 0 then some ((-1), x3.2) else (if v2 = 1 then F_X4_move_23 v1 v2 x3.2 else (if v2 = (-1) then F_X4_move_23 v1 v2 x3.2 else some ((-1), x3.2))))))
set_option maxRecDepth 20000 in
set_option maxHeartbeats 4000000 in
theorem T_X4_move (v1 : Int32) (v2 : Int32) (u : XM) : GF E0 YY 6 yX4_move cX4_move 3 (some .int) 0 [some (.ref 0), some (.int v1), some (.int v2)] [] u emI (F_X4_move v1 v2 u) := by
  unfold F_X4_move
  refine gf_aload_n (i := 0) (q := 1) dX4_move_0 rfl rfl rfl ?_
  refine gf_getA (C := RX4) (T := TX4) (N := 15) (ci := 4) (k := 0) (j := 7) (t := 22) (q := 4) dX4_move_1 rfl rfl kin4 (by decide) kw134 rfl rfl ?_
  refine gf_iload_n (i := 1) (q := 5) dX4_move_4 rfl rfl rfl ?_
  refine gf_callV_i (n2 := 1) (As := [.int v1]) (st := []) (b := 22) (ci := 0) (C := RX0) (q := 8) (hlen := rfl) rfl rfl kw303 kw269 kw270 dX4_move_5 kw271 kw3 (by decide +kernel) (by decide) (Nat.le_of_ble_eq_true rfl) (C_X0_has v1 u) rfl rfl (fun x3 => ?_)
  refine gf_if_eq (t := 21) (q := 11) dX4_move_8 (by decide) rfl ?_ ?_
  · refine gf_iconst (q := 22) dX4_move_21 ki_m1 rfl ?_
    exact gf_reti dX4_move_22 rfl
  · refine gf_iload_n (i := 2) (q := 12) dX4_move_11 rfl rfl rfl ?_
    refine gf_iconst (q := 13) dX4_move_12 ki_1 rfl ?_
    refine gf_icmp_eq (t := 23) (q := 16) dX4_move_13 (by decide) rfl ?_ ?_
    · exact (T_X4_move_23 v1 v2 x3.2)
    · refine gf_iload_n (i := 2) (q := 17) dX4_move_16 rfl rfl rfl ?_
      refine gf_iconst (q := 18) dX4_move_17 ki_m1 rfl ?_
      refine gf_icmp_eq (t := 23) (q := 21) dX4_move_18 (by decide) rfl ?_ ?_
      · exact (T_X4_move_23 v1 v2 x3.2)
      · refine gf_iconst (q := 22) dX4_move_21 ki_m1 rfl ?_
        exact gf_reti dX4_move_22 rfl
theorem C_X4_move (v1 : Int32) (v2 : Int32) (u : XM) : CF YY 6 yX4_move cX4_move 3 (some .int) [.ref 0, .int v1, .int v2] u emI (F_X4_move v1 v2 u) := cf_of (by decide +kernel) (Nat.le_of_ble_eq_true rfl) rfl (T_X4_move v1 v2 u)
def F_X4_take (v1 : Int32) (u : XM) : Option (Int32 × XM) := (Option.bind (F_X0_has v1 u) (fun x1 => (if x1.1 = 0 then some ((-1), x1.2) else (Option.bind (F_X0_canTake v1 x1.2) (fun x2 => (if x2.1 = 0 then some ((-4), x2.2) else (if (mi x2.2 22 11) < 40 then (if ain YY 0 25 v1 = true then (if ain YY 0 27 v1 = true then (Option.bind (F_J9_abs_0f7a4 YY ((mi x2.2 25 (Int32.toNatClampNeg v1)) - (mi x2.2 27 (Int32.toNatClampNeg v1))) x2.2) (fun x3 => (Option.bind (F_X0_perform 5 v1 x3.2) (fun x4 => some (x3.1, x4.2))))) else none) else none) else some ((-2), x2.2))))))))
set_option maxRecDepth 20000 in
set_option maxHeartbeats 4000000 in
theorem T_X4_take (v1 : Int32) (u : XM) : GF E0 YY 6 yX4_take cX4_take 3 (some .int) 0 [some (.ref 0), some (.int v1), none] [] u emI (F_X4_take v1 u) := by
  unfold F_X4_take
  refine gf_aload_n (i := 0) (q := 1) dX4_take_0 rfl rfl rfl ?_
  refine gf_getA (C := RX4) (T := TX4) (N := 15) (ci := 4) (k := 0) (j := 7) (t := 22) (q := 4) dX4_take_1 rfl rfl kin4 (by decide) kw134 rfl rfl ?_
  refine gf_iload_n (i := 1) (q := 5) dX4_take_4 rfl rfl rfl ?_
  refine gf_callV_i (n2 := 1) (As := [.int v1]) (st := []) (b := 22) (ci := 0) (C := RX0) (q := 8) (hlen := rfl) rfl rfl kw303 kw269 kw270 dX4_take_5 kw271 kw3 (by decide +kernel) (by decide) (Nat.le_of_ble_eq_true rfl) (C_X0_has v1 u) rfl rfl (fun x1 => ?_)
  refine gf_if_ne (t := 13) (q := 11) dX4_take_8 (by decide) rfl ?_ ?_
  · refine gf_iconst (q := 12) dX4_take_11 ki_m1 rfl ?_
    exact gf_reti dX4_take_12 rfl
  · refine gf_aload_n (i := 0) (q := 14) dX4_take_13 rfl rfl rfl ?_
    refine gf_getA (C := RX4) (T := TX4) (N := 15) (ci := 4) (k := 0) (j := 7) (t := 22) (q := 17) dX4_take_14 rfl rfl kin4 (by decide) kw134 rfl rfl ?_
    refine gf_iload_n (i := 1) (q := 18) dX4_take_17 rfl rfl rfl ?_
    refine gf_callV_i (n2 := 1) (As := [.int v1]) (st := []) (b := 22) (ci := 0) (C := RX0) (q := 21) (hlen := rfl) rfl rfl kw367 kw368 kw369 dX4_take_18 kw370 kw3 (by decide +kernel) (by decide) (Nat.le_of_ble_eq_true rfl) (C_X0_canTake v1 x1.2) rfl rfl (fun x2 => ?_)
    refine gf_if_ne (t := 27) (q := 24) dX4_take_21 (by decide) rfl ?_ ?_
    · refine gf_bipush (q := 26) dX4_take_24 kb_m4 rfl ?_
      exact gf_reti dX4_take_26 rfl
    · refine gf_aload_n (i := 0) (q := 28) dX4_take_27 rfl rfl rfl ?_
      refine gf_getA (C := RX4) (T := TX4) (N := 15) (ci := 4) (k := 0) (j := 7) (t := 22) (q := 31) dX4_take_28 rfl rfl kin4 (by decide) kw134 rfl rfl ?_
      refine gf_getI (C := RX0) (T := TX0) (N := 12) (ci := 0) (k := 22) (j := 11) (q := 34) dX4_take_31 rfl rfl kin0 (by decide) kw70 rfl rfl ?_
      refine gf_bipush (q := 36) dX4_take_34 kb_40 rfl ?_
      refine gf_icmp_lt (t := 42) (q := 39) dX4_take_36 (by decide) rfl ?_ ?_
      · refine gf_aload_n (i := 0) (q := 43) dX4_take_42 rfl rfl rfl ?_
        refine gf_getA (C := RX4) (T := TX4) (N := 15) (ci := 4) (k := 0) (j := 7) (t := 22) (q := 46) dX4_take_43 rfl rfl kin4 (by decide) kw134 rfl rfl ?_
        refine gf_getA (C := RX0) (T := TX0) (N := 12) (ci := 0) (k := 22) (j := 2) (t := 25) (q := 49) dX4_take_46 rfl rfl kin0 (by decide) kw51 rfl rfl ?_
        refine gf_iload_n (i := 1) (q := 50) dX4_take_49 rfl rfl rfl ?_
        refine gf_iald (q := 51) dX4_take_50 rfl ?_
        refine gf_aload_n (i := 0) (q := 52) dX4_take_51 rfl rfl rfl ?_
        refine gf_getA (C := RX4) (T := TX4) (N := 15) (ci := 4) (k := 0) (j := 7) (t := 22) (q := 55) dX4_take_52 rfl rfl kin4 (by decide) kw134 rfl rfl ?_
        refine gf_getA (C := RX0) (T := TX0) (N := 12) (ci := 0) (k := 22) (j := 4) (t := 27) (q := 58) dX4_take_55 rfl rfl kin0 (by decide) kw56 rfl rfl ?_
        refine gf_iload_n (i := 1) (q := 59) dX4_take_58 rfl rfl rfl ?_
        refine gf_iald (q := 60) dX4_take_59 rfl ?_
        refine gf_isub (q := 61) dX4_take_60 rfl ?_
        refine gf_callS_i (n2 := 1) (As := [.int ((mi x2.2 25 (Int32.toNatClampNeg v1)) - (mi x2.2 27 (Int32.toNatClampNeg v1)))]) (st := []) (q := 64) (hlen := rfl) kw371 kw372 dX4_take_61 kw373 kw9 (by decide +kernel) (by decide) (Nat.le_of_ble_eq_true rfl) (C_J9_abs_0f7a4 YY ((mi x2.2 25 (Int32.toNatClampNeg v1)) - (mi x2.2 27 (Int32.toNatClampNeg v1))) x2.2) rfl rfl (fun x3 => ?_)
        refine gf_istore_n (i := 2) (lv2 := [some (.ref 0), some (.int v1), some (.int x3.1)]) (q := 65) dX4_take_64 rfl (by decide) rfl rfl ?_
        refine gf_aload_n (i := 0) (q := 66) dX4_take_65 rfl rfl rfl ?_
        refine gf_getA (C := RX4) (T := TX4) (N := 15) (ci := 4) (k := 0) (j := 7) (t := 22) (q := 69) dX4_take_66 rfl rfl kin4 (by decide) kw134 rfl rfl ?_
        refine gf_iconst (q := 70) dX4_take_69 ki_5 rfl ?_
        refine gf_iload_n (i := 1) (q := 71) dX4_take_70 rfl rfl rfl ?_
        refine gf_callV_v (n2 := 2) (As := [.int 5, .int v1]) (st := []) (b := 22) (ci := 0) (C := RX0) (q := 74) (hlen := rfl) rfl rfl kw346 kw347 kw348 dX4_take_71 kw349 kw3 (by decide +kernel) (by decide) (Nat.le_of_ble_eq_true rfl) (C_X0_perform 5 v1 x3.2) rfl rfl (fun x4 => ?_)
        refine gf_iload_n (i := 2) (q := 75) dX4_take_74 rfl rfl rfl ?_
        exact gf_reti dX4_take_75 rfl
      · refine gf_bipush (q := 41) dX4_take_39 kb_m2 rfl ?_
        exact gf_reti dX4_take_41 rfl
theorem C_X4_take (v1 : Int32) (u : XM) : CF YY 6 yX4_take cX4_take 3 (some .int) [.ref 0, .int v1] u emI (F_X4_take v1 u) := cf_of (by decide +kernel) (Nat.le_of_ble_eq_true rfl) rfl (T_X4_take v1 u)
def F_X4_undo (v1 : Int32) (u : XM) : Option (Int32 × XM) := (if v1 < 0 then some ((-1), u) else (if v1 ≤ (mi u 22 11) then (Option.bind (F_X0_replay v1 u) (fun x1 => some (((mi u 22 11) - v1), x1.2))) else some ((-1), u)))
set_option maxRecDepth 20000 in
set_option maxHeartbeats 4000000 in
theorem T_X4_undo (v1 : Int32) (u : XM) : GF E0 YY 6 yX4_undo cX4_undo 3 (some .int) 0 [some (.ref 0), some (.int v1), none] [] u emI (F_X4_undo v1 u) := by
  unfold F_X4_undo
  refine gf_iload_n (i := 1) (q := 1) dX4_undo_0 rfl rfl rfl ?_
  refine gf_if_lt (t := 15) (q := 4) dX4_undo_1 (by decide) rfl ?_ ?_
  · refine gf_iconst (q := 16) dX4_undo_15 ki_m1 rfl ?_
    exact gf_reti dX4_undo_16 rfl
  · refine gf_iload_n (i := 1) (q := 5) dX4_undo_4 rfl rfl rfl ?_
    refine gf_aload_n (i := 0) (q := 6) dX4_undo_5 rfl rfl rfl ?_
    refine gf_getA (C := RX4) (T := TX4) (N := 15) (ci := 4) (k := 0) (j := 7) (t := 22) (q := 9) dX4_undo_6 rfl rfl kin4 (by decide) kw134 rfl rfl ?_
    refine gf_getI (C := RX0) (T := TX0) (N := 12) (ci := 0) (k := 22) (j := 11) (q := 12) dX4_undo_9 rfl rfl kin0 (by decide) kw70 rfl rfl ?_
    refine gf_icmp_le (t := 17) (q := 15) dX4_undo_12 (by decide) rfl ?_ ?_
    · refine gf_aload_n (i := 0) (q := 18) dX4_undo_17 rfl rfl rfl ?_
      refine gf_getA (C := RX4) (T := TX4) (N := 15) (ci := 4) (k := 0) (j := 7) (t := 22) (q := 21) dX4_undo_18 rfl rfl kin4 (by decide) kw134 rfl rfl ?_
      refine gf_getI (C := RX0) (T := TX0) (N := 12) (ci := 0) (k := 22) (j := 11) (q := 24) dX4_undo_21 rfl rfl kin0 (by decide) kw70 rfl rfl ?_
      refine gf_iload_n (i := 1) (q := 25) dX4_undo_24 rfl rfl rfl ?_
      refine gf_isub (q := 26) dX4_undo_25 rfl ?_
      refine gf_istore_n (i := 2) (lv2 := [some (.ref 0), some (.int v1), some (.int ((mi u 22 11) - v1))]) (q := 27) dX4_undo_26 rfl (by decide) rfl rfl ?_
      refine gf_aload_n (i := 0) (q := 28) dX4_undo_27 rfl rfl rfl ?_
      refine gf_getA (C := RX4) (T := TX4) (N := 15) (ci := 4) (k := 0) (j := 7) (t := 22) (q := 31) dX4_undo_28 rfl rfl kin4 (by decide) kw134 rfl rfl ?_
      refine gf_iload_n (i := 1) (q := 32) dX4_undo_31 rfl rfl rfl ?_
      refine gf_callV_v (n2 := 1) (As := [.int v1]) (st := []) (b := 22) (ci := 0) (C := RX0) (q := 35) (hlen := rfl) rfl rfl kw378 kw260 kw261 dX4_undo_32 kw262 kw3 (by decide +kernel) (by decide) (Nat.le_of_ble_eq_true rfl) (C_X0_replay v1 u) rfl rfl (fun x1 => ?_)
      refine gf_iload_n (i := 2) (q := 36) dX4_undo_35 rfl rfl rfl ?_
      exact gf_reti dX4_undo_36 rfl
    · refine gf_iconst (q := 16) dX4_undo_15 ki_m1 rfl ?_
      exact gf_reti dX4_undo_16 rfl
theorem C_X4_undo (v1 : Int32) (u : XM) : CF YY 6 yX4_undo cX4_undo 3 (some .int) [.ref 0, .int v1] u emI (F_X4_undo v1 u) := cf_of (by decide +kernel) (Nat.le_of_ble_eq_true rfl) rfl (T_X4_undo v1 u)
def F_X4_isKeptPlace (v0 : Int32) (u : XM) : Option (Int32 × XM) := (if v0 < 0 then some (0, u) else (if 3 ≤ v0 then some (0, u) else some (1, u)))
set_option maxRecDepth 20000 in
set_option maxHeartbeats 4000000 in
theorem T_X4_isKeptPlace (v0 : Int32) (u : XM) : GF E0 YY 1 yX4_isKeptPlace cX4_isKeptPlace 1 (some .boolean) 0 [some (.int v0)] [] u emI (F_X4_isKeptPlace v0 u) := by
  unfold F_X4_isKeptPlace
  refine gf_iload_n (i := 0) (q := 1) dX4_isKeptPlace_0 rfl rfl rfl ?_
  refine gf_if_lt (t := 13) (q := 4) dX4_isKeptPlace_1 (by decide) rfl ?_ ?_
  · refine gf_iconst (q := 14) dX4_isKeptPlace_13 ki_0 rfl ?_
    exact gf_retz dX4_isKeptPlace_14 rfl rfl
  · refine gf_iload_n (i := 0) (q := 5) dX4_isKeptPlace_4 rfl rfl rfl ?_
    refine gf_iconst (q := 6) dX4_isKeptPlace_5 ki_3 rfl ?_
    refine gf_icmp_ge (t := 13) (q := 9) dX4_isKeptPlace_6 (by decide) rfl ?_ ?_
    · refine gf_iconst (q := 14) dX4_isKeptPlace_13 ki_0 rfl ?_
      exact gf_retz dX4_isKeptPlace_14 rfl rfl
    · refine gf_iconst (q := 10) dX4_isKeptPlace_9 ki_1 rfl ?_
      refine gf_goto (q := 14) dX4_isKeptPlace_10 (by decide) ?_
      exact gf_retz dX4_isKeptPlace_14 rfl rfl
theorem C_X4_isKeptPlace (v0 : Int32) (u : XM) : CF YY 1 yX4_isKeptPlace cX4_isKeptPlace 1 (some .boolean) [.int v0] u emI (F_X4_isKeptPlace v0 u) := cf_of (by decide +kernel) (Nat.le_of_ble_eq_true rfl) rfl (T_X4_isKeptPlace v0 u)
def F_X4_keep (v1 : Int32) (u : XM) : Option (Int32 × XM) := (Option.bind (F_X4_isKeptPlace v1 u) (fun x1 => (if x1.1 = 0 then some ((-1), x1.2) else (if (mi x1.2 22 6) = 0 then some ((-4), x1.2) else (if ain YY 3 15 v1 = true then (Option.bind (alen YY 0 28) (fun n2 => Option.bind (alen YY 0 (16 + Int32.toNatClampNeg v1)) (fun n3 => if (0 : Int32) ≤ 0 ∧ (0 : Int32) ≤ 0 ∧ (0 : Int32) ≤ 40 ∧ (Int32.toNatClampNeg 0) + (Int32.toNatClampNeg 40) ≤ n2 ∧ (Int32.toNatClampNeg 0) + (Int32.toNatClampNeg 40) ≤ n3 then (if ain YY 0 19 v1 = true then some ((mi (wi (wc x1.2 28 (Int32.toNatClampNeg 0) (16 + Int32.toNatClampNeg v1) (Int32.toNatClampNeg 0) (Int32.toNatClampNeg 40)) 19 (Int32.toNatClampNeg v1) (mi (wc x1.2 28 (Int32.toNatClampNeg 0) (16 + Int32.toNatClampNeg v1) (Int32.toNatClampNeg 0) (Int32.toNatClampNeg 40)) 22 11)) 22 11), (wi (wc x1.2 28 (Int32.toNatClampNeg 0) (16 + Int32.toNatClampNeg v1) (Int32.toNatClampNeg 0) (Int32.toNatClampNeg 40)) 19 (Int32.toNatClampNeg v1) (mi (wc x1.2 28 (Int32.toNatClampNeg 0) (16 + Int32.toNatClampNeg v1) (Int32.toNatClampNeg 0) (Int32.toNatClampNeg 40)) 22 11))) else none) else none))) else none)))))
set_option maxRecDepth 20000 in
set_option maxHeartbeats 4000000 in
theorem T_X4_keep (v1 : Int32) (u : XM) : GF E0 YY 2 yX4_keep cX4_keep 2 (some .int) 0 [some (.ref 0), some (.int v1)] [] u emI (F_X4_keep v1 u) := by
  unfold F_X4_keep
  refine gf_iload_n (i := 1) (q := 1) dX4_keep_0 rfl rfl rfl ?_
  refine gf_callS_i (n2 := 1) (As := [.int v1]) (st := []) (q := 4) (hlen := rfl) kw383 kw384 dX4_keep_1 kw385 kw1 (by decide +kernel) (by decide) (Nat.le_of_ble_eq_true rfl) (C_X4_isKeptPlace v1 u) rfl rfl (fun x1 => ?_)
  refine gf_if_ne (t := 9) (q := 7) dX4_keep_4 (by decide) rfl ?_ ?_
  · refine gf_iconst (q := 8) dX4_keep_7 ki_m1 rfl ?_
    exact gf_reti dX4_keep_8 rfl
  · refine gf_aload_n (i := 0) (q := 10) dX4_keep_9 rfl rfl rfl ?_
    refine gf_getA (C := RX4) (T := TX4) (N := 15) (ci := 4) (k := 0) (j := 7) (t := 22) (q := 13) dX4_keep_10 rfl rfl kin4 (by decide) kw134 rfl rfl ?_
    refine gf_getI (C := RX0) (T := TX0) (N := 12) (ci := 0) (k := 22) (j := 6) (q := 16) dX4_keep_13 rfl rfl kin0 (by decide) kw61 rfl rfl ?_
    refine gf_if_ne (t := 22) (q := 19) dX4_keep_16 (by decide) rfl ?_ ?_
    · refine gf_bipush (q := 21) dX4_keep_19 kb_m4 rfl ?_
      exact gf_reti dX4_keep_21 rfl
    · refine gf_aload_n (i := 0) (q := 23) dX4_keep_22 rfl rfl rfl ?_
      refine gf_getA (C := RX4) (T := TX4) (N := 15) (ci := 4) (k := 0) (j := 7) (t := 22) (q := 26) dX4_keep_23 rfl rfl kin4 (by decide) kw134 rfl rfl ?_
      refine gf_getA (C := RX0) (T := TX0) (N := 12) (ci := 0) (k := 22) (j := 5) (t := 28) (q := 29) dX4_keep_26 rfl rfl kin0 (by decide) kw58 rfl rfl ?_
      refine gf_iconst (q := 30) dX4_keep_29 ki_0 rfl ?_
      refine gf_aload_n (i := 0) (q := 31) dX4_keep_30 rfl rfl rfl ?_
      refine gf_getA (C := RX4) (T := TX4) (N := 15) (ci := 4) (k := 0) (j := 4) (t := 15) (q := 34) dX4_keep_31 rfl rfl kin4 (by decide) kw131 rfl rfl ?_
      refine gf_iload_n (i := 1) (q := 35) dX4_keep_34 rfl rfl rfl ?_
      refine gf_aald3 (n := 3) (b := 16) (q := 36) dX4_keep_35 rfl rfl ?_
      refine gf_iconst (q := 37) dX4_keep_36 ki_0 rfl ?_
      refine gf_bipush (q := 39) dX4_keep_37 kb_40 rfl ?_
      refine gf_copy (q := 42) dX4_keep_39 kw207 kw209 kw208 kw8 (by decide) (by decide) rfl ?_
      refine gf_aload_n (i := 0) (q := 43) dX4_keep_42 rfl rfl rfl ?_
      refine gf_getA (C := RX4) (T := TX4) (N := 15) (ci := 4) (k := 0) (j := 5) (t := 19) (q := 46) dX4_keep_43 rfl rfl kin4 (by decide) kw132 rfl rfl ?_
      refine gf_iload_n (i := 1) (q := 47) dX4_keep_46 rfl rfl rfl ?_
      refine gf_aload_n (i := 0) (q := 48) dX4_keep_47 rfl rfl rfl ?_
      refine gf_getA (C := RX4) (T := TX4) (N := 15) (ci := 4) (k := 0) (j := 7) (t := 22) (q := 51) dX4_keep_48 rfl rfl kin4 (by decide) kw134 rfl rfl ?_
      refine gf_getI (C := RX0) (T := TX0) (N := 12) (ci := 0) (k := 22) (j := 11) (q := 54) dX4_keep_51 rfl rfl kin0 (by decide) kw70 rfl rfl ?_
      refine gf_iast (q := 55) dX4_keep_54 rfl ?_
      refine gf_aload_n (i := 0) (q := 56) dX4_keep_55 rfl rfl rfl ?_
      refine gf_getA (C := RX4) (T := TX4) (N := 15) (ci := 4) (k := 0) (j := 7) (t := 22) (q := 59) dX4_keep_56 rfl rfl kin4 (by decide) kw134 rfl rfl ?_
      refine gf_getI (C := RX0) (T := TX0) (N := 12) (ci := 0) (k := 22) (j := 11) (q := 62) dX4_keep_59 rfl rfl kin0 (by decide) kw70 rfl rfl ?_
      exact gf_reti dX4_keep_62 rfl
theorem C_X4_keep (v1 : Int32) (u : XM) : CF YY 2 yX4_keep cX4_keep 2 (some .int) [.ref 0, .int v1] u emI (F_X4_keep v1 u) := cf_of (by decide +kernel) (Nat.le_of_ble_eq_true rfl) rfl (T_X4_keep v1 u)
