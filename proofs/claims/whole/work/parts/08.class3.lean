def F_X4_on (v1 : Int32) (u : XM) : Option (Int32 × XM) := (Option.bind (F_X4_isKeptPlace v1 u) (fun x1 => (if x1.1 = 0 then some ((-1), x1.2) else (if ain YY 0 19 v1 = true then (if (mi x1.2 19 (Int32.toNatClampNeg v1)) = (-1) then (Option.bind (F_X4_found 1 x1.2) (fun x5 => some (x5.1, x5.2))) else (if ain YY 3 15 v1 = true then (Option.bind (alen YY 0 (16 + Int32.toNatClampNeg v1)) (fun n3 => Option.bind (alen YY 0 28) (fun n4 => if (0 : Int32) ≤ 0 ∧ (0 : Int32) ≤ 0 ∧ (0 : Int32) ≤ 40 ∧ (Int32.toNatClampNeg 0) + (Int32.toNatClampNeg 40) ≤ n3 ∧ (Int32.toNatClampNeg 0) + (Int32.toNatClampNeg 40) ≤ n4 then (if ain YY 0 19 v1 = true then (Option.bind (F_X0_replay (mi (wc x1.2 (16 + Int32.toNatClampNeg v1) (Int32.toNatClampNeg 0) 28 (Int32.toNatClampNeg 0) (Int32.toNatClampNeg 40)) 19 (Int32.toNatClampNeg v1)) (wc x1.2 (16 + Int32.toNatClampNeg v1) (Int32.toNatClampNeg 0) 28 (Int32.toNatClampNeg 0) (Int32.toNatClampNeg 40))) (fun x2 => some ((mi x2.2 22 11), x2.2))) else none) else none))) else none)) else none))))
set_option maxRecDepth 20000 in
set_option maxHeartbeats 4000000 in
theorem T_X4_on (v1 : Int32) (u : XM) : GF E0 YY 6 yX4_on cX4_on 2 (some .int) 0 [some (.ref 0), some (.int v1)] [] u emI (F_X4_on v1 u) := by
  unfold F_X4_on
  refine gf_iload_n (i := 1) (q := 1) dX4_on_0 rfl rfl rfl ?_
  refine gf_callS_i (n2 := 1) (As := [.int v1]) (st := []) (q := 4) (hlen := rfl) kw383 kw384 dX4_on_1 kw385 kw1 (by decide +kernel) (by decide) (Nat.le_of_ble_eq_true rfl) (C_X4_isKeptPlace v1 u) rfl rfl (fun x1 => ?_)
  refine gf_if_ne (t := 9) (q := 7) dX4_on_4 (by decide) rfl ?_ ?_
  · refine gf_iconst (q := 8) dX4_on_7 ki_m1 rfl ?_
    exact gf_reti dX4_on_8 rfl
  · refine gf_aload_n (i := 0) (q := 10) dX4_on_9 rfl rfl rfl ?_
    refine gf_getA (C := RX4) (T := TX4) (N := 15) (ci := 4) (k := 0) (j := 5) (t := 19) (q := 13) dX4_on_10 rfl rfl kin4 (by decide) kw132 rfl rfl ?_
    refine gf_iload_n (i := 1) (q := 14) dX4_on_13 rfl rfl rfl ?_
    refine gf_iald (q := 15) dX4_on_14 rfl ?_
    refine gf_iconst (q := 16) dX4_on_15 ki_m1 rfl ?_
    refine gf_icmp_ne (t := 25) (q := 19) dX4_on_16 (by decide) rfl ?_ ?_
    · refine gf_aload_n (i := 0) (q := 20) dX4_on_19 rfl rfl rfl ?_
      refine gf_iconst (q := 21) dX4_on_20 ki_1 rfl ?_
      refine gf_callV_i (n2 := 1) (As := [.int 1]) (st := []) (b := 0) (ci := 4) (C := RX4) (q := 24) (hlen := rfl) rfl rfl kw180 kw182 kp0 dX4_on_21 kw183 kw1 (by decide +kernel) (by decide) (Nat.le_of_ble_eq_true rfl) (C_X4_found 1 x1.2) rfl rfl (fun x5 => ?_)
      exact gf_reti dX4_on_24 rfl
    · refine gf_aload_n (i := 0) (q := 26) dX4_on_25 rfl rfl rfl ?_
      refine gf_getA (C := RX4) (T := TX4) (N := 15) (ci := 4) (k := 0) (j := 4) (t := 15) (q := 29) dX4_on_26 rfl rfl kin4 (by decide) kw131 rfl rfl ?_
      refine gf_iload_n (i := 1) (q := 30) dX4_on_29 rfl rfl rfl ?_
      refine gf_aald3 (n := 3) (b := 16) (q := 31) dX4_on_30 rfl rfl ?_
      refine gf_iconst (q := 32) dX4_on_31 ki_0 rfl ?_
      refine gf_aload_n (i := 0) (q := 33) dX4_on_32 rfl rfl rfl ?_
      refine gf_getA (C := RX4) (T := TX4) (N := 15) (ci := 4) (k := 0) (j := 7) (t := 22) (q := 36) dX4_on_33 rfl rfl kin4 (by decide) kw134 rfl rfl ?_
      refine gf_getA (C := RX0) (T := TX0) (N := 12) (ci := 0) (k := 22) (j := 5) (t := 28) (q := 39) dX4_on_36 rfl rfl kin0 (by decide) kw58 rfl rfl ?_
      refine gf_iconst (q := 40) dX4_on_39 ki_0 rfl ?_
      refine gf_bipush (q := 42) dX4_on_40 kb_40 rfl ?_
      refine gf_copy (q := 45) dX4_on_42 kw207 kw209 kw208 kw8 (by decide) (by decide) rfl ?_
      refine gf_aload_n (i := 0) (q := 46) dX4_on_45 rfl rfl rfl ?_
      refine gf_getA (C := RX4) (T := TX4) (N := 15) (ci := 4) (k := 0) (j := 7) (t := 22) (q := 49) dX4_on_46 rfl rfl kin4 (by decide) kw134 rfl rfl ?_
      refine gf_aload_n (i := 0) (q := 50) dX4_on_49 rfl rfl rfl ?_
      refine gf_getA (C := RX4) (T := TX4) (N := 15) (ci := 4) (k := 0) (j := 5) (t := 19) (q := 53) dX4_on_50 rfl rfl kin4 (by decide) kw132 rfl rfl ?_
      refine gf_iload_n (i := 1) (q := 54) dX4_on_53 rfl rfl rfl ?_
      refine gf_iald (q := 55) dX4_on_54 rfl ?_
      refine gf_callV_v (n2 := 1) (As := [.int (mi (wc x1.2 (16 + Int32.toNatClampNeg v1) (Int32.toNatClampNeg 0) 28 (Int32.toNatClampNeg 0) (Int32.toNatClampNeg 40)) 19 (Int32.toNatClampNeg v1))]) (st := []) (b := 22) (ci := 0) (C := RX0) (q := 58) (hlen := rfl) rfl rfl kw378 kw260 kw261 dX4_on_55 kw262 kw3 (by decide +kernel) (by decide) (Nat.le_of_ble_eq_true rfl) (C_X0_replay (mi (wc x1.2 (16 + Int32.toNatClampNeg v1) (Int32.toNatClampNeg 0) 28 (Int32.toNatClampNeg 0) (Int32.toNatClampNeg 40)) 19 (Int32.toNatClampNeg v1)) (wc x1.2 (16 + Int32.toNatClampNeg v1) (Int32.toNatClampNeg 0) 28 (Int32.toNatClampNeg 0) (Int32.toNatClampNeg 40))) rfl rfl (fun x2 => ?_)
      refine gf_aload_n (i := 0) (q := 59) dX4_on_58 rfl rfl rfl ?_
      refine gf_getA (C := RX4) (T := TX4) (N := 15) (ci := 4) (k := 0) (j := 7) (t := 22) (q := 62) dX4_on_59 rfl rfl kin4 (by decide) kw134 rfl rfl ?_
      refine gf_getI (C := RX0) (T := TX0) (N := 12) (ci := 0) (k := 22) (j := 11) (q := 65) dX4_on_62 rfl rfl kin0 (by decide) kw70 rfl rfl ?_
      exact gf_reti dX4_on_65 rfl
theorem C_X4_on (v1 : Int32) (u : XM) : CF YY 6 yX4_on cX4_on 2 (some .int) [.ref 0, .int v1] u emI (F_X4_on v1 u) := cf_of (by decide +kernel) (Nat.le_of_ble_eq_true rfl) rfl (T_X4_on v1 u)
def F_X4_lies (v1 : Int32) (v2 : Int32) (u : XM) : Option (Int32 × XM) := (Option.bind (F_X0_has v1 u) (fun x1 => (if x1.1 = 0 then some ((-1), x1.2) else (if v2 < 0 then some ((-1), x1.2) else (if v2 ≤ 60 then (Option.bind (F_X0_isTaken v1 x1.2) (fun x2 => (if x2.1 = 0 then (if ain YY 0 25 v1 = true then (Option.bind (F_X0_cellAfter v1 (mi x2.2 25 (Int32.toNatClampNeg v1)) v2 x2.2) (fun x3 => some (x3.1, x3.2))) else none) else some ((-4), x2.2)))) else some ((-1), x1.2))))))
set_option maxRecDepth 20000 in
set_option maxHeartbeats 4000000 in
theorem T_X4_lies (v1 : Int32) (v2 : Int32) (u : XM) : GF E0 YY 5 yX4_lies cX4_lies 3 (some .int) 0 [some (.ref 0), some (.int v1), some (.int v2)] [] u emI (F_X4_lies v1 v2 u) := by
  unfold F_X4_lies
  refine gf_aload_n (i := 0) (q := 1) dX4_lies_0 rfl rfl rfl ?_
  refine gf_getA (C := RX4) (T := TX4) (N := 15) (ci := 4) (k := 0) (j := 7) (t := 22) (q := 4) dX4_lies_1 rfl rfl kin4 (by decide) kw134 rfl rfl ?_
  refine gf_iload_n (i := 1) (q := 5) dX4_lies_4 rfl rfl rfl ?_
  refine gf_callV_i (n2 := 1) (As := [.int v1]) (st := []) (b := 22) (ci := 0) (C := RX0) (q := 8) (hlen := rfl) rfl rfl kw303 kw269 kw270 dX4_lies_5 kw271 kw3 (by decide +kernel) (by decide) (Nat.le_of_ble_eq_true rfl) (C_X0_has v1 u) rfl rfl (fun x1 => ?_)
  refine gf_if_eq (t := 21) (q := 11) dX4_lies_8 (by decide) rfl ?_ ?_
  · refine gf_iconst (q := 22) dX4_lies_21 ki_m1 rfl ?_
    exact gf_reti dX4_lies_22 rfl
  · refine gf_iload_n (i := 2) (q := 12) dX4_lies_11 rfl rfl rfl ?_
    refine gf_if_lt (t := 21) (q := 15) dX4_lies_12 (by decide) rfl ?_ ?_
    · refine gf_iconst (q := 22) dX4_lies_21 ki_m1 rfl ?_
      exact gf_reti dX4_lies_22 rfl
    · refine gf_iload_n (i := 2) (q := 16) dX4_lies_15 rfl rfl rfl ?_
      refine gf_bipush (q := 18) dX4_lies_16 kb_60 rfl ?_
      refine gf_icmp_le (t := 23) (q := 21) dX4_lies_18 (by decide) rfl ?_ ?_
      · refine gf_aload_n (i := 0) (q := 24) dX4_lies_23 rfl rfl rfl ?_
        refine gf_getA (C := RX4) (T := TX4) (N := 15) (ci := 4) (k := 0) (j := 7) (t := 22) (q := 27) dX4_lies_24 rfl rfl kin4 (by decide) kw134 rfl rfl ?_
        refine gf_iload_n (i := 1) (q := 28) dX4_lies_27 rfl rfl rfl ?_
        refine gf_callV_i (n2 := 1) (As := [.int v1]) (st := []) (b := 22) (ci := 0) (C := RX0) (q := 31) (hlen := rfl) rfl rfl kw394 kw277 kw278 dX4_lies_28 kw279 kw3 (by decide +kernel) (by decide) (Nat.le_of_ble_eq_true rfl) (C_X0_isTaken v1 x1.2) rfl rfl (fun x2 => ?_)
        refine gf_if_eq (t := 37) (q := 34) dX4_lies_31 (by decide) rfl ?_ ?_
        · refine gf_aload_n (i := 0) (q := 38) dX4_lies_37 rfl rfl rfl ?_
          refine gf_getA (C := RX4) (T := TX4) (N := 15) (ci := 4) (k := 0) (j := 7) (t := 22) (q := 41) dX4_lies_38 rfl rfl kin4 (by decide) kw134 rfl rfl ?_
          refine gf_iload_n (i := 1) (q := 42) dX4_lies_41 rfl rfl rfl ?_
          refine gf_aload_n (i := 0) (q := 43) dX4_lies_42 rfl rfl rfl ?_
          refine gf_getA (C := RX4) (T := TX4) (N := 15) (ci := 4) (k := 0) (j := 7) (t := 22) (q := 46) dX4_lies_43 rfl rfl kin4 (by decide) kw134 rfl rfl ?_
          refine gf_getA (C := RX0) (T := TX0) (N := 12) (ci := 0) (k := 22) (j := 2) (t := 25) (q := 49) dX4_lies_46 rfl rfl kin0 (by decide) kw51 rfl rfl ?_
          refine gf_iload_n (i := 1) (q := 50) dX4_lies_49 rfl rfl rfl ?_
          refine gf_iald (q := 51) dX4_lies_50 rfl ?_
          refine gf_iload_n (i := 2) (q := 52) dX4_lies_51 rfl rfl rfl ?_
          refine gf_callV_i (n2 := 3) (As := [.int v1, .int (mi x2.2 25 (Int32.toNatClampNeg v1)), .int v2]) (st := []) (b := 22) (ci := 0) (C := RX0) (q := 55) (hlen := rfl) rfl rfl kw395 kw396 kw397 dX4_lies_52 kw398 kw3 (by decide +kernel) (by decide) (Nat.le_of_ble_eq_true rfl) (C_X0_cellAfter v1 (mi x2.2 25 (Int32.toNatClampNeg v1)) v2 x2.2) rfl rfl (fun x3 => ?_)
          exact gf_reti dX4_lies_55 rfl
        · refine gf_bipush (q := 36) dX4_lies_34 kb_m4 rfl ?_
          exact gf_reti dX4_lies_36 rfl
      · refine gf_iconst (q := 22) dX4_lies_21 ki_m1 rfl ?_
        exact gf_reti dX4_lies_22 rfl
theorem C_X4_lies (v1 : Int32) (v2 : Int32) (u : XM) : CF YY 5 yX4_lies cX4_lies 3 (some .int) [.ref 0, .int v1, .int v2] u emI (F_X4_lies v1 v2 u) := cf_of (by decide +kernel) (Nat.le_of_ble_eq_true rfl) rfl (T_X4_lies v1 v2 u)
def F_X4_three_15 : Nat → Int32 → XM → Option (Int32 × XM)
  | 0, _, _ => none
  | n + 1, v1, u => (if 60 < v1 then some ((-9), u) else (Option.bind (F_X0_crowdedCell v1 u) (fun x1 => (if x1.1 = (-9) then F_X4_three_15 n (v1 + 1) x1.2 else (Option.bind (F_X4_tell x1.1 x1.2) (fun x2 => some (v1, x2.2)))))))
set_option maxRecDepth 20000 in
set_option maxHeartbeats 4000000 in
theorem T_X4_three_15 : ∀ (n : Nat) (v1 : Int32) (u : XM), GF E0 YY 6 yX4_three cX4_three 3 (some .int) 15 [some (.ref 0), some (.int v1), none] [] u emI (F_X4_three_15 n v1 u) := by
  intro n
  induction n with
  | zero => intro v1 u; exact gf_none
  | succ n ih =>
    intro v1 u
    unfold F_X4_three_15
    refine gf_iload_n (i := 1) (q := 16) dX4_three_15 rfl rfl rfl ?_
    refine gf_bipush (q := 18) dX4_three_16 kb_60 rfl ?_
    refine gf_icmp_gt (t := 50) (q := 21) dX4_three_18 (by decide) rfl ?_ ?_
    · refine gf_bipush (q := 52) dX4_three_50 kb_m9 rfl ?_
      exact gf_reti dX4_three_52 rfl
    · refine gf_aload_n (i := 0) (q := 22) dX4_three_21 rfl rfl rfl ?_
      refine gf_getA (C := RX4) (T := TX4) (N := 15) (ci := 4) (k := 0) (j := 7) (t := 22) (q := 25) dX4_three_22 rfl rfl kin4 (by decide) kw134 rfl rfl ?_
      refine gf_iload_n (i := 1) (q := 26) dX4_three_25 rfl rfl rfl ?_
      refine gf_callV_i (n2 := 1) (As := [.int v1]) (st := []) (b := 22) (ci := 0) (C := RX0) (q := 29) (hlen := rfl) rfl rfl kw407 kw408 kw409 dX4_three_26 kw410 kw3 (by decide +kernel) (by decide) (Nat.le_of_ble_eq_true rfl) (C_X0_crowdedCell v1 u) rfl rfl (fun x1 => ?_)
      refine gf_istore_n (i := 2) (lv2 := [some (.ref 0), some (.int v1), some (.int x1.1)]) (q := 30) dX4_three_29 rfl (by decide) rfl rfl ?_
      refine gf_iload_n (i := 2) (q := 31) dX4_three_30 rfl rfl rfl ?_
      refine gf_bipush (q := 33) dX4_three_31 kb_m9 rfl ?_
      refine gf_icmp_eq (t := 44) (q := 36) dX4_three_33 (by decide) rfl ?_ ?_
      · refine gf_iinc (v := (v1 + 1)) (lv2 := [some (.ref 0), some (.int (v1 + 1)), some (.int x1.1)]) (q := 47) dX4_three_44 rfl (congrArg _ ki_1) (by decide) rfl rfl ?_
        refine gf_goto (q := 15) dX4_three_47 (by decide) ?_
        exact gf_mask (b := [true, true, false]) rfl (ih (v1 + 1) x1.2)
      · refine gf_aload_n (i := 0) (q := 37) dX4_three_36 rfl rfl rfl ?_
        refine gf_iload_n (i := 2) (q := 38) dX4_three_37 rfl rfl rfl ?_
        refine gf_callV_i (n2 := 1) (As := [.int x1.1]) (st := []) (b := 0) (ci := 4) (C := RX4) (q := 41) (hlen := rfl) rfl rfl kw188 kw190 kp1 dX4_three_38 kw191 kw1 (by decide +kernel) (by decide) (Nat.le_of_ble_eq_true rfl) (C_X4_tell x1.1 x1.2) rfl rfl (fun x2 => ?_)
        refine gf_pop (q := 42) dX4_three_41 rfl rfl ?_
        refine gf_iload_n (i := 1) (q := 43) dX4_three_42 rfl rfl rfl ?_
        exact gf_reti dX4_three_43 rfl
def F_X4_three  (u : XM) : Option (Int32 × XM) := (if (mi u 22 6) = 0 then some ((-4), u) else F_X4_three_15 FU 0 u)
set_option maxRecDepth 20000 in
set_option maxHeartbeats 4000000 in
theorem T_X4_three  (u : XM) : GF E0 YY 6 yX4_three cX4_three 3 (some .int) 0 [some (.ref 0), none, none] [] u emI (F_X4_three u) := by
  unfold F_X4_three
  refine gf_aload_n (i := 0) (q := 1) dX4_three_0 rfl rfl rfl ?_
  refine gf_getA (C := RX4) (T := TX4) (N := 15) (ci := 4) (k := 0) (j := 7) (t := 22) (q := 4) dX4_three_1 rfl rfl kin4 (by decide) kw134 rfl rfl ?_
  refine gf_getI (C := RX0) (T := TX0) (N := 12) (ci := 0) (k := 22) (j := 6) (q := 7) dX4_three_4 rfl rfl kin0 (by decide) kw61 rfl rfl ?_
  refine gf_if_ne (t := 13) (q := 10) dX4_three_7 (by decide) rfl ?_ ?_
  · refine gf_bipush (q := 12) dX4_three_10 kb_m4 rfl ?_
    exact gf_reti dX4_three_12 rfl
  · refine gf_iconst (q := 14) dX4_three_13 ki_0 rfl ?_
    refine gf_istore_n (i := 1) (lv2 := [some (.ref 0), some (.int 0), none]) (q := 15) dX4_three_14 rfl (by decide) rfl rfl ?_
    exact (T_X4_three_15 FU 0 u)
theorem C_X4_three  (u : XM) : CF YY 6 yX4_three cX4_three 3 (some .int) [.ref 0] u emI (F_X4_three u) := cf_of (by decide +kernel) (Nat.le_of_ble_eq_true rfl) rfl (T_X4_three u)
def F_X4_moves (v1 : Int32) (v2 : Int32) (v3 : Int32) (u : XM) : Option (Int32 × XM) := (Option.bind (F_X0_has v1 u) (fun x1 => (if x1.1 = 0 then some ((-1), x1.2) else (Option.bind (F_X4_isCell v2 x1.2) (fun x2 => (if x2.1 = 0 then some ((-1), x2.2) else (if v3 < 0 then some ((-1), x2.2) else (if v3 ≤ 20 then (Option.bind (F_X0_isTaken v1 x2.2) (fun x3 => (if x3.1 = 0 then (Option.bind (F_X0_fewestMoves v1 v2 v3 x3.2) (fun x4 => some (x4.1, x4.2))) else some ((-4), x3.2)))) else some ((-1), x2.2)))))))))
set_option maxRecDepth 20000 in
set_option maxHeartbeats 4000000 in
theorem T_X4_moves (v1 : Int32) (v2 : Int32) (v3 : Int32) (u : XM) : GF E0 YY 6 yX4_moves cX4_moves 4 (some .int) 0 [some (.ref 0), some (.int v1), some (.int v2), some (.int v3)] [] u emI (F_X4_moves v1 v2 v3 u) := by
  unfold F_X4_moves
  refine gf_aload_n (i := 0) (q := 1) dX4_moves_0 rfl rfl rfl ?_
  refine gf_getA (C := RX4) (T := TX4) (N := 15) (ci := 4) (k := 0) (j := 7) (t := 22) (q := 4) dX4_moves_1 rfl rfl kin4 (by decide) kw134 rfl rfl ?_
  refine gf_iload_n (i := 1) (q := 5) dX4_moves_4 rfl rfl rfl ?_
  refine gf_callV_i (n2 := 1) (As := [.int v1]) (st := []) (b := 22) (ci := 0) (C := RX0) (q := 8) (hlen := rfl) rfl rfl kw303 kw269 kw270 dX4_moves_5 kw271 kw3 (by decide +kernel) (by decide) (Nat.le_of_ble_eq_true rfl) (C_X0_has v1 u) rfl rfl (fun x1 => ?_)
  refine gf_if_eq (t := 28) (q := 11) dX4_moves_8 (by decide) rfl ?_ ?_
  · refine gf_iconst (q := 29) dX4_moves_28 ki_m1 rfl ?_
    exact gf_reti dX4_moves_29 rfl
  · refine gf_iload_n (i := 2) (q := 12) dX4_moves_11 rfl rfl rfl ?_
    refine gf_callS_i (n2 := 1) (As := [.int v2]) (st := []) (q := 15) (hlen := rfl) kw338 kw339 dX4_moves_12 kw340 kw1 (by decide +kernel) (by decide) (Nat.le_of_ble_eq_true rfl) (C_X4_isCell v2 x1.2) rfl rfl (fun x2 => ?_)
    refine gf_if_eq (t := 28) (q := 18) dX4_moves_15 (by decide) rfl ?_ ?_
    · refine gf_iconst (q := 29) dX4_moves_28 ki_m1 rfl ?_
      exact gf_reti dX4_moves_29 rfl
    · refine gf_iload_n (i := 3) (q := 19) dX4_moves_18 rfl rfl rfl ?_
      refine gf_if_lt (t := 28) (q := 22) dX4_moves_19 (by decide) rfl ?_ ?_
      · refine gf_iconst (q := 29) dX4_moves_28 ki_m1 rfl ?_
        exact gf_reti dX4_moves_29 rfl
      · refine gf_iload_n (i := 3) (q := 23) dX4_moves_22 rfl rfl rfl ?_
        refine gf_bipush (q := 25) dX4_moves_23 kb_20 rfl ?_
        refine gf_icmp_le (t := 30) (q := 28) dX4_moves_25 (by decide) rfl ?_ ?_
        · refine gf_aload_n (i := 0) (q := 31) dX4_moves_30 rfl rfl rfl ?_
          refine gf_getA (C := RX4) (T := TX4) (N := 15) (ci := 4) (k := 0) (j := 7) (t := 22) (q := 34) dX4_moves_31 rfl rfl kin4 (by decide) kw134 rfl rfl ?_
          refine gf_iload_n (i := 1) (q := 35) dX4_moves_34 rfl rfl rfl ?_
          refine gf_callV_i (n2 := 1) (As := [.int v1]) (st := []) (b := 22) (ci := 0) (C := RX0) (q := 38) (hlen := rfl) rfl rfl kw394 kw277 kw278 dX4_moves_35 kw279 kw3 (by decide +kernel) (by decide) (Nat.le_of_ble_eq_true rfl) (C_X0_isTaken v1 x2.2) rfl rfl (fun x3 => ?_)
          refine gf_if_eq (t := 44) (q := 41) dX4_moves_38 (by decide) rfl ?_ ?_
          · refine gf_aload_n (i := 0) (q := 45) dX4_moves_44 rfl rfl rfl ?_
            refine gf_getA (C := RX4) (T := TX4) (N := 15) (ci := 4) (k := 0) (j := 7) (t := 22) (q := 48) dX4_moves_45 rfl rfl kin4 (by decide) kw134 rfl rfl ?_
            refine gf_iload_n (i := 1) (q := 49) dX4_moves_48 rfl rfl rfl ?_
            refine gf_iload_n (i := 2) (q := 50) dX4_moves_49 rfl rfl rfl ?_
            refine gf_iload_n (i := 3) (q := 51) dX4_moves_50 rfl rfl rfl ?_
            refine gf_callV_i (n2 := 3) (As := [.int v1, .int v2, .int v3]) (st := []) (b := 22) (ci := 0) (C := RX0) (q := 54) (hlen := rfl) rfl rfl kw420 kw421 kw422 dX4_moves_51 kw423 kw3 (by decide +kernel) (by decide) (Nat.le_of_ble_eq_true rfl) (C_X0_fewestMoves v1 v2 v3 x3.2) rfl rfl (fun x4 => ?_)
            exact gf_reti dX4_moves_54 rfl
          · refine gf_bipush (q := 43) dX4_moves_41 kb_m4 rfl ?_
            exact gf_reti dX4_moves_43 rfl
        · refine gf_iconst (q := 29) dX4_moves_28 ki_m1 rfl ?_
          exact gf_reti dX4_moves_29 rfl
theorem C_X4_moves (v1 : Int32) (v2 : Int32) (v3 : Int32) (u : XM) : CF YY 6 yX4_moves cX4_moves 4 (some .int) [.ref 0, .int v1, .int v2, .int v3] u emI (F_X4_moves v1 v2 v3 u) := cf_of (by decide +kernel) (Nat.le_of_ble_eq_true rfl) rfl (T_X4_moves v1 v2 v3 u)
def F_X4_owned_89 (k29 : Int32 → Int32 → Int32 → XM → Option (Int32 × XM)) (v1 : Int32) (v2 : Int32) (v3 : Int32) (u : XM) : Option (Int32 × XM) := k29 v1 v2 (v3 + 1) u
set_option maxRecDepth 20000 in
set_option maxHeartbeats 4000000 in
theorem T_X4_owned_89 (k29 : Int32 → Int32 → Int32 → XM → Option (Int32 × XM)) (hk29 : ∀ (v1 : Int32) (v2 : Int32) (v3 : Int32) (u : XM), GF E0 YY 6 yX4_owned cX4_owned 5 (some .int) 29 [some (.ref 0), some (.int v1), some (.int v2), some (.int v3), none] [] u emI (k29 v1 v2 v3 u)) (v1 : Int32) (v2 : Int32) (v3 : Int32) (u : XM) : GF E0 YY 6 yX4_owned cX4_owned 5 (some .int) 89 [some (.ref 0), some (.int v1), some (.int v2), some (.int v3), none] [] u emI (F_X4_owned_89 k29 v1 v2 v3 u) := by
  unfold F_X4_owned_89
  refine gf_iinc (v := (v3 + 1)) (lv2 := [some (.ref 0), some (.int v1), some (.int v2), some (.int (v3 + 1)), none]) (q := 92) dX4_owned_89 rfl (congrArg _ ki_1) (by decide) rfl rfl ?_
  refine gf_goto (q := 29) dX4_owned_92 (by decide) ?_
  exact (hk29 v1 v2 (v3 + 1) u)
def F_X4_owned_29 : Nat → Int32 → Int32 → Int32 → XM → Option (Int32 × XM)
  | 0, _, _, _, _ => none
  | n + 1, v1, v2, v3, u => (if (mi u 22 6) ≤ v3 then some (v2, u) else (Option.bind (F_X0_isTaken v3 u) (fun x1 => (if x1.1 = 0 then (if ain YY 0 27 v3 = true then (Option.bind (F_X0_fewestMoves v3 (mi x1.2 27 (Int32.toNatClampNeg v3)) v1 x1.2) (fun x2 => (if x2.1 = (-9) then some ((-9), x2.2) else F_X4_owned_89 (F_X4_owned_29 n) v1 (v2 + x2.1) v3 x2.2))) else none) else F_X4_owned_89 (F_X4_owned_29 n) v1 v2 v3 x1.2))))
set_option maxRecDepth 20000 in
set_option maxHeartbeats 4000000 in
theorem T_X4_owned_29 : ∀ (n : Nat) (v1 : Int32) (v2 : Int32) (v3 : Int32) (u : XM), GF E0 YY 6 yX4_owned cX4_owned 5 (some .int) 29 [some (.ref 0), some (.int v1), some (.int v2), some (.int v3), none] [] u emI (F_X4_owned_29 n v1 v2 v3 u) := by
  intro n
  induction n with
  | zero => intro v1 v2 v3 u; exact gf_none
  | succ n ih =>
    intro v1 v2 v3 u
    unfold F_X4_owned_29
    refine gf_iload_n (i := 3) (q := 30) dX4_owned_29 rfl rfl rfl ?_
    refine gf_aload_n (i := 0) (q := 31) dX4_owned_30 rfl rfl rfl ?_
    refine gf_getA (C := RX4) (T := TX4) (N := 15) (ci := 4) (k := 0) (j := 7) (t := 22) (q := 34) dX4_owned_31 rfl rfl kin4 (by decide) kw134 rfl rfl ?_
    refine gf_getI (C := RX0) (T := TX0) (N := 12) (ci := 0) (k := 22) (j := 6) (q := 37) dX4_owned_34 rfl rfl kin0 (by decide) kw61 rfl rfl ?_
    refine gf_icmp_ge (t := 95) (q := 40) dX4_owned_37 (by decide) rfl ?_ ?_
    · refine gf_iload_n (i := 2) (q := 96) dX4_owned_95 rfl rfl rfl ?_
      exact gf_reti dX4_owned_96 rfl
    · refine gf_aload_n (i := 0) (q := 41) dX4_owned_40 rfl rfl rfl ?_
      refine gf_getA (C := RX4) (T := TX4) (N := 15) (ci := 4) (k := 0) (j := 7) (t := 22) (q := 44) dX4_owned_41 rfl rfl kin4 (by decide) kw134 rfl rfl ?_
      refine gf_iload_n (i := 3) (q := 45) dX4_owned_44 rfl rfl rfl ?_
      refine gf_callV_i (n2 := 1) (As := [.int v3]) (st := []) (b := 22) (ci := 0) (C := RX0) (q := 48) (hlen := rfl) rfl rfl kw394 kw277 kw278 dX4_owned_45 kw279 kw3 (by decide +kernel) (by decide) (Nat.le_of_ble_eq_true rfl) (C_X0_isTaken v3 u) rfl rfl (fun x1 => ?_)
      refine gf_if_eq (t := 54) (q := 51) dX4_owned_48 (by decide) rfl ?_ ?_
      · refine gf_aload_n (i := 0) (q := 55) dX4_owned_54 rfl rfl rfl ?_
        refine gf_getA (C := RX4) (T := TX4) (N := 15) (ci := 4) (k := 0) (j := 7) (t := 22) (q := 58) dX4_owned_55 rfl rfl kin4 (by decide) kw134 rfl rfl ?_
        refine gf_iload_n (i := 3) (q := 59) dX4_owned_58 rfl rfl rfl ?_
        refine gf_aload_n (i := 0) (q := 60) dX4_owned_59 rfl rfl rfl ?_
        refine gf_getA (C := RX4) (T := TX4) (N := 15) (ci := 4) (k := 0) (j := 7) (t := 22) (q := 63) dX4_owned_60 rfl rfl kin4 (by decide) kw134 rfl rfl ?_
        refine gf_getA (C := RX0) (T := TX0) (N := 12) (ci := 0) (k := 22) (j := 4) (t := 27) (q := 66) dX4_owned_63 rfl rfl kin0 (by decide) kw56 rfl rfl ?_
        refine gf_iload_n (i := 3) (q := 67) dX4_owned_66 rfl rfl rfl ?_
        refine gf_iald (q := 68) dX4_owned_67 rfl ?_
        refine gf_iload_n (i := 1) (q := 69) dX4_owned_68 rfl rfl rfl ?_
        refine gf_callV_i (n2 := 3) (As := [.int v3, .int (mi x1.2 27 (Int32.toNatClampNeg v3)), .int v1]) (st := []) (b := 22) (ci := 0) (C := RX0) (q := 72) (hlen := rfl) rfl rfl kw420 kw421 kw422 dX4_owned_69 kw423 kw3 (by decide +kernel) (by decide) (Nat.le_of_ble_eq_true rfl) (C_X0_fewestMoves v3 (mi x1.2 27 (Int32.toNatClampNeg v3)) v1 x1.2) rfl rfl (fun x2 => ?_)
        refine gf_istore (lv2 := [some (.ref 0), some (.int v1), some (.int v2), some (.int v3), some (.int x2.1)]) (q := 74) dX4_owned_72 (by decide) rfl rfl ?_
        refine gf_iload (q := 76) dX4_owned_74 rfl rfl ?_
        refine gf_bipush (q := 78) dX4_owned_76 kb_m9 rfl ?_
        refine gf_icmp_ne (t := 84) (q := 81) dX4_owned_78 (by decide) rfl ?_ ?_
        · refine gf_bipush (q := 83) dX4_owned_81 kb_m9 rfl ?_
          exact gf_reti dX4_owned_83 rfl
        · refine gf_iload_n (i := 2) (q := 85) dX4_owned_84 rfl rfl rfl ?_
          refine gf_iload (q := 87) dX4_owned_85 rfl rfl ?_
          refine gf_iadd (q := 88) dX4_owned_87 rfl ?_
          refine gf_istore_n (i := 2) (lv2 := [some (.ref 0), some (.int v1), some (.int (v2 + x2.1)), some (.int v3), some (.int x2.1)]) (q := 89) dX4_owned_88 rfl (by decide) rfl rfl ?_
          exact gf_mask (b := [true, true, true, true, false]) rfl (T_X4_owned_89 (F_X4_owned_29 n) ih v1 (v2 + x2.1) v3 x2.2)
      · refine gf_goto (q := 89) dX4_owned_51 (by decide) ?_
        exact (T_X4_owned_89 (F_X4_owned_29 n) ih v1 v2 v3 x1.2)
def F_X4_owned (v1 : Int32) (u : XM) : Option (Int32 × XM) := (if v1 < 0 then some ((-1), u) else (if v1 ≤ 20 then (if (mi u 22 6) = 0 then some ((-4), u) else F_X4_owned_29 FU v1 0 0 u) else some ((-1), u)))
set_option maxRecDepth 20000 in
set_option maxHeartbeats 4000000 in
theorem T_X4_owned (v1 : Int32) (u : XM) : GF E0 YY 6 yX4_owned cX4_owned 5 (some .int) 0 [some (.ref 0), some (.int v1), none, none, none] [] u emI (F_X4_owned v1 u) := by
  unfold F_X4_owned
  refine gf_iload_n (i := 1) (q := 1) dX4_owned_0 rfl rfl rfl ?_
  refine gf_if_lt (t := 10) (q := 4) dX4_owned_1 (by decide) rfl ?_ ?_
  · refine gf_iconst (q := 11) dX4_owned_10 ki_m1 rfl ?_
    exact gf_reti dX4_owned_11 rfl
  · refine gf_iload_n (i := 1) (q := 5) dX4_owned_4 rfl rfl rfl ?_
    refine gf_bipush (q := 7) dX4_owned_5 kb_20 rfl ?_
    refine gf_icmp_le (t := 12) (q := 10) dX4_owned_7 (by decide) rfl ?_ ?_
    · refine gf_aload_n (i := 0) (q := 13) dX4_owned_12 rfl rfl rfl ?_
      refine gf_getA (C := RX4) (T := TX4) (N := 15) (ci := 4) (k := 0) (j := 7) (t := 22) (q := 16) dX4_owned_13 rfl rfl kin4 (by decide) kw134 rfl rfl ?_
      refine gf_getI (C := RX0) (T := TX0) (N := 12) (ci := 0) (k := 22) (j := 6) (q := 19) dX4_owned_16 rfl rfl kin0 (by decide) kw61 rfl rfl ?_
      refine gf_if_ne (t := 25) (q := 22) dX4_owned_19 (by decide) rfl ?_ ?_
      · refine gf_bipush (q := 24) dX4_owned_22 kb_m4 rfl ?_
        exact gf_reti dX4_owned_24 rfl
      · refine gf_iconst (q := 26) dX4_owned_25 ki_0 rfl ?_
        refine gf_istore_n (i := 2) (lv2 := [some (.ref 0), some (.int v1), some (.int 0), none, none]) (q := 27) dX4_owned_26 rfl (by decide) rfl rfl ?_
        refine gf_iconst (q := 28) dX4_owned_27 ki_0 rfl ?_
        refine gf_istore_n (i := 3) (lv2 := [some (.ref 0), some (.int v1), some (.int 0), some (.int 0), none]) (q := 29) dX4_owned_28 rfl (by decide) rfl rfl ?_
        exact (T_X4_owned_29 FU v1 0 0 u)
    · refine gf_iconst (q := 11) dX4_owned_10 ki_m1 rfl ?_
      exact gf_reti dX4_owned_11 rfl
theorem C_X4_owned (v1 : Int32) (u : XM) : CF YY 6 yX4_owned cX4_owned 5 (some .int) [.ref 0, .int v1] u emI (F_X4_owned v1 u) := cf_of (by decide +kernel) (Nat.le_of_ble_eq_true rfl) rfl (T_X4_owned v1 u)
def F_X4_thrown_67 (k36 : Int32 → Int32 → Int32 → Int32 → Int32 → XM → Option (Int32 × XM)) (v1 : Int32) (v2 : Int32) (v3 : Int32) (v4 : Int32) (v5 : Int32) (u : XM) : Option (Int32 × XM) := k36 v1 v2 v3 v4 (v5 + 1) u
set_option maxRecDepth 20000 in
set_option maxHeartbeats 4000000 in
theorem T_X4_thrown_67 (k36 : Int32 → Int32 → Int32 → Int32 → Int32 → XM → Option (Int32 × XM)) (hk36 : ∀ (v1 : Int32) (v2 : Int32) (v3 : Int32) (v4 : Int32) (v5 : Int32) (u : XM), GF E0 YY 5 yX4_thrown cX4_thrown 6 (some .int) 36 [some (.ref 0), some (.int v1), some (.int v2), some (.int v3), some (.int v4), some (.int v5)] [] u emI (k36 v1 v2 v3 v4 v5 u)) (v1 : Int32) (v2 : Int32) (v3 : Int32) (v4 : Int32) (v5 : Int32) (u : XM) : GF E0 YY 5 yX4_thrown cX4_thrown 6 (some .int) 67 [some (.ref 0), some (.int v1), some (.int v2), some (.int v3), some (.int v4), some (.int v5)] [] u emI (F_X4_thrown_67 k36 v1 v2 v3 v4 v5 u) := by
  unfold F_X4_thrown_67
  refine gf_iinc (v := (v5 + 1)) (lv2 := [some (.ref 0), some (.int v1), some (.int v2), some (.int v3), some (.int v4), some (.int (v5 + 1))]) (q := 70) dX4_thrown_67 rfl (congrArg _ ki_1) (by decide) rfl rfl ?_
  refine gf_goto (q := 36) dX4_thrown_70 (by decide) ?_
  exact (hk36 v1 v2 v3 v4 (v5 + 1) u)
def F_X4_thrown_36 : Nat → Int32 → Int32 → Int32 → Int32 → Int32 → XM → Option (Int32 × XM)
  | 0, _, _, _, _, _, _ => none
  | n + 1, v1, v2, v3, v4, v5, u => (if 8 ≤ v5 then some (v4, u) else (Option.bind (F_X0_cellAfter v1 v5 v3 u) (fun x1 => (if x1.1 = v2 then F_X4_thrown_67 (F_X4_thrown_36 n) v1 v2 v3 (v4 ||| (1 <<< (v5 &&& 31))) v5 x1.2 else F_X4_thrown_67 (F_X4_thrown_36 n) v1 v2 v3 v4 v5 x1.2))))
set_option maxRecDepth 20000 in
set_option maxHeartbeats 4000000 in
theorem T_X4_thrown_36 : ∀ (n : Nat) (v1 : Int32) (v2 : Int32) (v3 : Int32) (v4 : Int32) (v5 : Int32) (u : XM), GF E0 YY 5 yX4_thrown cX4_thrown 6 (some .int) 36 [some (.ref 0), some (.int v1), some (.int v2), some (.int v3), some (.int v4), some (.int v5)] [] u emI (F_X4_thrown_36 n v1 v2 v3 v4 v5 u) := by
  intro n
  induction n with
  | zero => intro v1 v2 v3 v4 v5 u; exact gf_none
  | succ n ih =>
    intro v1 v2 v3 v4 v5 u
    unfold F_X4_thrown_36
    refine gf_iload (q := 38) dX4_thrown_36 rfl rfl ?_
    refine gf_bipush (q := 40) dX4_thrown_38 kb_8 rfl ?_
    refine gf_icmp_ge (t := 73) (q := 43) dX4_thrown_40 (by decide) rfl ?_ ?_
    · refine gf_iload (q := 75) dX4_thrown_73 rfl rfl ?_
      exact gf_reti dX4_thrown_75 rfl
    · refine gf_aload_n (i := 0) (q := 44) dX4_thrown_43 rfl rfl rfl ?_
      refine gf_getA (C := RX4) (T := TX4) (N := 15) (ci := 4) (k := 0) (j := 7) (t := 22) (q := 47) dX4_thrown_44 rfl rfl kin4 (by decide) kw134 rfl rfl ?_
      refine gf_iload_n (i := 1) (q := 48) dX4_thrown_47 rfl rfl rfl ?_
      refine gf_iload (q := 50) dX4_thrown_48 rfl rfl ?_
      refine gf_iload_n (i := 3) (q := 51) dX4_thrown_50 rfl rfl rfl ?_
      refine gf_callV_i (n2 := 3) (As := [.int v1, .int v5, .int v3]) (st := []) (b := 22) (ci := 0) (C := RX0) (q := 54) (hlen := rfl) rfl rfl kw395 kw396 kw397 dX4_thrown_51 kw398 kw3 (by decide +kernel) (by decide) (Nat.le_of_ble_eq_true rfl) (C_X0_cellAfter v1 v5 v3 u) rfl rfl (fun x1 => ?_)
      refine gf_iload_n (i := 2) (q := 55) dX4_thrown_54 rfl rfl rfl ?_
      refine gf_icmp_ne (t := 67) (q := 58) dX4_thrown_55 (by decide) rfl ?_ ?_
      · refine gf_iload (q := 60) dX4_thrown_58 rfl rfl ?_
        refine gf_iconst (q := 61) dX4_thrown_60 ki_1 rfl ?_
        refine gf_iload (q := 63) dX4_thrown_61 rfl rfl ?_
        refine gf_ishl (q := 64) dX4_thrown_63 rfl ?_
        refine gf_ior (q := 65) dX4_thrown_64 rfl ?_
        refine gf_istore (lv2 := [some (.ref 0), some (.int v1), some (.int v2), some (.int v3), some (.int (v4 ||| (1 <<< (v5 &&& 31)))), some (.int v5)]) (q := 67) dX4_thrown_65 (by decide) rfl rfl ?_
        exact (T_X4_thrown_67 (F_X4_thrown_36 n) ih v1 v2 v3 (v4 ||| (1 <<< (v5 &&& 31))) v5 x1.2)
      · exact (T_X4_thrown_67 (F_X4_thrown_36 n) ih v1 v2 v3 v4 v5 x1.2)
def F_X4_thrown (v1 : Int32) (v2 : Int32) (v3 : Int32) (u : XM) : Option (Int32 × XM) := (Option.bind (F_X0_has v1 u) (fun x2 => (if x2.1 = 0 then some ((-1), x2.2) else (Option.bind (F_X4_isCell v2 x2.2) (fun x3 => (if x3.1 = 0 then some ((-1), x3.2) else (if v3 < 0 then some ((-1), x3.2) else (if v3 ≤ 20 then F_X4_thrown_36 FU v1 v2 v3 0 0 x3.2 else some ((-1), x3.2)))))))))
set_option maxRecDepth 20000 in
set_option maxHeartbeats 4000000 in
theorem T_X4_thrown (v1 : Int32) (v2 : Int32) (v3 : Int32) (u : XM) : GF E0 YY 5 yX4_thrown cX4_thrown 6 (some .int) 0 [some (.ref 0), some (.int v1), some (.int v2), some (.int v3), none, none] [] u emI (F_X4_thrown v1 v2 v3 u) := by
  unfold F_X4_thrown
  refine gf_aload_n (i := 0) (q := 1) dX4_thrown_0 rfl rfl rfl ?_
  refine gf_getA (C := RX4) (T := TX4) (N := 15) (ci := 4) (k := 0) (j := 7) (t := 22) (q := 4) dX4_thrown_1 rfl rfl kin4 (by decide) kw134 rfl rfl ?_
  refine gf_iload_n (i := 1) (q := 5) dX4_thrown_4 rfl rfl rfl ?_
  refine gf_callV_i (n2 := 1) (As := [.int v1]) (st := []) (b := 22) (ci := 0) (C := RX0) (q := 8) (hlen := rfl) rfl rfl kw303 kw269 kw270 dX4_thrown_5 kw271 kw3 (by decide +kernel) (by decide) (Nat.le_of_ble_eq_true rfl) (C_X0_has v1 u) rfl rfl (fun x2 => ?_)
  refine gf_if_eq (t := 28) (q := 11) dX4_thrown_8 (by decide) rfl ?_ ?_
  · refine gf_iconst (q := 29) dX4_thrown_28 ki_m1 rfl ?_
    exact gf_reti dX4_thrown_29 rfl
  · refine gf_iload_n (i := 2) (q := 12) dX4_thrown_11 rfl rfl rfl ?_
    refine gf_callS_i (n2 := 1) (As := [.int v2]) (st := []) (q := 15) (hlen := rfl) kw338 kw339 dX4_thrown_12 kw340 kw1 (by decide +kernel) (by decide) (Nat.le_of_ble_eq_true rfl) (C_X4_isCell v2 x2.2) rfl rfl (fun x3 => ?_)
    refine gf_if_eq (t := 28) (q := 18) dX4_thrown_15 (by decide) rfl ?_ ?_
    · refine gf_iconst (q := 29) dX4_thrown_28 ki_m1 rfl ?_
      exact gf_reti dX4_thrown_29 rfl
    · refine gf_iload_n (i := 3) (q := 19) dX4_thrown_18 rfl rfl rfl ?_
      refine gf_if_lt (t := 28) (q := 22) dX4_thrown_19 (by decide) rfl ?_ ?_
      · refine gf_iconst (q := 29) dX4_thrown_28 ki_m1 rfl ?_
        exact gf_reti dX4_thrown_29 rfl
      · refine gf_iload_n (i := 3) (q := 23) dX4_thrown_22 rfl rfl rfl ?_
        refine gf_bipush (q := 25) dX4_thrown_23 kb_20 rfl ?_
        refine gf_icmp_le (t := 30) (q := 28) dX4_thrown_25 (by decide) rfl ?_ ?_
        · refine gf_iconst (q := 31) dX4_thrown_30 ki_0 rfl ?_
          refine gf_istore (lv2 := [some (.ref 0), some (.int v1), some (.int v2), some (.int v3), some (.int 0), none]) (q := 33) dX4_thrown_31 (by decide) rfl rfl ?_
          refine gf_iconst (q := 34) dX4_thrown_33 ki_0 rfl ?_
          refine gf_istore (lv2 := [some (.ref 0), some (.int v1), some (.int v2), some (.int v3), some (.int 0), some (.int 0)]) (q := 36) dX4_thrown_34 (by decide) rfl rfl ?_
          exact (T_X4_thrown_36 FU v1 v2 v3 0 0 x3.2)
        · refine gf_iconst (q := 29) dX4_thrown_28 ki_m1 rfl ?_
          exact gf_reti dX4_thrown_29 rfl
theorem C_X4_thrown (v1 : Int32) (v2 : Int32) (v3 : Int32) (u : XM) : CF YY 5 yX4_thrown cX4_thrown 6 (some .int) [.ref 0, .int v1, .int v2, .int v3] u emI (F_X4_thrown v1 v2 v3 u) := cf_of (by decide +kernel) (Nat.le_of_ble_eq_true rfl) rfl (T_X4_thrown v1 v2 v3 u)
def F_X4_stand_110 (k53 : Int32 → Int32 → Int32 → XM → Option (Int32 × XM)) (v1 : Int32) (v2 : Int32) (v3 : Int32) (u : XM) : Option (Int32 × XM) := k53 v1 v2 (v3 + 1) u
set_option maxRecDepth 20000 in
set_option maxHeartbeats 4000000 in
theorem T_X4_stand_110 (k53 : Int32 → Int32 → Int32 → XM → Option (Int32 × XM)) (hk53 : ∀ (v1 : Int32) (v2 : Int32) (v3 : Int32) (u : XM), GF E0 YY 14 yX4_stand cX4_stand 4 (some .int) 53 [some (.ref 0), some (.int v1), some (.int v2), some (.int v3)] [] u emI (k53 v1 v2 v3 u)) (v1 : Int32) (v2 : Int32) (v3 : Int32) (u : XM) : GF E0 YY 14 yX4_stand cX4_stand 4 (some .int) 110 [some (.ref 0), some (.int v1), some (.int v2), some (.int v3)] [] u emI (F_X4_stand_110 k53 v1 v2 v3 u) := by
  unfold F_X4_stand_110
  refine gf_iinc (v := (v3 + 1)) (lv2 := [some (.ref 0), some (.int v1), some (.int v2), some (.int (v3 + 1))]) (q := 113) dX4_stand_110 rfl (congrArg _ ki_1) (by decide) rfl rfl ?_
  refine gf_goto (q := 53) dX4_stand_113 (by decide) ?_
  exact (hk53 v1 v2 (v3 + 1) u)
def F_X4_stand_53 : Nat → Int32 → Int32 → Int32 → XM → Option (Int32 × XM)
  | 0, _, _, _, _ => none
  | n + 1, v1, v2, v3, u => (if (mi u 22 6) ≤ v3 then some (v2, u) else (Option.bind (F_X0_isTaken v3 u) (fun x1 => (if x1.1 = 0 then (if ain YY 3 1 v1 = true then (if ain YY 0 8 v1 = true then (if ain YY 0 31 v3 = true then (if ain YY 0 (2 + Int32.toNatClampNeg v1) (mi x1.2 8 (Int32.toNatClampNeg v1)) = true then (if ain YY 0 8 v1 = true then (if ain YY 0 8 v1 = true then F_X4_stand_110 (F_X4_stand_53 n) v1 v2 v3 (wi (wi x1.2 (2 + Int32.toNatClampNeg v1) (Int32.toNatClampNeg (mi x1.2 8 (Int32.toNatClampNeg v1))) (mi x1.2 31 (Int32.toNatClampNeg v3))) 8 (Int32.toNatClampNeg v1) ((mi (wi x1.2 (2 + Int32.toNatClampNeg v1) (Int32.toNatClampNeg (mi x1.2 8 (Int32.toNatClampNeg v1))) (mi x1.2 31 (Int32.toNatClampNeg v3))) 8 (Int32.toNatClampNeg v1)) + 1)) else none) else none) else none) else none) else none) else none) else F_X4_stand_110 (F_X4_stand_53 n) v1 v2 v3 x1.2))))
set_option maxRecDepth 20000 in
set_option maxHeartbeats 4000000 in
theorem T_X4_stand_53 : ∀ (n : Nat) (v1 : Int32) (v2 : Int32) (v3 : Int32) (u : XM), GF E0 YY 14 yX4_stand cX4_stand 4 (some .int) 53 [some (.ref 0), some (.int v1), some (.int v2), some (.int v3)] [] u emI (F_X4_stand_53 n v1 v2 v3 u) := by
  intro n
  induction n with
  | zero => intro v1 v2 v3 u; exact gf_none
  | succ n ih =>
    intro v1 v2 v3 u
    unfold F_X4_stand_53
    refine gf_iload_n (i := 3) (q := 54) dX4_stand_53 rfl rfl rfl ?_
    refine gf_aload_n (i := 0) (q := 55) dX4_stand_54 rfl rfl rfl ?_
    refine gf_getA (C := RX4) (T := TX4) (N := 15) (ci := 4) (k := 0) (j := 7) (t := 22) (q := 58) dX4_stand_55 rfl rfl kin4 (by decide) kw134 rfl rfl ?_
    refine gf_getI (C := RX0) (T := TX0) (N := 12) (ci := 0) (k := 22) (j := 6) (q := 61) dX4_stand_58 rfl rfl kin0 (by decide) kw61 rfl rfl ?_
    refine gf_icmp_ge (t := 116) (q := 64) dX4_stand_61 (by decide) rfl ?_ ?_
    · refine gf_iload_n (i := 2) (q := 117) dX4_stand_116 rfl rfl rfl ?_
      exact gf_reti dX4_stand_117 rfl
    · refine gf_aload_n (i := 0) (q := 65) dX4_stand_64 rfl rfl rfl ?_
      refine gf_getA (C := RX4) (T := TX4) (N := 15) (ci := 4) (k := 0) (j := 7) (t := 22) (q := 68) dX4_stand_65 rfl rfl kin4 (by decide) kw134 rfl rfl ?_
      refine gf_iload_n (i := 3) (q := 69) dX4_stand_68 rfl rfl rfl ?_
      refine gf_callV_i (n2 := 1) (As := [.int v3]) (st := []) (b := 22) (ci := 0) (C := RX0) (q := 72) (hlen := rfl) rfl rfl kw394 kw277 kw278 dX4_stand_69 kw279 kw3 (by decide +kernel) (by decide) (Nat.le_of_ble_eq_true rfl) (C_X0_isTaken v3 u) rfl rfl (fun x1 => ?_)
      refine gf_if_eq (t := 78) (q := 75) dX4_stand_72 (by decide) rfl ?_ ?_
      · refine gf_aload_n (i := 0) (q := 79) dX4_stand_78 rfl rfl rfl ?_
        refine gf_getA (C := RX4) (T := TX4) (N := 15) (ci := 4) (k := 0) (j := 0) (t := 1) (q := 82) dX4_stand_79 rfl rfl kin4 (by decide) kw127 rfl rfl ?_
        refine gf_iload_n (i := 1) (q := 83) dX4_stand_82 rfl rfl rfl ?_
        refine gf_aald3 (n := 6) (b := 2) (q := 84) dX4_stand_83 rfl rfl ?_
        refine gf_aload_n (i := 0) (q := 85) dX4_stand_84 rfl rfl rfl ?_
        refine gf_getA (C := RX4) (T := TX4) (N := 15) (ci := 4) (k := 0) (j := 1) (t := 8) (q := 88) dX4_stand_85 rfl rfl kin4 (by decide) kw128 rfl rfl ?_
        refine gf_iload_n (i := 1) (q := 89) dX4_stand_88 rfl rfl rfl ?_
        refine gf_iald (q := 90) dX4_stand_89 rfl ?_
        refine gf_aload_n (i := 0) (q := 91) dX4_stand_90 rfl rfl rfl ?_
        refine gf_getA (C := RX4) (T := TX4) (N := 15) (ci := 4) (k := 0) (j := 8) (t := 29) (q := 94) dX4_stand_91 rfl rfl kin4 (by decide) kw135 rfl rfl ?_
        refine gf_getA (C := RX1) (T := TX1) (N := 3) (ci := 1) (k := 29) (j := 1) (t := 31) (q := 97) dX4_stand_94 rfl rfl kin1 (by decide) kw104 rfl rfl ?_
        refine gf_iload_n (i := 3) (q := 98) dX4_stand_97 rfl rfl rfl ?_
        refine gf_iald (q := 99) dX4_stand_98 rfl ?_
        refine gf_iast (q := 100) dX4_stand_99 rfl ?_
        refine gf_aload_n (i := 0) (q := 101) dX4_stand_100 rfl rfl rfl ?_
        refine gf_getA (C := RX4) (T := TX4) (N := 15) (ci := 4) (k := 0) (j := 1) (t := 8) (q := 104) dX4_stand_101 rfl rfl kin4 (by decide) kw128 rfl rfl ?_
        refine gf_iload_n (i := 1) (q := 105) dX4_stand_104 rfl rfl rfl ?_
        refine gf_dup2 (q := 106) dX4_stand_105 rfl rfl rfl ?_
        refine gf_iald (q := 107) dX4_stand_106 rfl ?_
        refine gf_iconst (q := 108) dX4_stand_107 ki_1 rfl ?_
        refine gf_iadd (q := 109) dX4_stand_108 rfl ?_
        refine gf_iast (q := 110) dX4_stand_109 rfl ?_
        exact (T_X4_stand_110 (F_X4_stand_53 n) ih v1 v2 v3 (wi (wi x1.2 (2 + Int32.toNatClampNeg v1) (Int32.toNatClampNeg (mi x1.2 8 (Int32.toNatClampNeg v1))) (mi x1.2 31 (Int32.toNatClampNeg v3))) 8 (Int32.toNatClampNeg v1) ((mi (wi x1.2 (2 + Int32.toNatClampNeg v1) (Int32.toNatClampNeg (mi x1.2 8 (Int32.toNatClampNeg v1))) (mi x1.2 31 (Int32.toNatClampNeg v3))) 8 (Int32.toNatClampNeg v1)) + 1)))
      · refine gf_goto (q := 110) dX4_stand_75 (by decide) ?_
        exact (T_X4_stand_110 (F_X4_stand_53 n) ih v1 v2 v3 x1.2)
def F_X4_stand (v1 : Int32) (u : XM) : Option (Int32 × XM) := (Option.bind (F_X4_isRow v1 u) (fun x2 => (if x2.1 = 0 then some ((-1), x2.2) else (if (mi x2.2 22 6) = 0 then some ((-4), x2.2) else (Option.bind (F_X1_leastSum x2.2) (fun x3 => (if ain YY 3 1 v1 = true then (Option.bind (F_J7_fill_53178 YY (2 + Int32.toNatClampNeg v1) 0 x3.2) (fun x4 => (if ain YY 0 8 v1 = true then F_X4_stand_53 FU v1 x3.1 0 (wi x4.2 8 (Int32.toNatClampNeg v1) 0) else none))) else none)))))))
set_option maxRecDepth 20000 in
set_option maxHeartbeats 4000000 in
theorem T_X4_stand (v1 : Int32) (u : XM) : GF E0 YY 14 yX4_stand cX4_stand 4 (some .int) 0 [some (.ref 0), some (.int v1), none, none] [] u emI (F_X4_stand v1 u) := by
  unfold F_X4_stand
  refine gf_iload_n (i := 1) (q := 1) dX4_stand_0 rfl rfl rfl ?_
  refine gf_callS_i (n2 := 1) (As := [.int v1]) (st := []) (q := 4) (hlen := rfl) kw177 kw178 dX4_stand_1 kw179 kw1 (by decide +kernel) (by decide) (Nat.le_of_ble_eq_true rfl) (C_X4_isRow v1 u) rfl rfl (fun x2 => ?_)
  refine gf_if_ne (t := 9) (q := 7) dX4_stand_4 (by decide) rfl ?_ ?_
  · refine gf_iconst (q := 8) dX4_stand_7 ki_m1 rfl ?_
    exact gf_reti dX4_stand_8 rfl
  · refine gf_aload_n (i := 0) (q := 10) dX4_stand_9 rfl rfl rfl ?_
    refine gf_getA (C := RX4) (T := TX4) (N := 15) (ci := 4) (k := 0) (j := 7) (t := 22) (q := 13) dX4_stand_10 rfl rfl kin4 (by decide) kw134 rfl rfl ?_
    refine gf_getI (C := RX0) (T := TX0) (N := 12) (ci := 0) (k := 22) (j := 6) (q := 16) dX4_stand_13 rfl rfl kin0 (by decide) kw61 rfl rfl ?_
    refine gf_if_ne (t := 22) (q := 19) dX4_stand_16 (by decide) rfl ?_ ?_
    · refine gf_bipush (q := 21) dX4_stand_19 kb_m4 rfl ?_
      exact gf_reti dX4_stand_21 rfl
    · refine gf_aload_n (i := 0) (q := 23) dX4_stand_22 rfl rfl rfl ?_
      refine gf_getA (C := RX4) (T := TX4) (N := 15) (ci := 4) (k := 0) (j := 8) (t := 29) (q := 26) dX4_stand_23 rfl rfl kin4 (by decide) kw135 rfl rfl ?_
      refine gf_aload_n (i := 0) (q := 27) dX4_stand_26 rfl rfl rfl ?_
      refine gf_getA (C := RX4) (T := TX4) (N := 15) (ci := 4) (k := 0) (j := 7) (t := 22) (q := 30) dX4_stand_27 rfl rfl kin4 (by decide) kw134 rfl rfl ?_
      refine gf_callV_i (n2 := 1) (As := [.ref 22]) (st := []) (b := 29) (ci := 1) (C := RX1) (q := 33) (hlen := rfl) rfl rfl kw437 kw438 kw439 dX4_stand_30 kw440 kw4 (by decide +kernel) (by decide) (Nat.le_of_ble_eq_true rfl) (C_X1_leastSum x2.2) rfl rfl (fun x3 => ?_)
      refine gf_istore_n (i := 2) (lv2 := [some (.ref 0), some (.int v1), some (.int x3.1), none]) (q := 34) dX4_stand_33 rfl (by decide) rfl rfl ?_
      refine gf_aload_n (i := 0) (q := 35) dX4_stand_34 rfl rfl rfl ?_
      refine gf_getA (C := RX4) (T := TX4) (N := 15) (ci := 4) (k := 0) (j := 0) (t := 1) (q := 38) dX4_stand_35 rfl rfl kin4 (by decide) kw127 rfl rfl ?_
      refine gf_iload_n (i := 1) (q := 39) dX4_stand_38 rfl rfl rfl ?_
      refine gf_aald3 (n := 6) (b := 2) (q := 40) dX4_stand_39 rfl rfl ?_
      refine gf_iconst (q := 41) dX4_stand_40 ki_0 rfl ?_
      refine gf_callS_v (n2 := 2) (As := [.ref (2 + Int32.toNatClampNeg v1), .int 0]) (st := []) (q := 44) (hlen := rfl) kw124 kw125 dX4_stand_41 kw126 kw6 (by decide +kernel) (by decide) (Nat.le_of_ble_eq_true rfl) (C_J7_fill_53178 YY (2 + Int32.toNatClampNeg v1) 0 x3.2) rfl rfl (fun x4 => ?_)
      refine gf_aload_n (i := 0) (q := 45) dX4_stand_44 rfl rfl rfl ?_
      refine gf_getA (C := RX4) (T := TX4) (N := 15) (ci := 4) (k := 0) (j := 1) (t := 8) (q := 48) dX4_stand_45 rfl rfl kin4 (by decide) kw128 rfl rfl ?_
      refine gf_iload_n (i := 1) (q := 49) dX4_stand_48 rfl rfl rfl ?_
      refine gf_iconst (q := 50) dX4_stand_49 ki_0 rfl ?_
      refine gf_iast (q := 51) dX4_stand_50 rfl ?_
      refine gf_iconst (q := 52) dX4_stand_51 ki_0 rfl ?_
      refine gf_istore_n (i := 3) (lv2 := [some (.ref 0), some (.int v1), some (.int x3.1), some (.int 0)]) (q := 53) dX4_stand_52 rfl (by decide) rfl rfl ?_
      exact (T_X4_stand_53 FU v1 x3.1 0 (wi x4.2 8 (Int32.toNatClampNeg v1) 0))
theorem C_X4_stand (v1 : Int32) (u : XM) : CF YY 14 yX4_stand cX4_stand 4 (some .int) [.ref 0, .int v1] u emI (F_X4_stand v1 u) := cf_of (by decide +kernel) (Nat.le_of_ble_eq_true rfl) rfl (T_X4_stand v1 u)
def F_X4_level (v1 : Int32) (u : XM) : Option (Int32 × XM) := (if v1 < 0 then some ((-1), u) else (if v1 ≤ 9 then (if (mi u 22 6) = 0 then some ((-4), u) else (Option.bind (F_X2_countTurnsTo v1 u) (fun x1 => (if ain YY 0 33 (mi x1.2 22 9) = true then (if (mi x1.2 33 (Int32.toNatClampNeg (mi x1.2 22 9))) ≤ 9 then (Option.bind (F_X2_firstRowFrom (mi x1.2 22 9) x1.2) (fun x2 => (Option.bind (F_X4_tell x2.1 x2.2) (fun x3 => some ((mi x1.2 33 (Int32.toNatClampNeg (mi x1.2 22 9))), x3.2))))) else some ((-9), x1.2)) else none)))) else some ((-1), u)))
set_option maxRecDepth 20000 in
set_option maxHeartbeats 4000000 in
theorem T_X4_level (v1 : Int32) (u : XM) : GF E0 YY 4 yX4_level cX4_level 3 (some .int) 0 [some (.ref 0), some (.int v1), none] [] u emI (F_X4_level v1 u) := by
  unfold F_X4_level
  refine gf_iload_n (i := 1) (q := 1) dX4_level_0 rfl rfl rfl ?_
  refine gf_if_lt (t := 10) (q := 4) dX4_level_1 (by decide) rfl ?_ ?_
  · refine gf_iconst (q := 11) dX4_level_10 ki_m1 rfl ?_
    exact gf_reti dX4_level_11 rfl
  · refine gf_iload_n (i := 1) (q := 5) dX4_level_4 rfl rfl rfl ?_
    refine gf_bipush (q := 7) dX4_level_5 kb_9 rfl ?_
    refine gf_icmp_le (t := 12) (q := 10) dX4_level_7 (by decide) rfl ?_ ?_
    · refine gf_aload_n (i := 0) (q := 13) dX4_level_12 rfl rfl rfl ?_
      refine gf_getA (C := RX4) (T := TX4) (N := 15) (ci := 4) (k := 0) (j := 7) (t := 22) (q := 16) dX4_level_13 rfl rfl kin4 (by decide) kw134 rfl rfl ?_
      refine gf_getI (C := RX0) (T := TX0) (N := 12) (ci := 0) (k := 22) (j := 6) (q := 19) dX4_level_16 rfl rfl kin0 (by decide) kw61 rfl rfl ?_
      refine gf_if_ne (t := 25) (q := 22) dX4_level_19 (by decide) rfl ?_ ?_
      · refine gf_bipush (q := 24) dX4_level_22 kb_m4 rfl ?_
        exact gf_reti dX4_level_24 rfl
      · refine gf_aload_n (i := 0) (q := 26) dX4_level_25 rfl rfl rfl ?_
        refine gf_getA (C := RX4) (T := TX4) (N := 15) (ci := 4) (k := 0) (j := 9) (t := 32) (q := 29) dX4_level_26 rfl rfl kin4 (by decide) kw136 rfl rfl ?_
        refine gf_iload_n (i := 1) (q := 30) dX4_level_29 rfl rfl rfl ?_
        refine gf_callV_v (n2 := 1) (As := [.int v1]) (st := []) (b := 32) (ci := 2) (C := RX2) (q := 33) (hlen := rfl) rfl rfl kw454 kw455 kw456 dX4_level_30 kw457 kw5 (by decide +kernel) (by decide) (Nat.le_of_ble_eq_true rfl) (C_X2_countTurnsTo v1 u) rfl rfl (fun x1 => ?_)
        refine gf_aload_n (i := 0) (q := 34) dX4_level_33 rfl rfl rfl ?_
        refine gf_getA (C := RX4) (T := TX4) (N := 15) (ci := 4) (k := 0) (j := 9) (t := 32) (q := 37) dX4_level_34 rfl rfl kin4 (by decide) kw136 rfl rfl ?_
        refine gf_getA (C := RX2) (T := TX2) (N := 1) (ci := 2) (k := 32) (j := 0) (t := 33) (q := 40) dX4_level_37 rfl rfl kin2 (by decide) kw120 rfl rfl ?_
        refine gf_aload_n (i := 0) (q := 41) dX4_level_40 rfl rfl rfl ?_
        refine gf_getA (C := RX4) (T := TX4) (N := 15) (ci := 4) (k := 0) (j := 7) (t := 22) (q := 44) dX4_level_41 rfl rfl kin4 (by decide) kw134 rfl rfl ?_
        refine gf_getI (C := RX0) (T := TX0) (N := 12) (ci := 0) (k := 22) (j := 9) (q := 47) dX4_level_44 rfl rfl kin0 (by decide) kw66 rfl rfl ?_
        refine gf_iald (q := 48) dX4_level_47 rfl ?_
        refine gf_istore_n (i := 2) (lv2 := [some (.ref 0), some (.int v1), some (.int (mi x1.2 33 (Int32.toNatClampNeg (mi x1.2 22 9))))]) (q := 49) dX4_level_48 rfl (by decide) rfl rfl ?_
        refine gf_iload_n (i := 2) (q := 50) dX4_level_49 rfl rfl rfl ?_
        refine gf_bipush (q := 52) dX4_level_50 kb_9 rfl ?_
        refine gf_icmp_le (t := 58) (q := 55) dX4_level_52 (by decide) rfl ?_ ?_
        · refine gf_aload_n (i := 0) (q := 59) dX4_level_58 rfl rfl rfl ?_
          refine gf_aload_n (i := 0) (q := 60) dX4_level_59 rfl rfl rfl ?_
          refine gf_getA (C := RX4) (T := TX4) (N := 15) (ci := 4) (k := 0) (j := 9) (t := 32) (q := 63) dX4_level_60 rfl rfl kin4 (by decide) kw136 rfl rfl ?_
          refine gf_aload_n (i := 0) (q := 64) dX4_level_63 rfl rfl rfl ?_
          refine gf_getA (C := RX4) (T := TX4) (N := 15) (ci := 4) (k := 0) (j := 7) (t := 22) (q := 67) dX4_level_64 rfl rfl kin4 (by decide) kw134 rfl rfl ?_
          refine gf_getI (C := RX0) (T := TX0) (N := 12) (ci := 0) (k := 22) (j := 9) (q := 70) dX4_level_67 rfl rfl kin0 (by decide) kw66 rfl rfl ?_
          refine gf_callV_i (n2 := 1) (As := [.int (mi x1.2 22 9)]) (st := [.ref 0]) (b := 32) (ci := 2) (C := RX2) (q := 73) (hlen := rfl) rfl rfl kw461 kw462 kw463 dX4_level_70 kw464 kw5 (by decide +kernel) (by decide) (Nat.le_of_ble_eq_true rfl) (C_X2_firstRowFrom (mi x1.2 22 9) x1.2) rfl rfl (fun x2 => ?_)
          refine gf_callV_i (n2 := 1) (As := [.int x2.1]) (st := []) (b := 0) (ci := 4) (C := RX4) (q := 76) (hlen := rfl) rfl rfl kw188 kw190 kp1 dX4_level_73 kw191 kw1 (by decide +kernel) (by decide) (Nat.le_of_ble_eq_true rfl) (C_X4_tell x2.1 x2.2) rfl rfl (fun x3 => ?_)
          refine gf_pop (q := 77) dX4_level_76 rfl rfl ?_
          refine gf_iload_n (i := 2) (q := 78) dX4_level_77 rfl rfl rfl ?_
          exact gf_reti dX4_level_78 rfl
        · refine gf_bipush (q := 57) dX4_level_55 kb_m9 rfl ?_
          exact gf_reti dX4_level_57 rfl
    · refine gf_iconst (q := 11) dX4_level_10 ki_m1 rfl ?_
      exact gf_reti dX4_level_11 rfl
theorem C_X4_level (v1 : Int32) (u : XM) : CF YY 4 yX4_level cX4_level 3 (some .int) [.ref 0, .int v1] u emI (F_X4_level v1 u) := cf_of (by decide +kernel) (Nat.le_of_ble_eq_true rfl) rfl (T_X4_level v1 u)
def F_X4_streetPlace (v0 : Int32) (v1 : Int32) (u : XM) : Option (Int32 × XM) := (if v0 = 0 then some (v1, u) else some ((15 - v1), u))
set_option maxRecDepth 20000 in
set_option maxHeartbeats 4000000 in
theorem T_X4_streetPlace (v0 : Int32) (v1 : Int32) (u : XM) : GF E0 YY 1 yX4_streetPlace cX4_streetPlace 2 (some .int) 0 [some (.int v0), some (.int v1)] [] u emI (F_X4_streetPlace v0 v1 u) := by
  unfold F_X4_streetPlace
  refine gf_iload_n (i := 0) (q := 1) dX4_streetPlace_0 rfl rfl rfl ?_
  refine gf_if_ne (t := 8) (q := 4) dX4_streetPlace_1 (by decide) rfl ?_ ?_
  · refine gf_iload_n (i := 1) (q := 5) dX4_streetPlace_4 rfl rfl rfl ?_
    refine gf_goto (q := 12) dX4_streetPlace_5 (by decide) ?_
    exact gf_reti dX4_streetPlace_12 rfl
  · refine gf_bipush (q := 10) dX4_streetPlace_8 kb_15 rfl ?_
    refine gf_iload_n (i := 1) (q := 11) dX4_streetPlace_10 rfl rfl rfl ?_
    refine gf_isub (q := 12) dX4_streetPlace_11 rfl ?_
    exact gf_reti dX4_streetPlace_12 rfl
theorem C_X4_streetPlace (v0 : Int32) (v1 : Int32) (u : XM) : CF YY 1 yX4_streetPlace cX4_streetPlace 2 (some .int) [.int v0, .int v1] u emI (F_X4_streetPlace v0 v1 u) := cf_of (by decide +kernel) (Nat.le_of_ble_eq_true rfl) rfl (T_X4_streetPlace v0 v1 u)
def F_X4_stepsAround_6 : Nat → Int32 → Int32 → Int32 → Int32 → Int32 → XM → Option (Int32 × XM)
  | 0, _, _, _, _, _, _ => none
  | n + 1, v1, v2, v3, v4, v5, u => (if 16 ≤ v5 then some ((-9), u) else (if v4 = v1 then some (v5, u) else (Option.bind (F_J9_floorMod_7cf53 YY (v4 + v2) 16 u) (fun x1 => (if ((v3 >>> (x1.1 &&& 31)) &&& 1) = 0 then F_X4_stepsAround_6 n v1 v2 v3 x1.1 (v5 + 1) x1.2 else some ((-9), x1.2))))))
set_option maxRecDepth 20000 in
set_option maxHeartbeats 4000000 in
theorem T_X4_stepsAround_6 : ∀ (n : Nat) (v1 : Int32) (v2 : Int32) (v3 : Int32) (v4 : Int32) (v5 : Int32) (u : XM), GF E0 YY 2 yX4_stepsAround cX4_stepsAround 6 (some .int) 6 [none, some (.int v1), some (.int v2), some (.int v3), some (.int v4), some (.int v5)] [] u emI (F_X4_stepsAround_6 n v1 v2 v3 v4 v5 u) := by
  intro n
  induction n with
  | zero => intro v1 v2 v3 v4 v5 u; exact gf_none
  | succ n ih =>
    intro v1 v2 v3 v4 v5 u
    unfold F_X4_stepsAround_6
    refine gf_iload (q := 8) dX4_stepsAround_6 rfl rfl ?_
    refine gf_bipush (q := 10) dX4_stepsAround_8 kb_16 rfl ?_
    refine gf_icmp_ge (t := 51) (q := 13) dX4_stepsAround_10 (by decide) rfl ?_ ?_
    · refine gf_bipush (q := 53) dX4_stepsAround_51 kb_m9 rfl ?_
      exact gf_reti dX4_stepsAround_53 rfl
    · refine gf_iload (q := 15) dX4_stepsAround_13 rfl rfl ?_
      refine gf_iload_n (i := 1) (q := 16) dX4_stepsAround_15 rfl rfl rfl ?_
      refine gf_icmp_ne (t := 22) (q := 19) dX4_stepsAround_16 (by decide) rfl ?_ ?_
      · refine gf_iload (q := 21) dX4_stepsAround_19 rfl rfl ?_
        exact gf_reti dX4_stepsAround_21 rfl
      · refine gf_iload (q := 24) dX4_stepsAround_22 rfl rfl ?_
        refine gf_iload_n (i := 2) (q := 25) dX4_stepsAround_24 rfl rfl rfl ?_
        refine gf_iadd (q := 26) dX4_stepsAround_25 rfl ?_
        refine gf_bipush (q := 28) dX4_stepsAround_26 kb_16 rfl ?_
        refine gf_callS_i (n2 := 2) (As := [.int (v4 + v2), .int 16]) (st := []) (q := 31) (hlen := rfl) kw479 kw480 dX4_stepsAround_28 kw481 kw9 (by decide +kernel) (by decide) (Nat.le_of_ble_eq_true rfl) (C_J9_floorMod_7cf53 YY (v4 + v2) 16 u) rfl rfl (fun x1 => ?_)
        refine gf_istore (lv2 := [none, some (.int v1), some (.int v2), some (.int v3), some (.int x1.1), some (.int v5)]) (q := 33) dX4_stepsAround_31 (by decide) rfl rfl ?_
        refine gf_iload_n (i := 3) (q := 34) dX4_stepsAround_33 rfl rfl rfl ?_
        refine gf_iload (q := 36) dX4_stepsAround_34 rfl rfl ?_
        refine gf_ishr (q := 37) dX4_stepsAround_36 rfl ?_
        refine gf_iconst (q := 38) dX4_stepsAround_37 ki_1 rfl ?_
        refine gf_iand (q := 39) dX4_stepsAround_38 rfl ?_
        refine gf_if_eq (t := 45) (q := 42) dX4_stepsAround_39 (by decide) rfl ?_ ?_
        · refine gf_iinc (v := (v5 + 1)) (lv2 := [none, some (.int v1), some (.int v2), some (.int v3), some (.int x1.1), some (.int (v5 + 1))]) (q := 48) dX4_stepsAround_45 rfl (congrArg _ ki_1) (by decide) rfl rfl ?_
          refine gf_goto (q := 6) dX4_stepsAround_48 (by decide) ?_
          exact (ih v1 v2 v3 x1.1 (v5 + 1) x1.2)
        · refine gf_bipush (q := 44) dX4_stepsAround_42 kb_m9 rfl ?_
          exact gf_reti dX4_stepsAround_44 rfl
def F_X4_stepsAround (v0 : Int32) (v1 : Int32) (v2 : Int32) (v3 : Int32) (u : XM) : Option (Int32 × XM) := F_X4_stepsAround_6 FU v1 v2 v3 v0 0 u
set_option maxRecDepth 20000 in
set_option maxHeartbeats 4000000 in
theorem T_X4_stepsAround (v0 : Int32) (v1 : Int32) (v2 : Int32) (v3 : Int32) (u : XM) : GF E0 YY 2 yX4_stepsAround cX4_stepsAround 6 (some .int) 0 [some (.int v0), some (.int v1), some (.int v2), some (.int v3), none, none] [] u emI (F_X4_stepsAround v0 v1 v2 v3 u) := by
  unfold F_X4_stepsAround
  refine gf_iload_n (i := 0) (q := 1) dX4_stepsAround_0 rfl rfl rfl ?_
  refine gf_istore (lv2 := [some (.int v0), some (.int v1), some (.int v2), some (.int v3), some (.int v0), none]) (q := 3) dX4_stepsAround_1 (by decide) rfl rfl ?_
  refine gf_iconst (q := 4) dX4_stepsAround_3 ki_0 rfl ?_
  refine gf_istore (lv2 := [some (.int v0), some (.int v1), some (.int v2), some (.int v3), some (.int v0), some (.int 0)]) (q := 6) dX4_stepsAround_4 (by decide) rfl rfl ?_
  exact gf_mask (b := [false, true, true, true, true, true]) rfl (T_X4_stepsAround_6 FU v1 v2 v3 v0 0 u)
theorem C_X4_stepsAround (v0 : Int32) (v1 : Int32) (v2 : Int32) (v3 : Int32) (u : XM) : CF YY 2 yX4_stepsAround cX4_stepsAround 6 (some .int) [.int v0, .int v1, .int v2, .int v3] u emI (F_X4_stepsAround v0 v1 v2 v3 u) := cf_of (by decide +kernel) (Nat.le_of_ble_eq_true rfl) rfl (T_X4_stepsAround v0 v1 v2 v3 u)
def F_X4_stepsHome_66 (k5 : Int32 → Int32 → Int32 → Int32 → XM → Option (Int32 × XM)) (v1 : Int32) (v2 : Int32) (v3 : Int32) (v4 : Int32) (u : XM) : Option (Int32 × XM) := k5 v1 v2 v3 (v4 + 1) u
set_option maxRecDepth 20000 in
set_option maxHeartbeats 4000000 in
theorem T_X4_stepsHome_66 (k5 : Int32 → Int32 → Int32 → Int32 → XM → Option (Int32 × XM)) (hk5 : ∀ (v1 : Int32) (v2 : Int32) (v3 : Int32) (v4 : Int32) (u : XM), GF E0 YY 3 yX4_stepsHome cX4_stepsHome 8 (some .int) 5 [some (.ref 0), some (.int v1), some (.int v2), some (.int v3), some (.int v4), none, none, none] [] u emI (k5 v1 v2 v3 v4 u)) (v1 : Int32) (v2 : Int32) (v3 : Int32) (v4 : Int32) (u : XM) : GF E0 YY 3 yX4_stepsHome cX4_stepsHome 8 (some .int) 66 [some (.ref 0), some (.int v1), some (.int v2), some (.int v3), some (.int v4), none, none, none] [] u emI (F_X4_stepsHome_66 k5 v1 v2 v3 v4 u) := by
  unfold F_X4_stepsHome_66
  refine gf_iinc (v := (v4 + 1)) (lv2 := [some (.ref 0), some (.int v1), some (.int v2), some (.int v3), some (.int (v4 + 1)), none, none, none]) (q := 69) dX4_stepsHome_66 rfl (congrArg _ ki_1) (by decide) rfl rfl ?_
  refine gf_goto (q := 5) dX4_stepsHome_69 (by decide) ?_
  exact (hk5 v1 v2 v3 (v4 + 1) u)
def F_X4_stepsHome_5 : Nat → Int32 → Int32 → Int32 → Int32 → XM → Option (Int32 × XM)
  | 0, _, _, _, _, _ => none
  | n + 1, v1, v2, v3, v4, u => (if (mi u 22 6) ≤ v4 then (if ain YY 0 25 v1 = true then (Option.bind (F_X4_streetPlace (v1 - v1 / 2 * 2) (mi u 25 (Int32.toNatClampNeg v1)) u) (fun x1 => (if ain YY 0 27 v1 = true then (Option.bind (F_X4_streetPlace 0 (mi x1.2 27 (Int32.toNatClampNeg v1)) x1.2) (fun x2 => (Option.bind (F_X4_stepsAround x1.1 x2.1 1 v3 x2.2) (fun x3 => (Option.bind (F_X4_stepsAround x1.1 x2.1 (-1) v3 x3.2) (fun x4 => (if x3.1 = (-9) then some (x4.1, x4.2) else (if x4.1 = (-9) then some (x3.1, x4.2) else (Option.bind (F_J9_min_7cf53 YY x3.1 x4.1 x4.2) (fun x5 => some (x5.1, x5.2))))))))))) else none))) else none) else (if v4 = v1 then F_X4_stepsHome_66 (F_X4_stepsHome_5 n) v1 v2 v3 v4 u else (if v4 = v2 then F_X4_stepsHome_66 (F_X4_stepsHome_5 n) v1 v2 v3 v4 u else (Option.bind (F_X0_isTaken v4 u) (fun x6 => (if x6.1 = 0 then (if ain YY 0 25 v4 = true then (Option.bind (F_X4_streetPlace (v4 - v4 / 2 * 2) (mi x6.2 25 (Int32.toNatClampNeg v4)) x6.2) (fun x7 => F_X4_stepsHome_66 (F_X4_stepsHome_5 n) v1 v2 (v3 ||| (1 <<< (x7.1 &&& 31))) v4 x7.2)) else none) else F_X4_stepsHome_66 (F_X4_stepsHome_5 n) v1 v2 v3 v4 x6.2))))))
set_option maxRecDepth 20000 in
set_option maxHeartbeats 4000000 in
theorem T_X4_stepsHome_5 : ∀ (n : Nat) (v1 : Int32) (v2 : Int32) (v3 : Int32) (v4 : Int32) (u : XM), GF E0 YY 3 yX4_stepsHome cX4_stepsHome 8 (some .int) 5 [some (.ref 0), some (.int v1), some (.int v2), some (.int v3), some (.int v4), none, none, none] [] u emI (F_X4_stepsHome_5 n v1 v2 v3 v4 u) := by
  intro n
  induction n with
  | zero => intro v1 v2 v3 v4 u; exact gf_none
  | succ n ih =>
    intro v1 v2 v3 v4 u
    unfold F_X4_stepsHome_5
    refine gf_iload (q := 7) dX4_stepsHome_5 rfl rfl ?_
    refine gf_aload_n (i := 0) (q := 8) dX4_stepsHome_7 rfl rfl rfl ?_
    refine gf_getA (C := RX4) (T := TX4) (N := 15) (ci := 4) (k := 0) (j := 7) (t := 22) (q := 11) dX4_stepsHome_8 rfl rfl kin4 (by decide) kw134 rfl rfl ?_
    refine gf_getI (C := RX0) (T := TX0) (N := 12) (ci := 0) (k := 22) (j := 6) (q := 14) dX4_stepsHome_11 rfl rfl kin0 (by decide) kw61 rfl rfl ?_
    refine gf_icmp_ge (t := 72) (q := 17) dX4_stepsHome_14 (by decide) rfl ?_ ?_
    · refine gf_iload_n (i := 1) (q := 73) dX4_stepsHome_72 rfl rfl rfl ?_
      refine gf_iconst (q := 74) dX4_stepsHome_73 ki_2 rfl ?_
      refine gf_irem_c (q := 75) dX4_stepsHome_74 (by decide) rfl ?_
      refine gf_aload_n (i := 0) (q := 76) dX4_stepsHome_75 rfl rfl rfl ?_
      refine gf_getA (C := RX4) (T := TX4) (N := 15) (ci := 4) (k := 0) (j := 7) (t := 22) (q := 79) dX4_stepsHome_76 rfl rfl kin4 (by decide) kw134 rfl rfl ?_
      refine gf_getA (C := RX0) (T := TX0) (N := 12) (ci := 0) (k := 22) (j := 2) (t := 25) (q := 82) dX4_stepsHome_79 rfl rfl kin0 (by decide) kw51 rfl rfl ?_
      refine gf_iload_n (i := 1) (q := 83) dX4_stepsHome_82 rfl rfl rfl ?_
      refine gf_iald (q := 84) dX4_stepsHome_83 rfl ?_
      refine gf_callS_i (n2 := 2) (As := [.int (v1 - v1 / 2 * 2), .int (mi u 25 (Int32.toNatClampNeg v1))]) (st := []) (q := 87) (hlen := rfl) kw473 kw474 dX4_stepsHome_84 kw475 kw1 (by decide +kernel) (by decide) (Nat.le_of_ble_eq_true rfl) (C_X4_streetPlace (v1 - v1 / 2 * 2) (mi u 25 (Int32.toNatClampNeg v1)) u) rfl rfl (fun x1 => ?_)
      refine gf_istore (lv2 := [some (.ref 0), some (.int v1), some (.int v2), some (.int v3), some (.int x1.1), none, none, none]) (q := 89) dX4_stepsHome_87 (by decide) rfl rfl ?_
      refine gf_iconst (q := 90) dX4_stepsHome_89 ki_0 rfl ?_
      refine gf_aload_n (i := 0) (q := 91) dX4_stepsHome_90 rfl rfl rfl ?_
      refine gf_getA (C := RX4) (T := TX4) (N := 15) (ci := 4) (k := 0) (j := 7) (t := 22) (q := 94) dX4_stepsHome_91 rfl rfl kin4 (by decide) kw134 rfl rfl ?_
      refine gf_getA (C := RX0) (T := TX0) (N := 12) (ci := 0) (k := 22) (j := 4) (t := 27) (q := 97) dX4_stepsHome_94 rfl rfl kin0 (by decide) kw56 rfl rfl ?_
      refine gf_iload_n (i := 1) (q := 98) dX4_stepsHome_97 rfl rfl rfl ?_
      refine gf_iald (q := 99) dX4_stepsHome_98 rfl ?_
      refine gf_callS_i (n2 := 2) (As := [.int 0, .int (mi x1.2 27 (Int32.toNatClampNeg v1))]) (st := []) (q := 102) (hlen := rfl) kw473 kw474 dX4_stepsHome_99 kw475 kw1 (by decide +kernel) (by decide) (Nat.le_of_ble_eq_true rfl) (C_X4_streetPlace 0 (mi x1.2 27 (Int32.toNatClampNeg v1)) x1.2) rfl rfl (fun x2 => ?_)
      refine gf_istore (lv2 := [some (.ref 0), some (.int v1), some (.int v2), some (.int v3), some (.int x1.1), some (.int x2.1), none, none]) (q := 104) dX4_stepsHome_102 (by decide) rfl rfl ?_
      refine gf_iload (q := 106) dX4_stepsHome_104 rfl rfl ?_
      refine gf_iload (q := 108) dX4_stepsHome_106 rfl rfl ?_
      refine gf_iconst (q := 109) dX4_stepsHome_108 ki_1 rfl ?_
      refine gf_iload_n (i := 3) (q := 110) dX4_stepsHome_109 rfl rfl rfl ?_
      refine gf_callS_i (n2 := 4) (As := [.int x1.1, .int x2.1, .int 1, .int v3]) (st := []) (q := 113) (hlen := rfl) kw476 kw477 dX4_stepsHome_110 kw478 kw1 (by decide +kernel) (by decide) (Nat.le_of_ble_eq_true rfl) (C_X4_stepsAround x1.1 x2.1 1 v3 x2.2) rfl rfl (fun x3 => ?_)
      refine gf_istore (lv2 := [some (.ref 0), some (.int v1), some (.int v2), some (.int v3), some (.int x1.1), some (.int x2.1), some (.int x3.1), none]) (q := 115) dX4_stepsHome_113 (by decide) rfl rfl ?_
      refine gf_iload (q := 117) dX4_stepsHome_115 rfl rfl ?_
      refine gf_iload (q := 119) dX4_stepsHome_117 rfl rfl ?_
      refine gf_iconst (q := 120) dX4_stepsHome_119 ki_m1 rfl ?_
      refine gf_iload_n (i := 3) (q := 121) dX4_stepsHome_120 rfl rfl rfl ?_
      refine gf_callS_i (n2 := 4) (As := [.int x1.1, .int x2.1, .int (-1), .int v3]) (st := []) (q := 124) (hlen := rfl) kw476 kw477 dX4_stepsHome_121 kw478 kw1 (by decide +kernel) (by decide) (Nat.le_of_ble_eq_true rfl) (C_X4_stepsAround x1.1 x2.1 (-1) v3 x3.2) rfl rfl (fun x4 => ?_)
      refine gf_istore (lv2 := [some (.ref 0), some (.int v1), some (.int v2), some (.int v3), some (.int x1.1), some (.int x2.1), some (.int x3.1), some (.int x4.1)]) (q := 126) dX4_stepsHome_124 (by decide) rfl rfl ?_
      refine gf_iload (q := 128) dX4_stepsHome_126 rfl rfl ?_
      refine gf_bipush (q := 130) dX4_stepsHome_128 kb_m9 rfl ?_
      refine gf_icmp_ne (t := 136) (q := 133) dX4_stepsHome_130 (by decide) rfl ?_ ?_
      · refine gf_iload (q := 135) dX4_stepsHome_133 rfl rfl ?_
        exact gf_reti dX4_stepsHome_135 rfl
      · refine gf_iload (q := 138) dX4_stepsHome_136 rfl rfl ?_
        refine gf_bipush (q := 140) dX4_stepsHome_138 kb_m9 rfl ?_
        refine gf_icmp_ne (t := 146) (q := 143) dX4_stepsHome_140 (by decide) rfl ?_ ?_
        · refine gf_iload (q := 145) dX4_stepsHome_143 rfl rfl ?_
          exact gf_reti dX4_stepsHome_145 rfl
        · refine gf_iload (q := 148) dX4_stepsHome_146 rfl rfl ?_
          refine gf_iload (q := 150) dX4_stepsHome_148 rfl rfl ?_
          refine gf_callS_i (n2 := 2) (As := [.int x3.1, .int x4.1]) (st := []) (q := 153) (hlen := rfl) kw482 kw257 dX4_stepsHome_150 kw258 kw9 (by decide +kernel) (by decide) (Nat.le_of_ble_eq_true rfl) (C_J9_min_7cf53 YY x3.1 x4.1 x4.2) rfl rfl (fun x5 => ?_)
          exact gf_reti dX4_stepsHome_153 rfl
    · refine gf_iload (q := 19) dX4_stepsHome_17 rfl rfl ?_
      refine gf_iload_n (i := 1) (q := 20) dX4_stepsHome_19 rfl rfl rfl ?_
      refine gf_icmp_eq (t := 66) (q := 23) dX4_stepsHome_20 (by decide) rfl ?_ ?_
      · exact (T_X4_stepsHome_66 (F_X4_stepsHome_5 n) ih v1 v2 v3 v4 u)
      · refine gf_iload (q := 25) dX4_stepsHome_23 rfl rfl ?_
        refine gf_iload_n (i := 2) (q := 26) dX4_stepsHome_25 rfl rfl rfl ?_
        refine gf_icmp_eq (t := 66) (q := 29) dX4_stepsHome_26 (by decide) rfl ?_ ?_
        · exact (T_X4_stepsHome_66 (F_X4_stepsHome_5 n) ih v1 v2 v3 v4 u)
        · refine gf_aload_n (i := 0) (q := 30) dX4_stepsHome_29 rfl rfl rfl ?_
          refine gf_getA (C := RX4) (T := TX4) (N := 15) (ci := 4) (k := 0) (j := 7) (t := 22) (q := 33) dX4_stepsHome_30 rfl rfl kin4 (by decide) kw134 rfl rfl ?_
          refine gf_iload (q := 35) dX4_stepsHome_33 rfl rfl ?_
          refine gf_callV_i (n2 := 1) (As := [.int v4]) (st := []) (b := 22) (ci := 0) (C := RX0) (q := 38) (hlen := rfl) rfl rfl kw394 kw277 kw278 dX4_stepsHome_35 kw279 kw3 (by decide +kernel) (by decide) (Nat.le_of_ble_eq_true rfl) (C_X0_isTaken v4 u) rfl rfl (fun x6 => ?_)
          refine gf_if_eq (t := 44) (q := 41) dX4_stepsHome_38 (by decide) rfl ?_ ?_
          · refine gf_iload_n (i := 3) (q := 45) dX4_stepsHome_44 rfl rfl rfl ?_
            refine gf_iconst (q := 46) dX4_stepsHome_45 ki_1 rfl ?_
            refine gf_iload (q := 48) dX4_stepsHome_46 rfl rfl ?_
            refine gf_iconst (q := 49) dX4_stepsHome_48 ki_2 rfl ?_
            refine gf_irem_c (q := 50) dX4_stepsHome_49 (by decide) rfl ?_
            refine gf_aload_n (i := 0) (q := 51) dX4_stepsHome_50 rfl rfl rfl ?_
            refine gf_getA (C := RX4) (T := TX4) (N := 15) (ci := 4) (k := 0) (j := 7) (t := 22) (q := 54) dX4_stepsHome_51 rfl rfl kin4 (by decide) kw134 rfl rfl ?_
            refine gf_getA (C := RX0) (T := TX0) (N := 12) (ci := 0) (k := 22) (j := 2) (t := 25) (q := 57) dX4_stepsHome_54 rfl rfl kin0 (by decide) kw51 rfl rfl ?_
            refine gf_iload (q := 59) dX4_stepsHome_57 rfl rfl ?_
            refine gf_iald (q := 60) dX4_stepsHome_59 rfl ?_
            refine gf_callS_i (n2 := 2) (As := [.int (v4 - v4 / 2 * 2), .int (mi x6.2 25 (Int32.toNatClampNeg v4))]) (st := [.int 1, .int v3]) (q := 63) (hlen := rfl) kw473 kw474 dX4_stepsHome_60 kw475 kw1 (by decide +kernel) (by decide) (Nat.le_of_ble_eq_true rfl) (C_X4_streetPlace (v4 - v4 / 2 * 2) (mi x6.2 25 (Int32.toNatClampNeg v4)) x6.2) rfl rfl (fun x7 => ?_)
            refine gf_ishl (q := 64) dX4_stepsHome_63 rfl ?_
            refine gf_ior (q := 65) dX4_stepsHome_64 rfl ?_
            refine gf_istore_n (i := 3) (lv2 := [some (.ref 0), some (.int v1), some (.int v2), some (.int (v3 ||| (1 <<< (x7.1 &&& 31)))), some (.int v4), none, none, none]) (q := 66) dX4_stepsHome_65 rfl (by decide) rfl rfl ?_
            exact (T_X4_stepsHome_66 (F_X4_stepsHome_5 n) ih v1 v2 (v3 ||| (1 <<< (x7.1 &&& 31))) v4 x7.2)
          · refine gf_goto (q := 66) dX4_stepsHome_41 (by decide) ?_
            exact (T_X4_stepsHome_66 (F_X4_stepsHome_5 n) ih v1 v2 v3 v4 x6.2)
def F_X4_stepsHome (v1 : Int32) (v2 : Int32) (u : XM) : Option (Int32 × XM) := F_X4_stepsHome_5 FU v1 v2 0 0 u
set_option maxRecDepth 20000 in
set_option maxHeartbeats 4000000 in
theorem T_X4_stepsHome (v1 : Int32) (v2 : Int32) (u : XM) : GF E0 YY 3 yX4_stepsHome cX4_stepsHome 8 (some .int) 0 [some (.ref 0), some (.int v1), some (.int v2), none, none, none, none, none] [] u emI (F_X4_stepsHome v1 v2 u) := by
  unfold F_X4_stepsHome
  refine gf_iconst (q := 1) dX4_stepsHome_0 ki_0 rfl ?_
  refine gf_istore_n (i := 3) (lv2 := [some (.ref 0), some (.int v1), some (.int v2), some (.int 0), none, none, none, none]) (q := 2) dX4_stepsHome_1 rfl (by decide) rfl rfl ?_
  refine gf_iconst (q := 3) dX4_stepsHome_2 ki_0 rfl ?_
  refine gf_istore (lv2 := [some (.ref 0), some (.int v1), some (.int v2), some (.int 0), some (.int 0), none, none, none]) (q := 5) dX4_stepsHome_3 (by decide) rfl rfl ?_
  exact (T_X4_stepsHome_5 FU v1 v2 0 0 u)
theorem C_X4_stepsHome (v1 : Int32) (v2 : Int32) (u : XM) : CF YY 3 yX4_stepsHome cX4_stepsHome 8 (some .int) [.ref 0, .int v1, .int v2] u emI (F_X4_stepsHome v1 v2 u) := cf_of (by decide +kernel) (Nat.le_of_ble_eq_true rfl) rfl (T_X4_stepsHome v1 v2 u)
def F_X4_home (v1 : Int32) (u : XM) : Option (Int32 × XM) := (Option.bind (F_X0_has v1 u) (fun x1 => (if x1.1 = 0 then some ((-1), x1.2) else (Option.bind (F_X0_isTaken v1 x1.2) (fun x2 => (if x2.1 = 0 then (Option.bind (F_X4_stepsHome v1 (-9) x2.2) (fun x3 => some (x3.1, x3.2))) else some ((-4), x2.2)))))))
set_option maxRecDepth 20000 in
set_option maxHeartbeats 4000000 in
theorem T_X4_home (v1 : Int32) (u : XM) : GF E0 YY 4 yX4_home cX4_home 2 (some .int) 0 [some (.ref 0), some (.int v1)] [] u emI (F_X4_home v1 u) := by
  unfold F_X4_home
  refine gf_aload_n (i := 0) (q := 1) dX4_home_0 rfl rfl rfl ?_
  refine gf_getA (C := RX4) (T := TX4) (N := 15) (ci := 4) (k := 0) (j := 7) (t := 22) (q := 4) dX4_home_1 rfl rfl kin4 (by decide) kw134 rfl rfl ?_
  refine gf_iload_n (i := 1) (q := 5) dX4_home_4 rfl rfl rfl ?_
  refine gf_callV_i (n2 := 1) (As := [.int v1]) (st := []) (b := 22) (ci := 0) (C := RX0) (q := 8) (hlen := rfl) rfl rfl kw303 kw269 kw270 dX4_home_5 kw271 kw3 (by decide +kernel) (by decide) (Nat.le_of_ble_eq_true rfl) (C_X0_has v1 u) rfl rfl (fun x1 => ?_)
  refine gf_if_ne (t := 13) (q := 11) dX4_home_8 (by decide) rfl ?_ ?_
  · refine gf_iconst (q := 12) dX4_home_11 ki_m1 rfl ?_
    exact gf_reti dX4_home_12 rfl
  · refine gf_aload_n (i := 0) (q := 14) dX4_home_13 rfl rfl rfl ?_
    refine gf_getA (C := RX4) (T := TX4) (N := 15) (ci := 4) (k := 0) (j := 7) (t := 22) (q := 17) dX4_home_14 rfl rfl kin4 (by decide) kw134 rfl rfl ?_
    refine gf_iload_n (i := 1) (q := 18) dX4_home_17 rfl rfl rfl ?_
    refine gf_callV_i (n2 := 1) (As := [.int v1]) (st := []) (b := 22) (ci := 0) (C := RX0) (q := 21) (hlen := rfl) rfl rfl kw394 kw277 kw278 dX4_home_18 kw279 kw3 (by decide +kernel) (by decide) (Nat.le_of_ble_eq_true rfl) (C_X0_isTaken v1 x1.2) rfl rfl (fun x2 => ?_)
    refine gf_if_eq (t := 27) (q := 24) dX4_home_21 (by decide) rfl ?_ ?_
    · refine gf_aload_n (i := 0) (q := 28) dX4_home_27 rfl rfl rfl ?_
      refine gf_iload_n (i := 1) (q := 29) dX4_home_28 rfl rfl rfl ?_
      refine gf_bipush (q := 31) dX4_home_29 kb_m9 rfl ?_
      refine gf_callV_i (n2 := 2) (As := [.int v1, .int (-9)]) (st := []) (b := 0) (ci := 4) (C := RX4) (q := 34) (hlen := rfl) rfl rfl kw469 kw471 kp6 dX4_home_31 kw472 kw1 (by decide +kernel) (by decide) (Nat.le_of_ble_eq_true rfl) (C_X4_stepsHome v1 (-9) x2.2) rfl rfl (fun x3 => ?_)
      exact gf_reti dX4_home_34 rfl
    · refine gf_bipush (q := 26) dX4_home_24 kb_m4 rfl ?_
      exact gf_reti dX4_home_26 rfl
theorem C_X4_home (v1 : Int32) (u : XM) : CF YY 4 yX4_home cX4_home 2 (some .int) [.ref 0, .int v1] u emI (F_X4_home v1 u) := cf_of (by decide +kernel) (Nat.le_of_ble_eq_true rfl) rfl (T_X4_home v1 u)
def F_X4_stops_89 (k45 : Int32 → Int32 → Int32 → XM → Option (Int32 × XM)) (v1 : Int32) (v2 : Int32) (v3 : Int32) (u : XM) : Option (Int32 × XM) := k45 v1 v2 (v3 + 1) u
set_option maxRecDepth 20000 in
set_option maxHeartbeats 4000000 in
theorem T_X4_stops_89 (k45 : Int32 → Int32 → Int32 → XM → Option (Int32 × XM)) (hk45 : ∀ (v1 : Int32) (v2 : Int32) (v3 : Int32) (u : XM), GF E0 YY 4 yX4_stops cX4_stops 4 (some .int) 45 [some (.ref 0), some (.int v1), some (.int v2), some (.int v3)] [] u emI (k45 v1 v2 v3 u)) (v1 : Int32) (v2 : Int32) (v3 : Int32) (u : XM) : GF E0 YY 4 yX4_stops cX4_stops 4 (some .int) 89 [some (.ref 0), some (.int v1), some (.int v2), some (.int v3)] [] u emI (F_X4_stops_89 k45 v1 v2 v3 u) := by
  unfold F_X4_stops_89
  refine gf_iinc (v := (v3 + 1)) (lv2 := [some (.ref 0), some (.int v1), some (.int v2), some (.int (v3 + 1))]) (q := 92) dX4_stops_89 rfl (congrArg _ ki_1) (by decide) rfl rfl ?_
  refine gf_goto (q := 45) dX4_stops_92 (by decide) ?_
  exact (hk45 v1 v2 (v3 + 1) u)
def F_X4_stops_45 : Nat → Int32 → Int32 → Int32 → XM → Option (Int32 × XM)
  | 0, _, _, _, _ => none
  | n + 1, v1, v2, v3, u => (if (mi u 22 6) ≤ v3 then some (v2, u) else (if v3 = v1 then F_X4_stops_89 (F_X4_stops_45 n) v1 v2 v3 u else (Option.bind (F_X0_isTaken v3 u) (fun x1 => (if x1.1 = 0 then (Option.bind (F_X4_stepsHome v1 v3 x1.2) (fun x2 => (if x2.1 = (-9) then F_X4_stops_89 (F_X4_stops_45 n) v1 v2 v3 x2.2 else F_X4_stops_89 (F_X4_stops_45 n) v1 (v2 ||| (1 <<< (v3 &&& 31))) v3 x2.2))) else F_X4_stops_89 (F_X4_stops_45 n) v1 v2 v3 x1.2)))))
set_option maxRecDepth 20000 in
set_option maxHeartbeats 4000000 in
theorem T_X4_stops_45 : ∀ (n : Nat) (v1 : Int32) (v2 : Int32) (v3 : Int32) (u : XM), GF E0 YY 4 yX4_stops cX4_stops 4 (some .int) 45 [some (.ref 0), some (.int v1), some (.int v2), some (.int v3)] [] u emI (F_X4_stops_45 n v1 v2 v3 u) := by
  intro n
  induction n with
  | zero => intro v1 v2 v3 u; exact gf_none
  | succ n ih =>
    intro v1 v2 v3 u
    unfold F_X4_stops_45
    refine gf_iload_n (i := 3) (q := 46) dX4_stops_45 rfl rfl rfl ?_
    refine gf_aload_n (i := 0) (q := 47) dX4_stops_46 rfl rfl rfl ?_
    refine gf_getA (C := RX4) (T := TX4) (N := 15) (ci := 4) (k := 0) (j := 7) (t := 22) (q := 50) dX4_stops_47 rfl rfl kin4 (by decide) kw134 rfl rfl ?_
    refine gf_getI (C := RX0) (T := TX0) (N := 12) (ci := 0) (k := 22) (j := 6) (q := 53) dX4_stops_50 rfl rfl kin0 (by decide) kw61 rfl rfl ?_
    refine gf_icmp_ge (t := 95) (q := 56) dX4_stops_53 (by decide) rfl ?_ ?_
    · refine gf_iload_n (i := 2) (q := 96) dX4_stops_95 rfl rfl rfl ?_
      exact gf_reti dX4_stops_96 rfl
    · refine gf_iload_n (i := 3) (q := 57) dX4_stops_56 rfl rfl rfl ?_
      refine gf_iload_n (i := 1) (q := 58) dX4_stops_57 rfl rfl rfl ?_
      refine gf_icmp_eq (t := 89) (q := 61) dX4_stops_58 (by decide) rfl ?_ ?_
      · exact (T_X4_stops_89 (F_X4_stops_45 n) ih v1 v2 v3 u)
      · refine gf_aload_n (i := 0) (q := 62) dX4_stops_61 rfl rfl rfl ?_
        refine gf_getA (C := RX4) (T := TX4) (N := 15) (ci := 4) (k := 0) (j := 7) (t := 22) (q := 65) dX4_stops_62 rfl rfl kin4 (by decide) kw134 rfl rfl ?_
        refine gf_iload_n (i := 3) (q := 66) dX4_stops_65 rfl rfl rfl ?_
        refine gf_callV_i (n2 := 1) (As := [.int v3]) (st := []) (b := 22) (ci := 0) (C := RX0) (q := 69) (hlen := rfl) rfl rfl kw394 kw277 kw278 dX4_stops_66 kw279 kw3 (by decide +kernel) (by decide) (Nat.le_of_ble_eq_true rfl) (C_X0_isTaken v3 u) rfl rfl (fun x1 => ?_)
        refine gf_if_ne (t := 89) (q := 72) dX4_stops_69 (by decide) rfl ?_ ?_
        · refine gf_aload_n (i := 0) (q := 73) dX4_stops_72 rfl rfl rfl ?_
          refine gf_iload_n (i := 1) (q := 74) dX4_stops_73 rfl rfl rfl ?_
          refine gf_iload_n (i := 3) (q := 75) dX4_stops_74 rfl rfl rfl ?_
          refine gf_callV_i (n2 := 2) (As := [.int v1, .int v3]) (st := []) (b := 0) (ci := 4) (C := RX4) (q := 78) (hlen := rfl) rfl rfl kw469 kw471 kp6 dX4_stops_75 kw472 kw1 (by decide +kernel) (by decide) (Nat.le_of_ble_eq_true rfl) (C_X4_stepsHome v1 v3 x1.2) rfl rfl (fun x2 => ?_)
          refine gf_bipush (q := 80) dX4_stops_78 kb_m9 rfl ?_
          refine gf_icmp_eq (t := 89) (q := 83) dX4_stops_80 (by decide) rfl ?_ ?_
          · exact (T_X4_stops_89 (F_X4_stops_45 n) ih v1 v2 v3 x2.2)
          · refine gf_iload_n (i := 2) (q := 84) dX4_stops_83 rfl rfl rfl ?_
            refine gf_iconst (q := 85) dX4_stops_84 ki_1 rfl ?_
            refine gf_iload_n (i := 3) (q := 86) dX4_stops_85 rfl rfl rfl ?_
            refine gf_ishl (q := 87) dX4_stops_86 rfl ?_
            refine gf_ior (q := 88) dX4_stops_87 rfl ?_
            refine gf_istore_n (i := 2) (lv2 := [some (.ref 0), some (.int v1), some (.int (v2 ||| (1 <<< (v3 &&& 31)))), some (.int v3)]) (q := 89) dX4_stops_88 rfl (by decide) rfl rfl ?_
            exact (T_X4_stops_89 (F_X4_stops_45 n) ih v1 (v2 ||| (1 <<< (v3 &&& 31))) v3 x2.2)
        · exact (T_X4_stops_89 (F_X4_stops_45 n) ih v1 v2 v3 x1.2)
def F_X4_stops (v1 : Int32) (u : XM) : Option (Int32 × XM) := (Option.bind (F_X0_has v1 u) (fun x3 => (if x3.1 = 0 then some ((-1), x3.2) else (Option.bind (F_X0_isTaken v1 x3.2) (fun x4 => (if x4.1 = 0 then (Option.bind (F_X4_stepsHome v1 (-9) x4.2) (fun x5 => (if x5.1 = (-9) then F_X4_stops_45 FU v1 0 0 x5.2 else some (0, x5.2)))) else some ((-4), x4.2)))))))
set_option maxRecDepth 20000 in
set_option maxHeartbeats 4000000 in
theorem T_X4_stops (v1 : Int32) (u : XM) : GF E0 YY 4 yX4_stops cX4_stops 4 (some .int) 0 [some (.ref 0), some (.int v1), none, none] [] u emI (F_X4_stops v1 u) := by
  unfold F_X4_stops
  refine gf_aload_n (i := 0) (q := 1) dX4_stops_0 rfl rfl rfl ?_
  refine gf_getA (C := RX4) (T := TX4) (N := 15) (ci := 4) (k := 0) (j := 7) (t := 22) (q := 4) dX4_stops_1 rfl rfl kin4 (by decide) kw134 rfl rfl ?_
  refine gf_iload_n (i := 1) (q := 5) dX4_stops_4 rfl rfl rfl ?_
  refine gf_callV_i (n2 := 1) (As := [.int v1]) (st := []) (b := 22) (ci := 0) (C := RX0) (q := 8) (hlen := rfl) rfl rfl kw303 kw269 kw270 dX4_stops_5 kw271 kw3 (by decide +kernel) (by decide) (Nat.le_of_ble_eq_true rfl) (C_X0_has v1 u) rfl rfl (fun x3 => ?_)
  refine gf_if_ne (t := 13) (q := 11) dX4_stops_8 (by decide) rfl ?_ ?_
  · refine gf_iconst (q := 12) dX4_stops_11 ki_m1 rfl ?_
    exact gf_reti dX4_stops_12 rfl
  · refine gf_aload_n (i := 0) (q := 14) dX4_stops_13 rfl rfl rfl ?_
    refine gf_getA (C := RX4) (T := TX4) (N := 15) (ci := 4) (k := 0) (j := 7) (t := 22) (q := 17) dX4_stops_14 rfl rfl kin4 (by decide) kw134 rfl rfl ?_
    refine gf_iload_n (i := 1) (q := 18) dX4_stops_17 rfl rfl rfl ?_
    refine gf_callV_i (n2 := 1) (As := [.int v1]) (st := []) (b := 22) (ci := 0) (C := RX0) (q := 21) (hlen := rfl) rfl rfl kw394 kw277 kw278 dX4_stops_18 kw279 kw3 (by decide +kernel) (by decide) (Nat.le_of_ble_eq_true rfl) (C_X0_isTaken v1 x3.2) rfl rfl (fun x4 => ?_)
    refine gf_if_eq (t := 27) (q := 24) dX4_stops_21 (by decide) rfl ?_ ?_
    · refine gf_aload_n (i := 0) (q := 28) dX4_stops_27 rfl rfl rfl ?_
      refine gf_iload_n (i := 1) (q := 29) dX4_stops_28 rfl rfl rfl ?_
      refine gf_bipush (q := 31) dX4_stops_29 kb_m9 rfl ?_
      refine gf_callV_i (n2 := 2) (As := [.int v1, .int (-9)]) (st := []) (b := 0) (ci := 4) (C := RX4) (q := 34) (hlen := rfl) rfl rfl kw469 kw471 kp6 dX4_stops_31 kw472 kw1 (by decide +kernel) (by decide) (Nat.le_of_ble_eq_true rfl) (C_X4_stepsHome v1 (-9) x4.2) rfl rfl (fun x5 => ?_)
      refine gf_bipush (q := 36) dX4_stops_34 kb_m9 rfl ?_
      refine gf_icmp_eq (t := 41) (q := 39) dX4_stops_36 (by decide) rfl ?_ ?_
      · refine gf_iconst (q := 42) dX4_stops_41 ki_0 rfl ?_
        refine gf_istore_n (i := 2) (lv2 := [some (.ref 0), some (.int v1), some (.int 0), none]) (q := 43) dX4_stops_42 rfl (by decide) rfl rfl ?_
        refine gf_iconst (q := 44) dX4_stops_43 ki_0 rfl ?_
        refine gf_istore_n (i := 3) (lv2 := [some (.ref 0), some (.int v1), some (.int 0), some (.int 0)]) (q := 45) dX4_stops_44 rfl (by decide) rfl rfl ?_
        exact (T_X4_stops_45 FU v1 0 0 x5.2)
      · refine gf_iconst (q := 40) dX4_stops_39 ki_0 rfl ?_
        exact gf_reti dX4_stops_40 rfl
    · refine gf_bipush (q := 26) dX4_stops_24 kb_m4 rfl ?_
      exact gf_reti dX4_stops_26 rfl
theorem C_X4_stops (v1 : Int32) (u : XM) : CF YY 4 yX4_stops cX4_stops 4 (some .int) [.ref 0, .int v1] u emI (F_X4_stops v1 u) := cf_of (by decide +kernel) (Nat.le_of_ble_eq_true rfl) rfl (T_X4_stops v1 u)
def F_X4_pairsFinding_30 : Nat → Int32 → Int32 → Int32 → XM → Option (Int32 × XM)
  | 0, _, _, _, _ => none
  | n + 1, v1, v2, v3, u => (if v2 ≤ (v3 + 1) then some (0, u) else (if ain YY 3 1 v1 = true then (if ain YY 0 (2 + Int32.toNatClampNeg v1) v3 = true then (if (mi u (2 + Int32.toNatClampNeg v1) (Int32.toNatClampNeg v3)) < 0 then some (3, u) else (if ain YY 3 1 v1 = true then (if ain YY 0 (2 + Int32.toNatClampNeg v1) v3 = true then (if 20 < (mi u (2 + Int32.toNatClampNeg v1) (Int32.toNatClampNeg v3)) then some (3, u) else (if ain YY 3 1 v1 = true then (if ain YY 0 (2 + Int32.toNatClampNeg v1) (v3 + 1) = true then (Option.bind (F_X4_isCell (mi u (2 + Int32.toNatClampNeg v1) (Int32.toNatClampNeg (v3 + 1))) u) (fun x1 => (if x1.1 = 0 then some (3, x1.2) else F_X4_pairsFinding_30 n v1 v2 (v3 + 2) x1.2))) else none) else none)) else none) else none)) else none) else none))
set_option maxRecDepth 20000 in
set_option maxHeartbeats 4000000 in
theorem T_X4_pairsFinding_30 : ∀ (n : Nat) (v1 : Int32) (v2 : Int32) (v3 : Int32) (u : XM), GF E0 YY 2 yX4_pairsFinding cX4_pairsFinding 4 (some .int) 30 [some (.ref 0), some (.int v1), some (.int v2), some (.int v3)] [] u emI (F_X4_pairsFinding_30 n v1 v2 v3 u) := by
  intro n
  induction n with
  | zero => intro v1 v2 v3 u; exact gf_none
  | succ n ih =>
    intro v1 v2 v3 u
    unfold F_X4_pairsFinding_30
    refine gf_iload_n (i := 3) (q := 31) dX4_pairsFinding_30 rfl rfl rfl ?_
    refine gf_iconst (q := 32) dX4_pairsFinding_31 ki_1 rfl ?_
    refine gf_iadd (q := 33) dX4_pairsFinding_32 rfl ?_
    refine gf_iload_n (i := 2) (q := 34) dX4_pairsFinding_33 rfl rfl rfl ?_
    refine gf_icmp_ge (t := 85) (q := 37) dX4_pairsFinding_34 (by decide) rfl ?_ ?_
    · refine gf_iconst (q := 86) dX4_pairsFinding_85 ki_0 rfl ?_
      exact gf_reti dX4_pairsFinding_86 rfl
    · refine gf_aload_n (i := 0) (q := 38) dX4_pairsFinding_37 rfl rfl rfl ?_
      refine gf_getA (C := RX4) (T := TX4) (N := 15) (ci := 4) (k := 0) (j := 0) (t := 1) (q := 41) dX4_pairsFinding_38 rfl rfl kin4 (by decide) kw127 rfl rfl ?_
      refine gf_iload_n (i := 1) (q := 42) dX4_pairsFinding_41 rfl rfl rfl ?_
      refine gf_aald3 (n := 6) (b := 2) (q := 43) dX4_pairsFinding_42 rfl rfl ?_
      refine gf_iload_n (i := 3) (q := 44) dX4_pairsFinding_43 rfl rfl rfl ?_
      refine gf_iald (q := 45) dX4_pairsFinding_44 rfl ?_
      refine gf_if_lt (t := 77) (q := 48) dX4_pairsFinding_45 (by decide) rfl ?_ ?_
      · refine gf_iconst (q := 78) dX4_pairsFinding_77 ki_3 rfl ?_
        exact gf_reti dX4_pairsFinding_78 rfl
      · refine gf_aload_n (i := 0) (q := 49) dX4_pairsFinding_48 rfl rfl rfl ?_
        refine gf_getA (C := RX4) (T := TX4) (N := 15) (ci := 4) (k := 0) (j := 0) (t := 1) (q := 52) dX4_pairsFinding_49 rfl rfl kin4 (by decide) kw127 rfl rfl ?_
        refine gf_iload_n (i := 1) (q := 53) dX4_pairsFinding_52 rfl rfl rfl ?_
        refine gf_aald3 (n := 6) (b := 2) (q := 54) dX4_pairsFinding_53 rfl rfl ?_
        refine gf_iload_n (i := 3) (q := 55) dX4_pairsFinding_54 rfl rfl rfl ?_
        refine gf_iald (q := 56) dX4_pairsFinding_55 rfl ?_
        refine gf_bipush (q := 58) dX4_pairsFinding_56 kb_20 rfl ?_
        refine gf_icmp_gt (t := 77) (q := 61) dX4_pairsFinding_58 (by decide) rfl ?_ ?_
        · refine gf_iconst (q := 78) dX4_pairsFinding_77 ki_3 rfl ?_
          exact gf_reti dX4_pairsFinding_78 rfl
        · refine gf_aload_n (i := 0) (q := 62) dX4_pairsFinding_61 rfl rfl rfl ?_
          refine gf_getA (C := RX4) (T := TX4) (N := 15) (ci := 4) (k := 0) (j := 0) (t := 1) (q := 65) dX4_pairsFinding_62 rfl rfl kin4 (by decide) kw127 rfl rfl ?_
          refine gf_iload_n (i := 1) (q := 66) dX4_pairsFinding_65 rfl rfl rfl ?_
          refine gf_aald3 (n := 6) (b := 2) (q := 67) dX4_pairsFinding_66 rfl rfl ?_
          refine gf_iload_n (i := 3) (q := 68) dX4_pairsFinding_67 rfl rfl rfl ?_
          refine gf_iconst (q := 69) dX4_pairsFinding_68 ki_1 rfl ?_
          refine gf_iadd (q := 70) dX4_pairsFinding_69 rfl ?_
          refine gf_iald (q := 71) dX4_pairsFinding_70 rfl ?_
          refine gf_callS_i (n2 := 1) (As := [.int (mi u (2 + Int32.toNatClampNeg v1) (Int32.toNatClampNeg (v3 + 1)))]) (st := []) (q := 74) (hlen := rfl) kw338 kw339 dX4_pairsFinding_71 kw340 kw1 (by decide +kernel) (by decide) (Nat.le_of_ble_eq_true rfl) (C_X4_isCell (mi u (2 + Int32.toNatClampNeg v1) (Int32.toNatClampNeg (v3 + 1))) u) rfl rfl (fun x1 => ?_)
          refine gf_if_ne (t := 79) (q := 77) dX4_pairsFinding_74 (by decide) rfl ?_ ?_
          · refine gf_iconst (q := 78) dX4_pairsFinding_77 ki_3 rfl ?_
            exact gf_reti dX4_pairsFinding_78 rfl
          · refine gf_iinc (v := (v3 + 2)) (lv2 := [some (.ref 0), some (.int v1), some (.int v2), some (.int (v3 + 2))]) (q := 82) dX4_pairsFinding_79 rfl (congrArg _ ki_2) (by decide) rfl rfl ?_
            refine gf_goto (q := 30) dX4_pairsFinding_82 (by decide) ?_
            exact (ih v1 v2 (v3 + 2) x1.2)
def F_X4_pairsFinding (v1 : Int32) (u : XM) : Option (Int32 × XM) := (if ain YY 0 8 v1 = true then (if (mi u 8 (Int32.toNatClampNeg v1)) = (-1) then some (1, u) else (if 12 < (mi u 8 (Int32.toNatClampNeg v1)) then some (5, u) else (if ((mi u 8 (Int32.toNatClampNeg v1)) - (mi u 8 (Int32.toNatClampNeg v1)) / 2 * 2) = 0 then F_X4_pairsFinding_30 FU v1 (mi u 8 (Int32.toNatClampNeg v1)) 0 u else some (5, u)))) else none)
set_option maxRecDepth 20000 in
set_option maxHeartbeats 4000000 in
theorem T_X4_pairsFinding (v1 : Int32) (u : XM) : GF E0 YY 2 yX4_pairsFinding cX4_pairsFinding 4 (some .int) 0 [some (.ref 0), some (.int v1), none, none] [] u emI (F_X4_pairsFinding v1 u) := by
  unfold F_X4_pairsFinding
  refine gf_aload_n (i := 0) (q := 1) dX4_pairsFinding_0 rfl rfl rfl ?_
  refine gf_getA (C := RX4) (T := TX4) (N := 15) (ci := 4) (k := 0) (j := 1) (t := 8) (q := 4) dX4_pairsFinding_1 rfl rfl kin4 (by decide) kw128 rfl rfl ?_
  refine gf_iload_n (i := 1) (q := 5) dX4_pairsFinding_4 rfl rfl rfl ?_
  refine gf_iald (q := 6) dX4_pairsFinding_5 rfl ?_
  refine gf_istore_n (i := 2) (lv2 := [some (.ref 0), some (.int v1), some (.int (mi u 8 (Int32.toNatClampNeg v1))), none]) (q := 7) dX4_pairsFinding_6 rfl (by decide) rfl rfl ?_
  refine gf_iload_n (i := 2) (q := 8) dX4_pairsFinding_7 rfl rfl rfl ?_
  refine gf_iconst (q := 9) dX4_pairsFinding_8 ki_m1 rfl ?_
  refine gf_icmp_ne (t := 14) (q := 12) dX4_pairsFinding_9 (by decide) rfl ?_ ?_
  · refine gf_iconst (q := 13) dX4_pairsFinding_12 ki_1 rfl ?_
    exact gf_reti dX4_pairsFinding_13 rfl
  · refine gf_iload_n (i := 2) (q := 15) dX4_pairsFinding_14 rfl rfl rfl ?_
    refine gf_bipush (q := 17) dX4_pairsFinding_15 kb_12 rfl ?_
    refine gf_icmp_gt (t := 26) (q := 20) dX4_pairsFinding_17 (by decide) rfl ?_ ?_
    · refine gf_iconst (q := 27) dX4_pairsFinding_26 ki_5 rfl ?_
      exact gf_reti dX4_pairsFinding_27 rfl
    · refine gf_iload_n (i := 2) (q := 21) dX4_pairsFinding_20 rfl rfl rfl ?_
      refine gf_iconst (q := 22) dX4_pairsFinding_21 ki_2 rfl ?_
      refine gf_irem_c (q := 23) dX4_pairsFinding_22 (by decide) rfl ?_
      refine gf_if_eq (t := 28) (q := 26) dX4_pairsFinding_23 (by decide) rfl ?_ ?_
      · refine gf_iconst (q := 29) dX4_pairsFinding_28 ki_0 rfl ?_
        refine gf_istore_n (i := 3) (lv2 := [some (.ref 0), some (.int v1), some (.int (mi u 8 (Int32.toNatClampNeg v1))), some (.int 0)]) (q := 30) dX4_pairsFinding_29 rfl (by decide) rfl rfl ?_
        exact (T_X4_pairsFinding_30 FU v1 (mi u 8 (Int32.toNatClampNeg v1)) 0 u)
      · refine gf_iconst (q := 27) dX4_pairsFinding_26 ki_5 rfl ?_
        exact gf_reti dX4_pairsFinding_27 rfl
theorem C_X4_pairsFinding (v1 : Int32) (u : XM) : CF YY 2 yX4_pairsFinding cX4_pairsFinding 4 (some .int) [.ref 0, .int v1] u emI (F_X4_pairsFinding v1 u) := cf_of (by decide +kernel) (Nat.le_of_ble_eq_true rfl) rfl (T_X4_pairsFinding v1 u)
def F_X4_fitsPairs_3 : Nat → Int32 → Int32 → Int32 → Int32 → Int32 → XM → Option (Int32 × XM)
  | 0, _, _, _, _, _, _ => none
  | n + 1, v1, v2, v3, v4, v5, u => (if ain YY 0 8 v4 = true then (if (mi u 8 (Int32.toNatClampNeg v4)) ≤ (v5 + 1) then some (1, u) else (if ain YY 3 1 v4 = true then (if ain YY 0 (2 + Int32.toNatClampNeg v4) v5 = true then (Option.bind (F_X0_drifted v1 v2 v3 (mi u (2 + Int32.toNatClampNeg v4) (Int32.toNatClampNeg v5)) u) (fun x1 => (if ain YY 3 1 v4 = true then (if ain YY 0 (2 + Int32.toNatClampNeg v4) (v5 + 1) = true then (if x1.1 = (mi x1.2 (2 + Int32.toNatClampNeg v4) (Int32.toNatClampNeg (v5 + 1))) then F_X4_fitsPairs_3 n v1 v2 v3 v4 (v5 + 2) x1.2 else some (0, x1.2)) else none) else none))) else none) else none)) else none)
set_option maxRecDepth 20000 in
set_option maxHeartbeats 4000000 in
theorem T_X4_fitsPairs_3 : ∀ (n : Nat) (v1 : Int32) (v2 : Int32) (v3 : Int32) (v4 : Int32) (v5 : Int32) (u : XM), GF E0 YY 4 yX4_fitsPairs cX4_fitsPairs 6 (some .boolean) 3 [some (.ref 0), some (.int v1), some (.int v2), some (.int v3), some (.int v4), some (.int v5)] [] u emI (F_X4_fitsPairs_3 n v1 v2 v3 v4 v5 u) := by
  intro n
  induction n with
  | zero => intro v1 v2 v3 v4 v5 u; exact gf_none
  | succ n ih =>
    intro v1 v2 v3 v4 v5 u
    unfold F_X4_fitsPairs_3
    refine gf_iload (q := 5) dX4_fitsPairs_3 rfl rfl ?_
    refine gf_iconst (q := 6) dX4_fitsPairs_5 ki_1 rfl ?_
    refine gf_iadd (q := 7) dX4_fitsPairs_6 rfl ?_
    refine gf_aload_n (i := 0) (q := 8) dX4_fitsPairs_7 rfl rfl rfl ?_
    refine gf_getA (C := RX4) (T := TX4) (N := 15) (ci := 4) (k := 0) (j := 1) (t := 8) (q := 11) dX4_fitsPairs_8 rfl rfl kin4 (by decide) kw128 rfl rfl ?_
    refine gf_iload (q := 13) dX4_fitsPairs_11 rfl rfl ?_
    refine gf_iald (q := 14) dX4_fitsPairs_13 rfl ?_
    refine gf_icmp_ge (t := 60) (q := 17) dX4_fitsPairs_14 (by decide) rfl ?_ ?_
    · refine gf_iconst (q := 61) dX4_fitsPairs_60 ki_1 rfl ?_
      exact gf_retz dX4_fitsPairs_61 rfl rfl
    · refine gf_aload_n (i := 0) (q := 18) dX4_fitsPairs_17 rfl rfl rfl ?_
      refine gf_getA (C := RX4) (T := TX4) (N := 15) (ci := 4) (k := 0) (j := 7) (t := 22) (q := 21) dX4_fitsPairs_18 rfl rfl kin4 (by decide) kw134 rfl rfl ?_
      refine gf_iload_n (i := 1) (q := 22) dX4_fitsPairs_21 rfl rfl rfl ?_
      refine gf_iload_n (i := 2) (q := 23) dX4_fitsPairs_22 rfl rfl rfl ?_
      refine gf_iload_n (i := 3) (q := 24) dX4_fitsPairs_23 rfl rfl rfl ?_
      refine gf_aload_n (i := 0) (q := 25) dX4_fitsPairs_24 rfl rfl rfl ?_
      refine gf_getA (C := RX4) (T := TX4) (N := 15) (ci := 4) (k := 0) (j := 0) (t := 1) (q := 28) dX4_fitsPairs_25 rfl rfl kin4 (by decide) kw127 rfl rfl ?_
      refine gf_iload (q := 30) dX4_fitsPairs_28 rfl rfl ?_
      refine gf_aald3 (n := 6) (b := 2) (q := 31) dX4_fitsPairs_30 rfl rfl ?_
      refine gf_iload (q := 33) dX4_fitsPairs_31 rfl rfl ?_
      refine gf_iald (q := 34) dX4_fitsPairs_33 rfl ?_
      refine gf_callV_i (n2 := 4) (As := [.int v1, .int v2, .int v3, .int (mi u (2 + Int32.toNatClampNeg v4) (Int32.toNatClampNeg v5))]) (st := []) (b := 22) (ci := 0) (C := RX0) (q := 37) (hlen := rfl) rfl rfl kw499 kw400 kw401 dX4_fitsPairs_34 kw402 kw3 (by decide +kernel) (by decide) (Nat.le_of_ble_eq_true rfl) (C_X0_drifted v1 v2 v3 (mi u (2 + Int32.toNatClampNeg v4) (Int32.toNatClampNeg v5)) u) rfl rfl (fun x1 => ?_)
      refine gf_aload_n (i := 0) (q := 38) dX4_fitsPairs_37 rfl rfl rfl ?_
      refine gf_getA (C := RX4) (T := TX4) (N := 15) (ci := 4) (k := 0) (j := 0) (t := 1) (q := 41) dX4_fitsPairs_38 rfl rfl kin4 (by decide) kw127 rfl rfl ?_
      refine gf_iload (q := 43) dX4_fitsPairs_41 rfl rfl ?_
      refine gf_aald3 (n := 6) (b := 2) (q := 44) dX4_fitsPairs_43 rfl rfl ?_
      refine gf_iload (q := 46) dX4_fitsPairs_44 rfl rfl ?_
      refine gf_iconst (q := 47) dX4_fitsPairs_46 ki_1 rfl ?_
      refine gf_iadd (q := 48) dX4_fitsPairs_47 rfl ?_
      refine gf_iald (q := 49) dX4_fitsPairs_48 rfl ?_
      refine gf_icmp_eq (t := 54) (q := 52) dX4_fitsPairs_49 (by decide) rfl ?_ ?_
      · refine gf_iinc (v := (v5 + 2)) (lv2 := [some (.ref 0), some (.int v1), some (.int v2), some (.int v3), some (.int v4), some (.int (v5 + 2))]) (q := 57) dX4_fitsPairs_54 rfl (congrArg _ ki_2) (by decide) rfl rfl ?_
        refine gf_goto (q := 3) dX4_fitsPairs_57 (by decide) ?_
        exact (ih v1 v2 v3 v4 (v5 + 2) x1.2)
      · refine gf_iconst (q := 53) dX4_fitsPairs_52 ki_0 rfl ?_
        exact gf_retz dX4_fitsPairs_53 rfl rfl
def F_X4_fitsPairs (v1 : Int32) (v2 : Int32) (v3 : Int32) (v4 : Int32) (u : XM) : Option (Int32 × XM) := F_X4_fitsPairs_3 FU v1 v2 v3 v4 0 u
set_option maxRecDepth 20000 in
set_option maxHeartbeats 4000000 in
theorem T_X4_fitsPairs (v1 : Int32) (v2 : Int32) (v3 : Int32) (v4 : Int32) (u : XM) : GF E0 YY 4 yX4_fitsPairs cX4_fitsPairs 6 (some .boolean) 0 [some (.ref 0), some (.int v1), some (.int v2), some (.int v3), some (.int v4), none] [] u emI (F_X4_fitsPairs v1 v2 v3 v4 u) := by
  unfold F_X4_fitsPairs
  refine gf_iconst (q := 1) dX4_fitsPairs_0 ki_0 rfl ?_
  refine gf_istore (lv2 := [some (.ref 0), some (.int v1), some (.int v2), some (.int v3), some (.int v4), some (.int 0)]) (q := 3) dX4_fitsPairs_1 (by decide) rfl rfl ?_
  exact (T_X4_fitsPairs_3 FU v1 v2 v3 v4 0 u)
theorem C_X4_fitsPairs (v1 : Int32) (v2 : Int32) (v3 : Int32) (v4 : Int32) (u : XM) : CF YY 4 yX4_fitsPairs cX4_fitsPairs 6 (some .boolean) [.ref 0, .int v1, .int v2, .int v3, .int v4] u emI (F_X4_fitsPairs v1 v2 v3 v4 u) := cf_of (by decide +kernel) (Nat.le_of_ble_eq_true rfl) rfl (T_X4_fitsPairs v1 v2 v3 v4 u)
def F_X4_starts_86 (k42 : Int32 → Int32 → Int32 → Int32 → XM → Option (Int32 × XM)) (v1 : Int32) (v2 : Int32) (v4 : Int32) (v5 : Int32) (u : XM) : Option (Int32 × XM) := k42 v1 v2 v4 (v5 + 1) u
set_option maxRecDepth 20000 in
set_option maxHeartbeats 4000000 in
theorem T_X4_starts_86 (k42 : Int32 → Int32 → Int32 → Int32 → XM → Option (Int32 × XM)) (hk42 : ∀ (v1 : Int32) (v2 : Int32) (v4 : Int32) (v5 : Int32) (u : XM), GF E0 YY 5 yX4_starts cX4_starts 6 (some .int) 42 [some (.ref 0), some (.int v1), some (.int v2), none, some (.int v4), some (.int v5)] [] u emI (k42 v1 v2 v4 v5 u)) (v1 : Int32) (v2 : Int32) (v4 : Int32) (v5 : Int32) (u : XM) : GF E0 YY 5 yX4_starts cX4_starts 6 (some .int) 86 [some (.ref 0), some (.int v1), some (.int v2), none, some (.int v4), some (.int v5)] [] u emI (F_X4_starts_86 k42 v1 v2 v4 v5 u) := by
  unfold F_X4_starts_86
  refine gf_iinc (v := (v5 + 1)) (lv2 := [some (.ref 0), some (.int v1), some (.int v2), none, some (.int v4), some (.int (v5 + 1))]) (q := 89) dX4_starts_86 rfl (congrArg _ ki_1) (by decide) rfl rfl ?_
  refine gf_goto (q := 42) dX4_starts_89 (by decide) ?_
  exact (hk42 v1 v2 v4 (v5 + 1) u)
def F_X4_starts_42 : Nat → Int32 → Int32 → Int32 → Int32 → XM → Option (Int32 × XM)
  | 0, _, _, _, _, _ => none
  | n + 1, v1, v2, v4, v5, u => (if 8 ≤ v5 then some (v4, u) else (if ain YY 0 23 v1 = true then (if ain YY 0 26 v1 = true then (Option.bind (F_X4_fitsPairs (mi u 23 (Int32.toNatClampNeg v1)) (mi u 26 (Int32.toNatClampNeg v1)) v5 v2 u) (fun x1 => (if x1.1 = 0 then F_X4_starts_86 (F_X4_starts_42 n) v1 v2 v4 v5 x1.2 else F_X4_starts_86 (F_X4_starts_42 n) v1 v2 (v4 ||| (1 <<< (v5 &&& 31))) v5 x1.2))) else none) else none))
set_option maxRecDepth 20000 in
set_option maxHeartbeats 4000000 in
theorem T_X4_starts_42 : ∀ (n : Nat) (v1 : Int32) (v2 : Int32) (v4 : Int32) (v5 : Int32) (u : XM), GF E0 YY 5 yX4_starts cX4_starts 6 (some .int) 42 [some (.ref 0), some (.int v1), some (.int v2), none, some (.int v4), some (.int v5)] [] u emI (F_X4_starts_42 n v1 v2 v4 v5 u) := by
  intro n
  induction n with
  | zero => intro v1 v2 v4 v5 u; exact gf_none
  | succ n ih =>
    intro v1 v2 v4 v5 u
    unfold F_X4_starts_42
    refine gf_iload (q := 44) dX4_starts_42 rfl rfl ?_
    refine gf_bipush (q := 46) dX4_starts_44 kb_8 rfl ?_
    refine gf_icmp_ge (t := 92) (q := 49) dX4_starts_46 (by decide) rfl ?_ ?_
    · refine gf_iload (q := 94) dX4_starts_92 rfl rfl ?_
      exact gf_reti dX4_starts_94 rfl
    · refine gf_aload_n (i := 0) (q := 50) dX4_starts_49 rfl rfl rfl ?_
      refine gf_aload_n (i := 0) (q := 51) dX4_starts_50 rfl rfl rfl ?_
      refine gf_getA (C := RX4) (T := TX4) (N := 15) (ci := 4) (k := 0) (j := 7) (t := 22) (q := 54) dX4_starts_51 rfl rfl kin4 (by decide) kw134 rfl rfl ?_
      refine gf_getA (C := RX0) (T := TX0) (N := 12) (ci := 0) (k := 22) (j := 0) (t := 23) (q := 57) dX4_starts_54 rfl rfl kin0 (by decide) kw47 rfl rfl ?_
      refine gf_iload_n (i := 1) (q := 58) dX4_starts_57 rfl rfl rfl ?_
      refine gf_iald (q := 59) dX4_starts_58 rfl ?_
      refine gf_aload_n (i := 0) (q := 60) dX4_starts_59 rfl rfl rfl ?_
      refine gf_getA (C := RX4) (T := TX4) (N := 15) (ci := 4) (k := 0) (j := 7) (t := 22) (q := 63) dX4_starts_60 rfl rfl kin4 (by decide) kw134 rfl rfl ?_
      refine gf_getA (C := RX0) (T := TX0) (N := 12) (ci := 0) (k := 22) (j := 3) (t := 26) (q := 66) dX4_starts_63 rfl rfl kin0 (by decide) kw53 rfl rfl ?_
      refine gf_iload_n (i := 1) (q := 67) dX4_starts_66 rfl rfl rfl ?_
      refine gf_iald (q := 68) dX4_starts_67 rfl ?_
      refine gf_iload (q := 70) dX4_starts_68 rfl rfl ?_
      refine gf_iload_n (i := 2) (q := 71) dX4_starts_70 rfl rfl rfl ?_
      refine gf_callV_i (n2 := 4) (As := [.int (mi u 23 (Int32.toNatClampNeg v1)), .int (mi u 26 (Int32.toNatClampNeg v1)), .int v5, .int v2]) (st := []) (b := 0) (ci := 4) (C := RX4) (q := 74) (hlen := rfl) rfl rfl kw495 kw497 kp8 dX4_starts_71 kw498 kw1 (by decide +kernel) (by decide) (Nat.le_of_ble_eq_true rfl) (C_X4_fitsPairs (mi u 23 (Int32.toNatClampNeg v1)) (mi u 26 (Int32.toNatClampNeg v1)) v5 v2 u) rfl rfl (fun x1 => ?_)
      refine gf_if_eq (t := 86) (q := 77) dX4_starts_74 (by decide) rfl ?_ ?_
      · exact (T_X4_starts_86 (F_X4_starts_42 n) ih v1 v2 v4 v5 x1.2)
      · refine gf_iload (q := 79) dX4_starts_77 rfl rfl ?_
        refine gf_iconst (q := 80) dX4_starts_79 ki_1 rfl ?_
        refine gf_iload (q := 82) dX4_starts_80 rfl rfl ?_
        refine gf_ishl (q := 83) dX4_starts_82 rfl ?_
        refine gf_ior (q := 84) dX4_starts_83 rfl ?_
        refine gf_istore (lv2 := [some (.ref 0), some (.int v1), some (.int v2), none, some (.int (v4 ||| (1 <<< (v5 &&& 31)))), some (.int v5)]) (q := 86) dX4_starts_84 (by decide) rfl rfl ?_
        exact (T_X4_starts_86 (F_X4_starts_42 n) ih v1 v2 (v4 ||| (1 <<< (v5 &&& 31))) v5 x1.2)
def F_X4_starts (v1 : Int32) (v2 : Int32) (u : XM) : Option (Int32 × XM) := (Option.bind (F_X0_has v1 u) (fun x2 => (if x2.1 = 0 then some ((-1), x2.2) else (Option.bind (F_X4_isRow v2 x2.2) (fun x3 => (if x3.1 = 0 then some ((-1), x3.2) else (Option.bind (F_X4_pairsFinding v2 x3.2) (fun x4 => (if x4.1 = 0 then F_X4_starts_42 FU v1 v2 0 0 x4.2 else (Option.bind (F_X4_found x4.1 x4.2) (fun x5 => some (x5.1, x5.2))))))))))))
set_option maxRecDepth 20000 in
set_option maxHeartbeats 4000000 in
theorem T_X4_starts (v1 : Int32) (v2 : Int32) (u : XM) : GF E0 YY 5 yX4_starts cX4_starts 6 (some .int) 0 [some (.ref 0), some (.int v1), some (.int v2), none, none, none] [] u emI (F_X4_starts v1 v2 u) := by
  unfold F_X4_starts
  refine gf_aload_n (i := 0) (q := 1) dX4_starts_0 rfl rfl rfl ?_
  refine gf_getA (C := RX4) (T := TX4) (N := 15) (ci := 4) (k := 0) (j := 7) (t := 22) (q := 4) dX4_starts_1 rfl rfl kin4 (by decide) kw134 rfl rfl ?_
  refine gf_iload_n (i := 1) (q := 5) dX4_starts_4 rfl rfl rfl ?_
  refine gf_callV_i (n2 := 1) (As := [.int v1]) (st := []) (b := 22) (ci := 0) (C := RX0) (q := 8) (hlen := rfl) rfl rfl kw303 kw269 kw270 dX4_starts_5 kw271 kw3 (by decide +kernel) (by decide) (Nat.le_of_ble_eq_true rfl) (C_X0_has v1 u) rfl rfl (fun x2 => ?_)
  refine gf_if_eq (t := 18) (q := 11) dX4_starts_8 (by decide) rfl ?_ ?_
  · refine gf_iconst (q := 19) dX4_starts_18 ki_m1 rfl ?_
    exact gf_reti dX4_starts_19 rfl
  · refine gf_iload_n (i := 2) (q := 12) dX4_starts_11 rfl rfl rfl ?_
    refine gf_callS_i (n2 := 1) (As := [.int v2]) (st := []) (q := 15) (hlen := rfl) kw177 kw178 dX4_starts_12 kw179 kw1 (by decide +kernel) (by decide) (Nat.le_of_ble_eq_true rfl) (C_X4_isRow v2 x2.2) rfl rfl (fun x3 => ?_)
    refine gf_if_ne (t := 20) (q := 18) dX4_starts_15 (by decide) rfl ?_ ?_
    · refine gf_iconst (q := 19) dX4_starts_18 ki_m1 rfl ?_
      exact gf_reti dX4_starts_19 rfl
    · refine gf_aload_n (i := 0) (q := 21) dX4_starts_20 rfl rfl rfl ?_
      refine gf_iload_n (i := 2) (q := 22) dX4_starts_21 rfl rfl rfl ?_
      refine gf_callV_i (n2 := 1) (As := [.int v2]) (st := []) (b := 0) (ci := 4) (C := RX4) (q := 25) (hlen := rfl) rfl rfl kw491 kw493 kp7 dX4_starts_22 kw494 kw1 (by decide +kernel) (by decide) (Nat.le_of_ble_eq_true rfl) (C_X4_pairsFinding v2 x3.2) rfl rfl (fun x4 => ?_)
      refine gf_istore_n (i := 3) (lv2 := [some (.ref 0), some (.int v1), some (.int v2), some (.int x4.1), none, none]) (q := 26) dX4_starts_25 rfl (by decide) rfl rfl ?_
      refine gf_iload_n (i := 3) (q := 27) dX4_starts_26 rfl rfl rfl ?_
      refine gf_if_eq (t := 36) (q := 30) dX4_starts_27 (by decide) rfl ?_ ?_
      · refine gf_iconst (q := 37) dX4_starts_36 ki_0 rfl ?_
        refine gf_istore (lv2 := [some (.ref 0), some (.int v1), some (.int v2), some (.int x4.1), some (.int 0), none]) (q := 39) dX4_starts_37 (by decide) rfl rfl ?_
        refine gf_iconst (q := 40) dX4_starts_39 ki_0 rfl ?_
        refine gf_istore (lv2 := [some (.ref 0), some (.int v1), some (.int v2), some (.int x4.1), some (.int 0), some (.int 0)]) (q := 42) dX4_starts_40 (by decide) rfl rfl ?_
        exact gf_mask (b := [true, true, true, false, true, true]) rfl (T_X4_starts_42 FU v1 v2 0 0 x4.2)
      · refine gf_aload_n (i := 0) (q := 31) dX4_starts_30 rfl rfl rfl ?_
        refine gf_iload_n (i := 3) (q := 32) dX4_starts_31 rfl rfl rfl ?_
        refine gf_callV_i (n2 := 1) (As := [.int x4.1]) (st := []) (b := 0) (ci := 4) (C := RX4) (q := 35) (hlen := rfl) rfl rfl kw180 kw182 kp0 dX4_starts_32 kw183 kw1 (by decide +kernel) (by decide) (Nat.le_of_ble_eq_true rfl) (C_X4_found x4.1 x4.2) rfl rfl (fun x5 => ?_)
        exact gf_reti dX4_starts_35 rfl
theorem C_X4_starts (v1 : Int32) (v2 : Int32) (u : XM) : CF YY 5 yX4_starts cX4_starts 6 (some .int) [.ref 0, .int v1, .int v2] u emI (F_X4_starts v1 v2 u) := cf_of (by decide +kernel) (Nat.le_of_ble_eq_true rfl) rfl (T_X4_starts v1 v2 u)
def F_X4_weights_100 (k56 : Int32 → Int32 → Int32 → Int32 → XM → Option (Int32 × XM)) (v1 : Int32) (v2 : Int32) (v4 : Int32) (v5 : Int32) (u : XM) : Option (Int32 × XM) := k56 v1 v2 v4 (v5 + 1) u
set_option maxRecDepth 20000 in
set_option maxHeartbeats 4000000 in
theorem T_X4_weights_100 (k56 : Int32 → Int32 → Int32 → Int32 → XM → Option (Int32 × XM)) (hk56 : ∀ (v1 : Int32) (v2 : Int32) (v4 : Int32) (v5 : Int32) (u : XM), GF E0 YY 5 yX4_weights cX4_weights 6 (some .int) 56 [some (.ref 0), some (.int v1), some (.int v2), none, some (.int v4), some (.int v5)] [] u emI (k56 v1 v2 v4 v5 u)) (v1 : Int32) (v2 : Int32) (v4 : Int32) (v5 : Int32) (u : XM) : GF E0 YY 5 yX4_weights cX4_weights 6 (some .int) 100 [some (.ref 0), some (.int v1), some (.int v2), none, some (.int v4), some (.int v5)] [] u emI (F_X4_weights_100 k56 v1 v2 v4 v5 u) := by
  unfold F_X4_weights_100
  refine gf_iinc (v := (v5 + 1)) (lv2 := [some (.ref 0), some (.int v1), some (.int v2), none, some (.int v4), some (.int (v5 + 1))]) (q := 103) dX4_weights_100 rfl (congrArg _ ki_1) (by decide) rfl rfl ?_
  refine gf_goto (q := 56) dX4_weights_103 (by decide) ?_
  exact (hk56 v1 v2 v4 (v5 + 1) u)
def F_X4_weights_56 : Nat → Int32 → Int32 → Int32 → Int32 → XM → Option (Int32 × XM)
  | 0, _, _, _, _, _ => none
  | n + 1, v1, v2, v4, v5, u => (if 10 ≤ v5 then some (v4, u) else (if ain YY 0 23 v1 = true then (if ain YY 0 25 v1 = true then (Option.bind (F_X4_fitsPairs (mi u 23 (Int32.toNatClampNeg v1)) v5 (mi u 25 (Int32.toNatClampNeg v1)) v2 u) (fun x1 => (if x1.1 = 0 then F_X4_weights_100 (F_X4_weights_56 n) v1 v2 v4 v5 x1.2 else F_X4_weights_100 (F_X4_weights_56 n) v1 v2 (v4 ||| (1 <<< (v5 &&& 31))) v5 x1.2))) else none) else none))
set_option maxRecDepth 20000 in
set_option maxHeartbeats 4000000 in
theorem T_X4_weights_56 : ∀ (n : Nat) (v1 : Int32) (v2 : Int32) (v4 : Int32) (v5 : Int32) (u : XM), GF E0 YY 5 yX4_weights cX4_weights 6 (some .int) 56 [some (.ref 0), some (.int v1), some (.int v2), none, some (.int v4), some (.int v5)] [] u emI (F_X4_weights_56 n v1 v2 v4 v5 u) := by
  intro n
  induction n with
  | zero => intro v1 v2 v4 v5 u; exact gf_none
  | succ n ih =>
    intro v1 v2 v4 v5 u
    unfold F_X4_weights_56
    refine gf_iload (q := 58) dX4_weights_56 rfl rfl ?_
    refine gf_bipush (q := 60) dX4_weights_58 kb_10 rfl ?_
    refine gf_icmp_ge (t := 106) (q := 63) dX4_weights_60 (by decide) rfl ?_ ?_
    · refine gf_iload (q := 108) dX4_weights_106 rfl rfl ?_
      exact gf_reti dX4_weights_108 rfl
    · refine gf_aload_n (i := 0) (q := 64) dX4_weights_63 rfl rfl rfl ?_
      refine gf_aload_n (i := 0) (q := 65) dX4_weights_64 rfl rfl rfl ?_
      refine gf_getA (C := RX4) (T := TX4) (N := 15) (ci := 4) (k := 0) (j := 7) (t := 22) (q := 68) dX4_weights_65 rfl rfl kin4 (by decide) kw134 rfl rfl ?_
      refine gf_getA (C := RX0) (T := TX0) (N := 12) (ci := 0) (k := 22) (j := 0) (t := 23) (q := 71) dX4_weights_68 rfl rfl kin0 (by decide) kw47 rfl rfl ?_
      refine gf_iload_n (i := 1) (q := 72) dX4_weights_71 rfl rfl rfl ?_
      refine gf_iald (q := 73) dX4_weights_72 rfl ?_
      refine gf_iload (q := 75) dX4_weights_73 rfl rfl ?_
      refine gf_aload_n (i := 0) (q := 76) dX4_weights_75 rfl rfl rfl ?_
      refine gf_getA (C := RX4) (T := TX4) (N := 15) (ci := 4) (k := 0) (j := 7) (t := 22) (q := 79) dX4_weights_76 rfl rfl kin4 (by decide) kw134 rfl rfl ?_
      refine gf_getA (C := RX0) (T := TX0) (N := 12) (ci := 0) (k := 22) (j := 2) (t := 25) (q := 82) dX4_weights_79 rfl rfl kin0 (by decide) kw51 rfl rfl ?_
      refine gf_iload_n (i := 1) (q := 83) dX4_weights_82 rfl rfl rfl ?_
      refine gf_iald (q := 84) dX4_weights_83 rfl ?_
      refine gf_iload_n (i := 2) (q := 85) dX4_weights_84 rfl rfl rfl ?_
      refine gf_callV_i (n2 := 4) (As := [.int (mi u 23 (Int32.toNatClampNeg v1)), .int v5, .int (mi u 25 (Int32.toNatClampNeg v1)), .int v2]) (st := []) (b := 0) (ci := 4) (C := RX4) (q := 88) (hlen := rfl) rfl rfl kw495 kw497 kp8 dX4_weights_85 kw498 kw1 (by decide +kernel) (by decide) (Nat.le_of_ble_eq_true rfl) (C_X4_fitsPairs (mi u 23 (Int32.toNatClampNeg v1)) v5 (mi u 25 (Int32.toNatClampNeg v1)) v2 u) rfl rfl (fun x1 => ?_)
      refine gf_if_eq (t := 100) (q := 91) dX4_weights_88 (by decide) rfl ?_ ?_
      · exact (T_X4_weights_100 (F_X4_weights_56 n) ih v1 v2 v4 v5 x1.2)
      · refine gf_iload (q := 93) dX4_weights_91 rfl rfl ?_
        refine gf_iconst (q := 94) dX4_weights_93 ki_1 rfl ?_
        refine gf_iload (q := 96) dX4_weights_94 rfl rfl ?_
        refine gf_ishl (q := 97) dX4_weights_96 rfl ?_
        refine gf_ior (q := 98) dX4_weights_97 rfl ?_
        refine gf_istore (lv2 := [some (.ref 0), some (.int v1), some (.int v2), none, some (.int (v4 ||| (1 <<< (v5 &&& 31)))), some (.int v5)]) (q := 100) dX4_weights_98 (by decide) rfl rfl ?_
        exact (T_X4_weights_100 (F_X4_weights_56 n) ih v1 v2 (v4 ||| (1 <<< (v5 &&& 31))) v5 x1.2)
def F_X4_weights (v1 : Int32) (v2 : Int32) (u : XM) : Option (Int32 × XM) := (Option.bind (F_X0_has v1 u) (fun x2 => (if x2.1 = 0 then some ((-1), x2.2) else (Option.bind (F_X4_isRow v2 x2.2) (fun x3 => (if x3.1 = 0 then some ((-1), x3.2) else (Option.bind (F_X4_pairsFinding v2 x3.2) (fun x4 => (if x4.1 = 0 then (Option.bind (F_X0_isTaken v1 x4.2) (fun x5 => (if x5.1 = 0 then F_X4_weights_56 FU v1 v2 0 0 x5.2 else some ((-4), x5.2)))) else (Option.bind (F_X4_found x4.1 x4.2) (fun x6 => some (x6.1, x6.2))))))))))))
set_option maxRecDepth 20000 in
set_option maxHeartbeats 4000000 in
theorem T_X4_weights (v1 : Int32) (v2 : Int32) (u : XM) : GF E0 YY 5 yX4_weights cX4_weights 6 (some .int) 0 [some (.ref 0), some (.int v1), some (.int v2), none, none, none] [] u emI (F_X4_weights v1 v2 u) := by
  unfold F_X4_weights
  refine gf_aload_n (i := 0) (q := 1) dX4_weights_0 rfl rfl rfl ?_
  refine gf_getA (C := RX4) (T := TX4) (N := 15) (ci := 4) (k := 0) (j := 7) (t := 22) (q := 4) dX4_weights_1 rfl rfl kin4 (by decide) kw134 rfl rfl ?_
  refine gf_iload_n (i := 1) (q := 5) dX4_weights_4 rfl rfl rfl ?_
  refine gf_callV_i (n2 := 1) (As := [.int v1]) (st := []) (b := 22) (ci := 0) (C := RX0) (q := 8) (hlen := rfl) rfl rfl kw303 kw269 kw270 dX4_weights_5 kw271 kw3 (by decide +kernel) (by decide) (Nat.le_of_ble_eq_true rfl) (C_X0_has v1 u) rfl rfl (fun x2 => ?_)
  refine gf_if_eq (t := 18) (q := 11) dX4_weights_8 (by decide) rfl ?_ ?_
  · refine gf_iconst (q := 19) dX4_weights_18 ki_m1 rfl ?_
    exact gf_reti dX4_weights_19 rfl
  · refine gf_iload_n (i := 2) (q := 12) dX4_weights_11 rfl rfl rfl ?_
    refine gf_callS_i (n2 := 1) (As := [.int v2]) (st := []) (q := 15) (hlen := rfl) kw177 kw178 dX4_weights_12 kw179 kw1 (by decide +kernel) (by decide) (Nat.le_of_ble_eq_true rfl) (C_X4_isRow v2 x2.2) rfl rfl (fun x3 => ?_)
    refine gf_if_ne (t := 20) (q := 18) dX4_weights_15 (by decide) rfl ?_ ?_
    · refine gf_iconst (q := 19) dX4_weights_18 ki_m1 rfl ?_
      exact gf_reti dX4_weights_19 rfl
    · refine gf_aload_n (i := 0) (q := 21) dX4_weights_20 rfl rfl rfl ?_
      refine gf_iload_n (i := 2) (q := 22) dX4_weights_21 rfl rfl rfl ?_
      refine gf_callV_i (n2 := 1) (As := [.int v2]) (st := []) (b := 0) (ci := 4) (C := RX4) (q := 25) (hlen := rfl) rfl rfl kw491 kw493 kp7 dX4_weights_22 kw494 kw1 (by decide +kernel) (by decide) (Nat.le_of_ble_eq_true rfl) (C_X4_pairsFinding v2 x3.2) rfl rfl (fun x4 => ?_)
      refine gf_istore_n (i := 3) (lv2 := [some (.ref 0), some (.int v1), some (.int v2), some (.int x4.1), none, none]) (q := 26) dX4_weights_25 rfl (by decide) rfl rfl ?_
      refine gf_iload_n (i := 3) (q := 27) dX4_weights_26 rfl rfl rfl ?_
      refine gf_if_eq (t := 36) (q := 30) dX4_weights_27 (by decide) rfl ?_ ?_
      · refine gf_aload_n (i := 0) (q := 37) dX4_weights_36 rfl rfl rfl ?_
        refine gf_getA (C := RX4) (T := TX4) (N := 15) (ci := 4) (k := 0) (j := 7) (t := 22) (q := 40) dX4_weights_37 rfl rfl kin4 (by decide) kw134 rfl rfl ?_
        refine gf_iload_n (i := 1) (q := 41) dX4_weights_40 rfl rfl rfl ?_
        refine gf_callV_i (n2 := 1) (As := [.int v1]) (st := []) (b := 22) (ci := 0) (C := RX0) (q := 44) (hlen := rfl) rfl rfl kw394 kw277 kw278 dX4_weights_41 kw279 kw3 (by decide +kernel) (by decide) (Nat.le_of_ble_eq_true rfl) (C_X0_isTaken v1 x4.2) rfl rfl (fun x5 => ?_)
        refine gf_if_eq (t := 50) (q := 47) dX4_weights_44 (by decide) rfl ?_ ?_
        · refine gf_iconst (q := 51) dX4_weights_50 ki_0 rfl ?_
          refine gf_istore (lv2 := [some (.ref 0), some (.int v1), some (.int v2), some (.int x4.1), some (.int 0), none]) (q := 53) dX4_weights_51 (by decide) rfl rfl ?_
          refine gf_iconst (q := 54) dX4_weights_53 ki_0 rfl ?_
          refine gf_istore (lv2 := [some (.ref 0), some (.int v1), some (.int v2), some (.int x4.1), some (.int 0), some (.int 0)]) (q := 56) dX4_weights_54 (by decide) rfl rfl ?_
          exact gf_mask (b := [true, true, true, false, true, true]) rfl (T_X4_weights_56 FU v1 v2 0 0 x5.2)
        · refine gf_bipush (q := 49) dX4_weights_47 kb_m4 rfl ?_
          exact gf_reti dX4_weights_49 rfl
      · refine gf_aload_n (i := 0) (q := 31) dX4_weights_30 rfl rfl rfl ?_
        refine gf_iload_n (i := 3) (q := 32) dX4_weights_31 rfl rfl rfl ?_
        refine gf_callV_i (n2 := 1) (As := [.int x4.1]) (st := []) (b := 0) (ci := 4) (C := RX4) (q := 35) (hlen := rfl) rfl rfl kw180 kw182 kp0 dX4_weights_32 kw183 kw1 (by decide +kernel) (by decide) (Nat.le_of_ble_eq_true rfl) (C_X4_found x4.1 x4.2) rfl rfl (fun x6 => ?_)
        exact gf_reti dX4_weights_35 rfl
theorem C_X4_weights (v1 : Int32) (v2 : Int32) (u : XM) : CF YY 5 yX4_weights cX4_weights 6 (some .int) [.ref 0, .int v1, .int v2] u emI (F_X4_weights v1 v2 u) := cf_of (by decide +kernel) (Nat.le_of_ble_eq_true rfl) rfl (T_X4_weights v1 v2 u)
def F_X4_kinds_100 (k56 : Int32 → Int32 → Int32 → Int32 → XM → Option (Int32 × XM)) (v1 : Int32) (v2 : Int32) (v4 : Int32) (v5 : Int32) (u : XM) : Option (Int32 × XM) := k56 v1 v2 v4 (v5 + 1) u
set_option maxRecDepth 20000 in
set_option maxHeartbeats 4000000 in
theorem T_X4_kinds_100 (k56 : Int32 → Int32 → Int32 → Int32 → XM → Option (Int32 × XM)) (hk56 : ∀ (v1 : Int32) (v2 : Int32) (v4 : Int32) (v5 : Int32) (u : XM), GF E0 YY 5 yX4_kinds cX4_kinds 6 (some .int) 56 [some (.ref 0), some (.int v1), some (.int v2), none, some (.int v4), some (.int v5)] [] u emI (k56 v1 v2 v4 v5 u)) (v1 : Int32) (v2 : Int32) (v4 : Int32) (v5 : Int32) (u : XM) : GF E0 YY 5 yX4_kinds cX4_kinds 6 (some .int) 100 [some (.ref 0), some (.int v1), some (.int v2), none, some (.int v4), some (.int v5)] [] u emI (F_X4_kinds_100 k56 v1 v2 v4 v5 u) := by
  unfold F_X4_kinds_100
  refine gf_iinc (v := (v5 + 1)) (lv2 := [some (.ref 0), some (.int v1), some (.int v2), none, some (.int v4), some (.int (v5 + 1))]) (q := 103) dX4_kinds_100 rfl (congrArg _ ki_1) (by decide) rfl rfl ?_
  refine gf_goto (q := 56) dX4_kinds_103 (by decide) ?_
  exact (hk56 v1 v2 v4 (v5 + 1) u)
def F_X4_kinds_56 : Nat → Int32 → Int32 → Int32 → Int32 → XM → Option (Int32 × XM)
  | 0, _, _, _, _, _ => none
  | n + 1, v1, v2, v4, v5, u => (if 6 ≤ v5 then some (v4, u) else (if ain YY 0 26 v1 = true then (if ain YY 0 25 v1 = true then (Option.bind (F_X4_fitsPairs v5 (mi u 26 (Int32.toNatClampNeg v1)) (mi u 25 (Int32.toNatClampNeg v1)) v2 u) (fun x1 => (if x1.1 = 0 then F_X4_kinds_100 (F_X4_kinds_56 n) v1 v2 v4 v5 x1.2 else F_X4_kinds_100 (F_X4_kinds_56 n) v1 v2 (v4 ||| (1 <<< (v5 &&& 31))) v5 x1.2))) else none) else none))
set_option maxRecDepth 20000 in
set_option maxHeartbeats 4000000 in
theorem T_X4_kinds_56 : ∀ (n : Nat) (v1 : Int32) (v2 : Int32) (v4 : Int32) (v5 : Int32) (u : XM), GF E0 YY 5 yX4_kinds cX4_kinds 6 (some .int) 56 [some (.ref 0), some (.int v1), some (.int v2), none, some (.int v4), some (.int v5)] [] u emI (F_X4_kinds_56 n v1 v2 v4 v5 u) := by
  intro n
  induction n with
  | zero => intro v1 v2 v4 v5 u; exact gf_none
  | succ n ih =>
    intro v1 v2 v4 v5 u
    unfold F_X4_kinds_56
    refine gf_iload (q := 58) dX4_kinds_56 rfl rfl ?_
    refine gf_bipush (q := 60) dX4_kinds_58 kb_6 rfl ?_
    refine gf_icmp_ge (t := 106) (q := 63) dX4_kinds_60 (by decide) rfl ?_ ?_
    · refine gf_iload (q := 108) dX4_kinds_106 rfl rfl ?_
      exact gf_reti dX4_kinds_108 rfl
    · refine gf_aload_n (i := 0) (q := 64) dX4_kinds_63 rfl rfl rfl ?_
      refine gf_iload (q := 66) dX4_kinds_64 rfl rfl ?_
      refine gf_aload_n (i := 0) (q := 67) dX4_kinds_66 rfl rfl rfl ?_
      refine gf_getA (C := RX4) (T := TX4) (N := 15) (ci := 4) (k := 0) (j := 7) (t := 22) (q := 70) dX4_kinds_67 rfl rfl kin4 (by decide) kw134 rfl rfl ?_
      refine gf_getA (C := RX0) (T := TX0) (N := 12) (ci := 0) (k := 22) (j := 3) (t := 26) (q := 73) dX4_kinds_70 rfl rfl kin0 (by decide) kw53 rfl rfl ?_
      refine gf_iload_n (i := 1) (q := 74) dX4_kinds_73 rfl rfl rfl ?_
      refine gf_iald (q := 75) dX4_kinds_74 rfl ?_
      refine gf_aload_n (i := 0) (q := 76) dX4_kinds_75 rfl rfl rfl ?_
      refine gf_getA (C := RX4) (T := TX4) (N := 15) (ci := 4) (k := 0) (j := 7) (t := 22) (q := 79) dX4_kinds_76 rfl rfl kin4 (by decide) kw134 rfl rfl ?_
      refine gf_getA (C := RX0) (T := TX0) (N := 12) (ci := 0) (k := 22) (j := 2) (t := 25) (q := 82) dX4_kinds_79 rfl rfl kin0 (by decide) kw51 rfl rfl ?_
      refine gf_iload_n (i := 1) (q := 83) dX4_kinds_82 rfl rfl rfl ?_
      refine gf_iald (q := 84) dX4_kinds_83 rfl ?_
      refine gf_iload_n (i := 2) (q := 85) dX4_kinds_84 rfl rfl rfl ?_
      refine gf_callV_i (n2 := 4) (As := [.int v5, .int (mi u 26 (Int32.toNatClampNeg v1)), .int (mi u 25 (Int32.toNatClampNeg v1)), .int v2]) (st := []) (b := 0) (ci := 4) (C := RX4) (q := 88) (hlen := rfl) rfl rfl kw495 kw497 kp8 dX4_kinds_85 kw498 kw1 (by decide +kernel) (by decide) (Nat.le_of_ble_eq_true rfl) (C_X4_fitsPairs v5 (mi u 26 (Int32.toNatClampNeg v1)) (mi u 25 (Int32.toNatClampNeg v1)) v2 u) rfl rfl (fun x1 => ?_)
      refine gf_if_eq (t := 100) (q := 91) dX4_kinds_88 (by decide) rfl ?_ ?_
      · exact (T_X4_kinds_100 (F_X4_kinds_56 n) ih v1 v2 v4 v5 x1.2)
      · refine gf_iload (q := 93) dX4_kinds_91 rfl rfl ?_
        refine gf_iconst (q := 94) dX4_kinds_93 ki_1 rfl ?_
        refine gf_iload (q := 96) dX4_kinds_94 rfl rfl ?_
        refine gf_ishl (q := 97) dX4_kinds_96 rfl ?_
        refine gf_ior (q := 98) dX4_kinds_97 rfl ?_
        refine gf_istore (lv2 := [some (.ref 0), some (.int v1), some (.int v2), none, some (.int (v4 ||| (1 <<< (v5 &&& 31)))), some (.int v5)]) (q := 100) dX4_kinds_98 (by decide) rfl rfl ?_
        exact (T_X4_kinds_100 (F_X4_kinds_56 n) ih v1 v2 (v4 ||| (1 <<< (v5 &&& 31))) v5 x1.2)
def F_X4_kinds (v1 : Int32) (v2 : Int32) (u : XM) : Option (Int32 × XM) := (Option.bind (F_X0_has v1 u) (fun x2 => (if x2.1 = 0 then some ((-1), x2.2) else (Option.bind (F_X4_isRow v2 x2.2) (fun x3 => (if x3.1 = 0 then some ((-1), x3.2) else (Option.bind (F_X4_pairsFinding v2 x3.2) (fun x4 => (if x4.1 = 0 then (Option.bind (F_X0_isTaken v1 x4.2) (fun x5 => (if x5.1 = 0 then F_X4_kinds_56 FU v1 v2 0 0 x5.2 else some ((-4), x5.2)))) else (Option.bind (F_X4_found x4.1 x4.2) (fun x6 => some (x6.1, x6.2))))))))))))
set_option maxRecDepth 20000 in
set_option maxHeartbeats 4000000 in
theorem T_X4_kinds (v1 : Int32) (v2 : Int32) (u : XM) : GF E0 YY 5 yX4_kinds cX4_kinds 6 (some .int) 0 [some (.ref 0), some (.int v1), some (.int v2), none, none, none] [] u emI (F_X4_kinds v1 v2 u) := by
  unfold F_X4_kinds
  refine gf_aload_n (i := 0) (q := 1) dX4_kinds_0 rfl rfl rfl ?_
  refine gf_getA (C := RX4) (T := TX4) (N := 15) (ci := 4) (k := 0) (j := 7) (t := 22) (q := 4) dX4_kinds_1 rfl rfl kin4 (by decide) kw134 rfl rfl ?_
  refine gf_iload_n (i := 1) (q := 5) dX4_kinds_4 rfl rfl rfl ?_
  refine gf_callV_i (n2 := 1) (As := [.int v1]) (st := []) (b := 22) (ci := 0) (C := RX0) (q := 8) (hlen := rfl) rfl rfl kw303 kw269 kw270 dX4_kinds_5 kw271 kw3 (by decide +kernel) (by decide) (Nat.le_of_ble_eq_true rfl) (C_X0_has v1 u) rfl rfl (fun x2 => ?_)
  refine gf_if_eq (t := 18) (q := 11) dX4_kinds_8 (by decide) rfl ?_ ?_
  · refine gf_iconst (q := 19) dX4_kinds_18 ki_m1 rfl ?_
    exact gf_reti dX4_kinds_19 rfl
  · refine gf_iload_n (i := 2) (q := 12) dX4_kinds_11 rfl rfl rfl ?_
    refine gf_callS_i (n2 := 1) (As := [.int v2]) (st := []) (q := 15) (hlen := rfl) kw177 kw178 dX4_kinds_12 kw179 kw1 (by decide +kernel) (by decide) (Nat.le_of_ble_eq_true rfl) (C_X4_isRow v2 x2.2) rfl rfl (fun x3 => ?_)
    refine gf_if_ne (t := 20) (q := 18) dX4_kinds_15 (by decide) rfl ?_ ?_
    · refine gf_iconst (q := 19) dX4_kinds_18 ki_m1 rfl ?_
      exact gf_reti dX4_kinds_19 rfl
    · refine gf_aload_n (i := 0) (q := 21) dX4_kinds_20 rfl rfl rfl ?_
      refine gf_iload_n (i := 2) (q := 22) dX4_kinds_21 rfl rfl rfl ?_
      refine gf_callV_i (n2 := 1) (As := [.int v2]) (st := []) (b := 0) (ci := 4) (C := RX4) (q := 25) (hlen := rfl) rfl rfl kw491 kw493 kp7 dX4_kinds_22 kw494 kw1 (by decide +kernel) (by decide) (Nat.le_of_ble_eq_true rfl) (C_X4_pairsFinding v2 x3.2) rfl rfl (fun x4 => ?_)
      refine gf_istore_n (i := 3) (lv2 := [some (.ref 0), some (.int v1), some (.int v2), some (.int x4.1), none, none]) (q := 26) dX4_kinds_25 rfl (by decide) rfl rfl ?_
      refine gf_iload_n (i := 3) (q := 27) dX4_kinds_26 rfl rfl rfl ?_
      refine gf_if_eq (t := 36) (q := 30) dX4_kinds_27 (by decide) rfl ?_ ?_
      · refine gf_aload_n (i := 0) (q := 37) dX4_kinds_36 rfl rfl rfl ?_
        refine gf_getA (C := RX4) (T := TX4) (N := 15) (ci := 4) (k := 0) (j := 7) (t := 22) (q := 40) dX4_kinds_37 rfl rfl kin4 (by decide) kw134 rfl rfl ?_
        refine gf_iload_n (i := 1) (q := 41) dX4_kinds_40 rfl rfl rfl ?_
        refine gf_callV_i (n2 := 1) (As := [.int v1]) (st := []) (b := 22) (ci := 0) (C := RX0) (q := 44) (hlen := rfl) rfl rfl kw394 kw277 kw278 dX4_kinds_41 kw279 kw3 (by decide +kernel) (by decide) (Nat.le_of_ble_eq_true rfl) (C_X0_isTaken v1 x4.2) rfl rfl (fun x5 => ?_)
        refine gf_if_eq (t := 50) (q := 47) dX4_kinds_44 (by decide) rfl ?_ ?_
        · refine gf_iconst (q := 51) dX4_kinds_50 ki_0 rfl ?_
          refine gf_istore (lv2 := [some (.ref 0), some (.int v1), some (.int v2), some (.int x4.1), some (.int 0), none]) (q := 53) dX4_kinds_51 (by decide) rfl rfl ?_
          refine gf_iconst (q := 54) dX4_kinds_53 ki_0 rfl ?_
          refine gf_istore (lv2 := [some (.ref 0), some (.int v1), some (.int v2), some (.int x4.1), some (.int 0), some (.int 0)]) (q := 56) dX4_kinds_54 (by decide) rfl rfl ?_
          exact gf_mask (b := [true, true, true, false, true, true]) rfl (T_X4_kinds_56 FU v1 v2 0 0 x5.2)
        · refine gf_bipush (q := 49) dX4_kinds_47 kb_m4 rfl ?_
          exact gf_reti dX4_kinds_49 rfl
      · refine gf_aload_n (i := 0) (q := 31) dX4_kinds_30 rfl rfl rfl ?_
        refine gf_iload_n (i := 3) (q := 32) dX4_kinds_31 rfl rfl rfl ?_
        refine gf_callV_i (n2 := 1) (As := [.int x4.1]) (st := []) (b := 0) (ci := 4) (C := RX4) (q := 35) (hlen := rfl) rfl rfl kw180 kw182 kp0 dX4_kinds_32 kw183 kw1 (by decide +kernel) (by decide) (Nat.le_of_ble_eq_true rfl) (C_X4_found x4.1 x4.2) rfl rfl (fun x6 => ?_)
        exact gf_reti dX4_kinds_35 rfl
theorem C_X4_kinds (v1 : Int32) (v2 : Int32) (u : XM) : CF YY 5 yX4_kinds cX4_kinds 6 (some .int) [.ref 0, .int v1, .int v2] u emI (F_X4_kinds v1 v2 u) := cf_of (by decide +kernel) (Nat.le_of_ble_eq_true rfl) rfl (T_X4_kinds v1 v2 u)
def F_X4_outcome_102 (kR : Int32 → Int32 → Int32 → Int32 → XM → Option (Int32 × XM)) (k45 : Int32 → Int32 → Int32 → Int32 → Int32 → Int32 → Int32 → XM → Option (Int32 × XM)) (v0 : Int32) (v1 : Int32) (v2 : Int32) (v3 : Int32) (v4 : Int32) (v5 : Int32) (v6 : Int32) (u : XM) : Option (Int32 × XM) := k45 v0 v1 v2 v3 v4 v5 (v6 + 2) u
set_option maxRecDepth 20000 in
set_option maxHeartbeats 4000000 in
theorem T_X4_outcome_102 (kR : Int32 → Int32 → Int32 → Int32 → XM → Option (Int32 × XM)) (d dR : Nat) (hdR : dR < d) (hdB : 2 ≤ d) (hR : ∀ (v0 : Int32) (v1 : Int32) (v2 : Int32) (v3 : Int32) (u : XM), CF YY dR yX4_outcome cX4_outcome 8 (some .int) [.int v0, .int v1, .int v2, .int v3] u emI (kR v0 v1 v2 v3 u)) (k45 : Int32 → Int32 → Int32 → Int32 → Int32 → Int32 → Int32 → XM → Option (Int32 × XM)) (hk45 : ∀ (v0 : Int32) (v1 : Int32) (v2 : Int32) (v3 : Int32) (v4 : Int32) (v5 : Int32) (v6 : Int32) (u : XM), GF E0 YY d yX4_outcome cX4_outcome 8 (some .int) 45 [some (.int v0), some (.int v1), some (.int v2), some (.int v3), some (.int v4), some (.int v5), some (.int v6), none] [] u emI (k45 v0 v1 v2 v3 v4 v5 v6 u)) (v0 : Int32) (v1 : Int32) (v2 : Int32) (v3 : Int32) (v4 : Int32) (v5 : Int32) (v6 : Int32) (u : XM) : GF E0 YY d yX4_outcome cX4_outcome 8 (some .int) 102 [some (.int v0), some (.int v1), some (.int v2), some (.int v3), some (.int v4), some (.int v5), some (.int v6), none] [] u emI (F_X4_outcome_102 kR k45 v0 v1 v2 v3 v4 v5 v6 u) := by
  unfold F_X4_outcome_102
  refine gf_iinc (v := (v6 + 2)) (lv2 := [some (.int v0), some (.int v1), some (.int v2), some (.int v3), some (.int v4), some (.int v5), some (.int (v6 + 2)), none]) (q := 105) dX4_outcome_102 rfl (congrArg _ ki_2) (by decide) rfl rfl ?_
  refine gf_goto (q := 45) dX4_outcome_105 (by decide) ?_
  exact (hk45 v0 v1 v2 v3 v4 v5 (v6 + 2) u)
def F_X4_outcome_100 (kR : Int32 → Int32 → Int32 → Int32 → XM → Option (Int32 × XM)) (k45 : Int32 → Int32 → Int32 → Int32 → Int32 → Int32 → Int32 → XM → Option (Int32 × XM)) (v0 : Int32) (v1 : Int32) (v2 : Int32) (v3 : Int32) (v4 : Int32) (v6 : Int32) (s0 : Int32) (u : XM) : Option (Int32 × XM) := F_X4_outcome_102 kR (k45) v0 v1 v2 v3 v4 s0 v6 u
set_option maxRecDepth 20000 in
set_option maxHeartbeats 4000000 in
theorem T_X4_outcome_100 (kR : Int32 → Int32 → Int32 → Int32 → XM → Option (Int32 × XM)) (d dR : Nat) (hdR : dR < d) (hdB : 2 ≤ d) (hR : ∀ (v0 : Int32) (v1 : Int32) (v2 : Int32) (v3 : Int32) (u : XM), CF YY dR yX4_outcome cX4_outcome 8 (some .int) [.int v0, .int v1, .int v2, .int v3] u emI (kR v0 v1 v2 v3 u)) (k45 : Int32 → Int32 → Int32 → Int32 → Int32 → Int32 → Int32 → XM → Option (Int32 × XM)) (hk45 : ∀ (v0 : Int32) (v1 : Int32) (v2 : Int32) (v3 : Int32) (v4 : Int32) (v5 : Int32) (v6 : Int32) (u : XM), GF E0 YY d yX4_outcome cX4_outcome 8 (some .int) 45 [some (.int v0), some (.int v1), some (.int v2), some (.int v3), some (.int v4), some (.int v5), some (.int v6), none] [] u emI (k45 v0 v1 v2 v3 v4 v5 v6 u)) (v0 : Int32) (v1 : Int32) (v2 : Int32) (v3 : Int32) (v4 : Int32) (v6 : Int32) (s0 : Int32) (u : XM) : GF E0 YY d yX4_outcome cX4_outcome 8 (some .int) 100 [some (.int v0), some (.int v1), some (.int v2), some (.int v3), some (.int v4), none, some (.int v6), none] [.int s0] u emI (F_X4_outcome_100 kR k45 v0 v1 v2 v3 v4 v6 s0 u) := by
  unfold F_X4_outcome_100
  refine gf_istore (lv2 := [some (.int v0), some (.int v1), some (.int v2), some (.int v3), some (.int v4), some (.int s0), some (.int v6), none]) (q := 102) dX4_outcome_100 (by decide) rfl rfl ?_
  exact (T_X4_outcome_102 kR d dR hdR hdB hR (k45) hk45 v0 v1 v2 v3 v4 s0 v6 u)
def F_X4_outcome_45 (kR : Int32 → Int32 → Int32 → Int32 → XM → Option (Int32 × XM)) : Nat → Int32 → Int32 → Int32 → Int32 → Int32 → Int32 → Int32 → XM → Option (Int32 × XM)
  | 0, _, _, _, _, _, _, _, _ => none
  | n + 1, v0, v1, v2, v3, v4, v5, v6, u => (if 1 < v6 then some (v5, u) else (Option.bind (F_X4_isCell (v0 + v6) u) (fun x1 => (if x1.1 = 0 then F_X4_outcome_102 kR (F_X4_outcome_45 kR n) v0 v1 v2 v3 v4 v5 v6 x1.2 else (Option.bind (kR (v0 + v6) v1 v2 (v3 - 1) x1.2) (fun x2 => (if v4 = 0 then (Option.bind (F_J9_min_7cf53 YY v5 x2.1 x2.2) (fun x3 => F_X4_outcome_100 kR (F_X4_outcome_45 kR n) v0 v1 v2 v3 v4 v6 x3.1 x3.2)) else (Option.bind (F_J9_max_7cf53 YY v5 x2.1 x2.2) (fun x4 => F_X4_outcome_100 kR (F_X4_outcome_45 kR n) v0 v1 v2 v3 v4 v6 x4.1 x4.2)))))))))
set_option maxRecDepth 20000 in
set_option maxHeartbeats 4000000 in
theorem T_X4_outcome_45 (kR : Int32 → Int32 → Int32 → Int32 → XM → Option (Int32 × XM)) (d dR : Nat) (hdR : dR < d) (hdB : 2 ≤ d) (hR : ∀ (v0 : Int32) (v1 : Int32) (v2 : Int32) (v3 : Int32) (u : XM), CF YY dR yX4_outcome cX4_outcome 8 (some .int) [.int v0, .int v1, .int v2, .int v3] u emI (kR v0 v1 v2 v3 u)) : ∀ (n : Nat) (v0 : Int32) (v1 : Int32) (v2 : Int32) (v3 : Int32) (v4 : Int32) (v5 : Int32) (v6 : Int32) (u : XM), GF E0 YY d yX4_outcome cX4_outcome 8 (some .int) 45 [some (.int v0), some (.int v1), some (.int v2), some (.int v3), some (.int v4), some (.int v5), some (.int v6), none] [] u emI (F_X4_outcome_45 kR n v0 v1 v2 v3 v4 v5 v6 u) := by
  intro n
  induction n with
  | zero => intro v0 v1 v2 v3 v4 v5 v6 u; exact gf_none
  | succ n ih =>
    intro v0 v1 v2 v3 v4 v5 v6 u
    unfold F_X4_outcome_45
    refine gf_iload (q := 47) dX4_outcome_45 rfl rfl ?_
    refine gf_iconst (q := 48) dX4_outcome_47 ki_1 rfl ?_
    refine gf_icmp_gt (t := 108) (q := 51) dX4_outcome_48 (by decide) rfl ?_ ?_
    · refine gf_iload (q := 110) dX4_outcome_108 rfl rfl ?_
      exact gf_reti dX4_outcome_110 rfl
    · refine gf_iload_n (i := 0) (q := 52) dX4_outcome_51 rfl rfl rfl ?_
      refine gf_iload (q := 54) dX4_outcome_52 rfl rfl ?_
      refine gf_iadd (q := 55) dX4_outcome_54 rfl ?_
      refine gf_callS_i (n2 := 1) (As := [.int (v0 + v6)]) (st := []) (q := 58) (hlen := rfl) kw338 kw339 dX4_outcome_55 kw340 kw1 (by decide +kernel) (by omega) (Nat.le_of_ble_eq_true rfl) (C_X4_isCell (v0 + v6) u) rfl rfl (fun x1 => ?_)
      refine gf_if_ne (t := 64) (q := 61) dX4_outcome_58 (by decide) rfl ?_ ?_
      · refine gf_goto (q := 102) dX4_outcome_61 (by decide) ?_
        exact (T_X4_outcome_102 kR d dR hdR hdB hR (F_X4_outcome_45 kR n) ih v0 v1 v2 v3 v4 v5 v6 x1.2)
      · refine gf_iload_n (i := 0) (q := 65) dX4_outcome_64 rfl rfl rfl ?_
        refine gf_iload (q := 67) dX4_outcome_65 rfl rfl ?_
        refine gf_iadd (q := 68) dX4_outcome_67 rfl ?_
        refine gf_iload_n (i := 1) (q := 69) dX4_outcome_68 rfl rfl rfl ?_
        refine gf_iload_n (i := 2) (q := 70) dX4_outcome_69 rfl rfl rfl ?_
        refine gf_iload_n (i := 3) (q := 71) dX4_outcome_70 rfl rfl rfl ?_
        refine gf_iconst (q := 72) dX4_outcome_71 ki_1 rfl ?_
        refine gf_isub (q := 73) dX4_outcome_72 rfl ?_
        refine gf_callS_i (n2 := 4) (As := [.int (v0 + v6), .int v1, .int v2, .int (v3 - 1)]) (st := []) (q := 76) (hlen := rfl) kw512 kw513 dX4_outcome_73 kw514 kw1 (by decide +kernel) (by omega) (Nat.le_of_ble_eq_true rfl) (hR (v0 + v6) v1 v2 (v3 - 1) x1.2) rfl rfl (fun x2 => ?_)
        refine gf_istore (lv2 := [some (.int v0), some (.int v1), some (.int v2), some (.int v3), some (.int v4), some (.int v5), some (.int v6), some (.int x2.1)]) (q := 78) dX4_outcome_76 (by decide) rfl rfl ?_
        refine gf_iload (q := 80) dX4_outcome_78 rfl rfl ?_
        refine gf_if_eq (t := 93) (q := 83) dX4_outcome_80 (by decide) rfl ?_ ?_
        · refine gf_iload (q := 95) dX4_outcome_93 rfl rfl ?_
          refine gf_iload (q := 97) dX4_outcome_95 rfl rfl ?_
          refine gf_callS_i (n2 := 2) (As := [.int v5, .int x2.1]) (st := []) (q := 100) (hlen := rfl) kw482 kw257 dX4_outcome_97 kw258 kw9 (by decide +kernel) (by omega) (Nat.le_of_ble_eq_true rfl) (C_J9_min_7cf53 YY v5 x2.1 x2.2) rfl rfl (fun x3 => ?_)
          exact gf_mask (b := [true, true, true, true, true, false, true, false]) rfl (T_X4_outcome_100 kR d dR hdR hdB hR (F_X4_outcome_45 kR n) ih v0 v1 v2 v3 v4 v6 x3.1 x3.2)
        · refine gf_iload (q := 85) dX4_outcome_83 rfl rfl ?_
          refine gf_iload (q := 87) dX4_outcome_85 rfl rfl ?_
          refine gf_callS_i (n2 := 2) (As := [.int v5, .int x2.1]) (st := []) (q := 90) (hlen := rfl) kw515 kw289 dX4_outcome_87 kw290 kw9 (by decide +kernel) (by omega) (Nat.le_of_ble_eq_true rfl) (C_J9_max_7cf53 YY v5 x2.1 x2.2) rfl rfl (fun x4 => ?_)
          refine gf_goto (q := 100) dX4_outcome_90 (by decide) ?_
          exact gf_mask (b := [true, true, true, true, true, false, true, false]) rfl (T_X4_outcome_100 kR d dR hdR hdB hR (F_X4_outcome_45 kR n) ih v0 v1 v2 v3 v4 v6 x4.1 x4.2)
def F_X4_outcome_29 (kR : Int32 → Int32 → Int32 → Int32 → XM → Option (Int32 × XM)) (v0 : Int32) (v1 : Int32) (v2 : Int32) (v3 : Int32) (s0 : Int32) (u : XM) : Option (Int32 × XM) := (Option.bind (kR v0 v1 v2 (v3 - 1) u) (fun x5 => F_X4_outcome_45 kR FU v0 v1 v2 v3 s0 x5.1 (-1) x5.2))
set_option maxRecDepth 20000 in
set_option maxHeartbeats 4000000 in
theorem T_X4_outcome_29 (kR : Int32 → Int32 → Int32 → Int32 → XM → Option (Int32 × XM)) (d dR : Nat) (hdR : dR < d) (hdB : 2 ≤ d) (hR : ∀ (v0 : Int32) (v1 : Int32) (v2 : Int32) (v3 : Int32) (u : XM), CF YY dR yX4_outcome cX4_outcome 8 (some .int) [.int v0, .int v1, .int v2, .int v3] u emI (kR v0 v1 v2 v3 u)) (v0 : Int32) (v1 : Int32) (v2 : Int32) (v3 : Int32) (s0 : Int32) (u : XM) : GF E0 YY d yX4_outcome cX4_outcome 8 (some .int) 29 [some (.int v0), some (.int v1), some (.int v2), some (.int v3), none, none, none, none] [.int s0] u emI (F_X4_outcome_29 kR v0 v1 v2 v3 s0 u) := by
  unfold F_X4_outcome_29
  refine gf_istore (lv2 := [some (.int v0), some (.int v1), some (.int v2), some (.int v3), some (.int s0), none, none, none]) (q := 31) dX4_outcome_29 (by decide) rfl rfl ?_
  refine gf_iload_n (i := 0) (q := 32) dX4_outcome_31 rfl rfl rfl ?_
  refine gf_iload_n (i := 1) (q := 33) dX4_outcome_32 rfl rfl rfl ?_
  refine gf_iload_n (i := 2) (q := 34) dX4_outcome_33 rfl rfl rfl ?_
  refine gf_iload_n (i := 3) (q := 35) dX4_outcome_34 rfl rfl rfl ?_
  refine gf_iconst (q := 36) dX4_outcome_35 ki_1 rfl ?_
  refine gf_isub (q := 37) dX4_outcome_36 rfl ?_
  refine gf_callS_i (n2 := 4) (As := [.int v0, .int v1, .int v2, .int (v3 - 1)]) (st := []) (q := 40) (hlen := rfl) kw512 kw513 dX4_outcome_37 kw514 kw1 (by decide +kernel) (by omega) (Nat.le_of_ble_eq_true rfl) (hR v0 v1 v2 (v3 - 1) u) rfl rfl (fun x5 => ?_)
  refine gf_istore (lv2 := [some (.int v0), some (.int v1), some (.int v2), some (.int v3), some (.int s0), some (.int x5.1), none, none]) (q := 42) dX4_outcome_40 (by decide) rfl rfl ?_
  refine gf_iconst (q := 43) dX4_outcome_42 ki_m1 rfl ?_
  refine gf_istore (lv2 := [some (.int v0), some (.int v1), some (.int v2), some (.int v3), some (.int s0), some (.int x5.1), some (.int (-1)), none]) (q := 45) dX4_outcome_43 (by decide) rfl rfl ?_
  exact (T_X4_outcome_45 kR d dR hdR hdB hR FU v0 v1 v2 v3 s0 x5.1 (-1) x5.2)
def B_X4_outcome (kR : Int32 → Int32 → Int32 → Int32 → XM → Option (Int32 × XM)) (v0 : Int32) (v1 : Int32) (v2 : Int32) (v3 : Int32) (u : XM) : Option (Int32 × XM) := (if 0 < v3 then (if (v3 - v3 / 2 * 2) = 0 then F_X4_outcome_29 kR v0 v1 v2 v3 1 u else F_X4_outcome_29 kR v0 v1 v2 v3 0 u) else (Option.bind (F_J9_abs_0f7a4 YY (v0 - v1) u) (fun x6 => (Option.bind (F_J9_abs_0f7a4 YY (v0 - v2) x6.2) (fun x7 => some ((x6.1 - x7.1), x7.2))))))
set_option maxRecDepth 20000 in
set_option maxHeartbeats 4000000 in
theorem T_X4_outcome (kR : Int32 → Int32 → Int32 → Int32 → XM → Option (Int32 × XM)) (d dR : Nat) (hdR : dR < d) (hdB : 2 ≤ d) (hR : ∀ (v0 : Int32) (v1 : Int32) (v2 : Int32) (v3 : Int32) (u : XM), CF YY dR yX4_outcome cX4_outcome 8 (some .int) [.int v0, .int v1, .int v2, .int v3] u emI (kR v0 v1 v2 v3 u)) (v0 : Int32) (v1 : Int32) (v2 : Int32) (v3 : Int32) (u : XM) : GF E0 YY d yX4_outcome cX4_outcome 8 (some .int) 0 [some (.int v0), some (.int v1), some (.int v2), some (.int v3), none, none, none, none] [] u emI (B_X4_outcome kR v0 v1 v2 v3 u) := by
  unfold B_X4_outcome
  refine gf_iload_n (i := 3) (q := 1) dX4_outcome_0 rfl rfl rfl ?_
  refine gf_if_gt (t := 18) (q := 4) dX4_outcome_1 (by decide) rfl ?_ ?_
  · refine gf_iload_n (i := 3) (q := 19) dX4_outcome_18 rfl rfl rfl ?_
    refine gf_iconst (q := 20) dX4_outcome_19 ki_2 rfl ?_
    refine gf_irem_c (q := 21) dX4_outcome_20 (by decide) rfl ?_
    refine gf_if_ne (t := 28) (q := 24) dX4_outcome_21 (by decide) rfl ?_ ?_
    · refine gf_iconst (q := 25) dX4_outcome_24 ki_1 rfl ?_
      refine gf_goto (q := 29) dX4_outcome_25 (by decide) ?_
      exact (T_X4_outcome_29 kR d dR hdR hdB hR v0 v1 v2 v3 1 u)
    · refine gf_iconst (q := 29) dX4_outcome_28 ki_0 rfl ?_
      exact (T_X4_outcome_29 kR d dR hdR hdB hR v0 v1 v2 v3 0 u)
  · refine gf_iload_n (i := 0) (q := 5) dX4_outcome_4 rfl rfl rfl ?_
    refine gf_iload_n (i := 1) (q := 6) dX4_outcome_5 rfl rfl rfl ?_
    refine gf_isub (q := 7) dX4_outcome_6 rfl ?_
    refine gf_callS_i (n2 := 1) (As := [.int (v0 - v1)]) (st := []) (q := 10) (hlen := rfl) kw371 kw372 dX4_outcome_7 kw373 kw9 (by decide +kernel) (by omega) (Nat.le_of_ble_eq_true rfl) (C_J9_abs_0f7a4 YY (v0 - v1) u) rfl rfl (fun x6 => ?_)
    refine gf_iload_n (i := 0) (q := 11) dX4_outcome_10 rfl rfl rfl ?_
    refine gf_iload_n (i := 2) (q := 12) dX4_outcome_11 rfl rfl rfl ?_
    refine gf_isub (q := 13) dX4_outcome_12 rfl ?_
    refine gf_callS_i (n2 := 1) (As := [.int (v0 - v2)]) (st := [.int x6.1]) (q := 16) (hlen := rfl) kw371 kw372 dX4_outcome_13 kw373 kw9 (by decide +kernel) (by omega) (Nat.le_of_ble_eq_true rfl) (C_J9_abs_0f7a4 YY (v0 - v2) x6.2) rfl rfl (fun x7 => ?_)
    refine gf_isub (q := 17) dX4_outcome_16 rfl ?_
    exact gf_reti dX4_outcome_17 rfl
def F_X4_outcome : Nat → Int32 → Int32 → Int32 → Int32 → XM → Option (Int32 × XM)
  | 0, _, _, _, _, _ => none
  | n + 1, v0, v1, v2, v3, u => B_X4_outcome (F_X4_outcome n) v0 v1 v2 v3 u
theorem CR_X4_outcome : ∀ (n : Nat) (v0 : Int32) (v1 : Int32) (v2 : Int32) (v3 : Int32) (u : XM), CF YY (2 + n) yX4_outcome cX4_outcome 8 (some .int) [.int v0, .int v1, .int v2, .int v3] u emI (F_X4_outcome n v0 v1 v2 v3 u) := by
  intro n
  induction n with
  | zero => intro v0 v1 v2 v3 u; exact fun _ _ e => by cases e
  | succ n ih => intro v0 v1 v2 v3 u; exact cf_of (by decide +kernel) (Nat.le_of_ble_eq_true rfl) rfl (T_X4_outcome (F_X4_outcome n) (2 + (n + 1)) (2 + n) (by omega) (by omega) ih v0 v1 v2 v3 u)
theorem C_X4_outcome (n : Nat) (v0 : Int32) (v1 : Int32) (v2 : Int32) (v3 : Int32) (u : XM) : CF YY (2 + n) yX4_outcome cX4_outcome 8 (some .int) [.int v0, .int v1, .int v2, .int v3] u emI (F_X4_outcome n v0 v1 v2 v3 u) := CR_X4_outcome n v0 v1 v2 v3 u
def F_X4_night (v1 : Int32) (v2 : Int32) (v3 : Int32) (v4 : Int32) (u : XM) : Option (Int32 × XM) := (Option.bind (F_X0_has v1 u) (fun x1 => (if x1.1 = 0 then some ((-1), x1.2) else (Option.bind (F_X4_isCell v2 x1.2) (fun x2 => (if x2.1 = 0 then some ((-1), x2.2) else (Option.bind (F_X4_isCell v3 x2.2) (fun x3 => (if x3.1 = 0 then some ((-1), x3.2) else (if v2 = v3 then some ((-1), x3.2) else (if v4 < 0 then some ((-1), x3.2) else (if v4 ≤ 3 then (Option.bind (F_X0_isTaken v1 x3.2) (fun x4 => (if x4.1 = 0 then (if ain YY 0 25 v1 = true then (Option.bind (F_X4_outcome 10 (mi x4.2 25 (Int32.toNatClampNeg v1)) v2 v3 (2 * v4) x4.2) (fun x5 => (Option.bind (F_X4_tell x5.1 x5.2) (fun x6 => some (x6.1, x6.2))))) else none) else some ((-4), x4.2)))) else some ((-1), x3.2)))))))))))))
set_option maxRecDepth 20000 in
set_option maxHeartbeats 4000000 in
theorem T_X4_night (v1 : Int32) (v2 : Int32) (v3 : Int32) (v4 : Int32) (u : XM) : GF E0 YY 13 yX4_night cX4_night 5 (some .int) 0 [some (.ref 0), some (.int v1), some (.int v2), some (.int v3), some (.int v4)] [] u emI (F_X4_night v1 v2 v3 v4 u) := by
  unfold F_X4_night
  refine gf_aload_n (i := 0) (q := 1) dX4_night_0 rfl rfl rfl ?_
  refine gf_getA (C := RX4) (T := TX4) (N := 15) (ci := 4) (k := 0) (j := 7) (t := 22) (q := 4) dX4_night_1 rfl rfl kin4 (by decide) kw134 rfl rfl ?_
  refine gf_iload_n (i := 1) (q := 5) dX4_night_4 rfl rfl rfl ?_
  refine gf_callV_i (n2 := 1) (As := [.int v1]) (st := []) (b := 22) (ci := 0) (C := RX0) (q := 8) (hlen := rfl) rfl rfl kw303 kw269 kw270 dX4_night_5 kw271 kw3 (by decide +kernel) (by decide) (Nat.le_of_ble_eq_true rfl) (C_X0_has v1 u) rfl rfl (fun x1 => ?_)
  refine gf_if_eq (t := 41) (q := 11) dX4_night_8 (by decide) rfl ?_ ?_
  · refine gf_iconst (q := 42) dX4_night_41 ki_m1 rfl ?_
    exact gf_reti dX4_night_42 rfl
  · refine gf_iload_n (i := 2) (q := 12) dX4_night_11 rfl rfl rfl ?_
    refine gf_callS_i (n2 := 1) (As := [.int v2]) (st := []) (q := 15) (hlen := rfl) kw338 kw339 dX4_night_12 kw340 kw1 (by decide +kernel) (by decide) (Nat.le_of_ble_eq_true rfl) (C_X4_isCell v2 x1.2) rfl rfl (fun x2 => ?_)
    refine gf_if_eq (t := 41) (q := 18) dX4_night_15 (by decide) rfl ?_ ?_
    · refine gf_iconst (q := 42) dX4_night_41 ki_m1 rfl ?_
      exact gf_reti dX4_night_42 rfl
    · refine gf_iload_n (i := 3) (q := 19) dX4_night_18 rfl rfl rfl ?_
      refine gf_callS_i (n2 := 1) (As := [.int v3]) (st := []) (q := 22) (hlen := rfl) kw338 kw339 dX4_night_19 kw340 kw1 (by decide +kernel) (by decide) (Nat.le_of_ble_eq_true rfl) (C_X4_isCell v3 x2.2) rfl rfl (fun x3 => ?_)
      refine gf_if_eq (t := 41) (q := 25) dX4_night_22 (by decide) rfl ?_ ?_
      · refine gf_iconst (q := 42) dX4_night_41 ki_m1 rfl ?_
        exact gf_reti dX4_night_42 rfl
      · refine gf_iload_n (i := 2) (q := 26) dX4_night_25 rfl rfl rfl ?_
        refine gf_iload_n (i := 3) (q := 27) dX4_night_26 rfl rfl rfl ?_
        refine gf_icmp_eq (t := 41) (q := 30) dX4_night_27 (by decide) rfl ?_ ?_
        · refine gf_iconst (q := 42) dX4_night_41 ki_m1 rfl ?_
          exact gf_reti dX4_night_42 rfl
        · refine gf_iload (q := 32) dX4_night_30 rfl rfl ?_
          refine gf_if_lt (t := 41) (q := 35) dX4_night_32 (by decide) rfl ?_ ?_
          · refine gf_iconst (q := 42) dX4_night_41 ki_m1 rfl ?_
            exact gf_reti dX4_night_42 rfl
          · refine gf_iload (q := 37) dX4_night_35 rfl rfl ?_
            refine gf_iconst (q := 38) dX4_night_37 ki_3 rfl ?_
            refine gf_icmp_le (t := 43) (q := 41) dX4_night_38 (by decide) rfl ?_ ?_
            · refine gf_aload_n (i := 0) (q := 44) dX4_night_43 rfl rfl rfl ?_
              refine gf_getA (C := RX4) (T := TX4) (N := 15) (ci := 4) (k := 0) (j := 7) (t := 22) (q := 47) dX4_night_44 rfl rfl kin4 (by decide) kw134 rfl rfl ?_
              refine gf_iload_n (i := 1) (q := 48) dX4_night_47 rfl rfl rfl ?_
              refine gf_callV_i (n2 := 1) (As := [.int v1]) (st := []) (b := 22) (ci := 0) (C := RX0) (q := 51) (hlen := rfl) rfl rfl kw394 kw277 kw278 dX4_night_48 kw279 kw3 (by decide +kernel) (by decide) (Nat.le_of_ble_eq_true rfl) (C_X0_isTaken v1 x3.2) rfl rfl (fun x4 => ?_)
              refine gf_if_eq (t := 57) (q := 54) dX4_night_51 (by decide) rfl ?_ ?_
              · refine gf_aload_n (i := 0) (q := 58) dX4_night_57 rfl rfl rfl ?_
                refine gf_aload_n (i := 0) (q := 59) dX4_night_58 rfl rfl rfl ?_
                refine gf_getA (C := RX4) (T := TX4) (N := 15) (ci := 4) (k := 0) (j := 7) (t := 22) (q := 62) dX4_night_59 rfl rfl kin4 (by decide) kw134 rfl rfl ?_
                refine gf_getA (C := RX0) (T := TX0) (N := 12) (ci := 0) (k := 22) (j := 2) (t := 25) (q := 65) dX4_night_62 rfl rfl kin0 (by decide) kw51 rfl rfl ?_
                refine gf_iload_n (i := 1) (q := 66) dX4_night_65 rfl rfl rfl ?_
                refine gf_iald (q := 67) dX4_night_66 rfl ?_
                refine gf_iload_n (i := 2) (q := 68) dX4_night_67 rfl rfl rfl ?_
                refine gf_iload_n (i := 3) (q := 69) dX4_night_68 rfl rfl rfl ?_
                refine gf_iconst (q := 70) dX4_night_69 ki_2 rfl ?_
                refine gf_iload (q := 72) dX4_night_70 rfl rfl ?_
                refine gf_imul (q := 73) dX4_night_72 rfl ?_
                refine gf_callS_i (n2 := 4) (As := [.int (mi x4.2 25 (Int32.toNatClampNeg v1)), .int v2, .int v3, .int (2 * v4)]) (st := [.ref 0]) (q := 76) (hlen := rfl) kw512 kw513 dX4_night_73 kw514 kw1 (by decide +kernel) (by decide) (Nat.le_of_ble_eq_true rfl) (C_X4_outcome 10 (mi x4.2 25 (Int32.toNatClampNeg v1)) v2 v3 (2 * v4) x4.2) rfl rfl (fun x5 => ?_)
                refine gf_callV_i (n2 := 1) (As := [.int x5.1]) (st := []) (b := 0) (ci := 4) (C := RX4) (q := 79) (hlen := rfl) rfl rfl kw188 kw190 kp1 dX4_night_76 kw191 kw1 (by decide +kernel) (by decide) (Nat.le_of_ble_eq_true rfl) (C_X4_tell x5.1 x5.2) rfl rfl (fun x6 => ?_)
                exact gf_reti dX4_night_79 rfl
              · refine gf_bipush (q := 56) dX4_night_54 kb_m4 rfl ?_
                exact gf_reti dX4_night_56 rfl
            · refine gf_iconst (q := 42) dX4_night_41 ki_m1 rfl ?_
              exact gf_reti dX4_night_42 rfl
theorem C_X4_night (v1 : Int32) (v2 : Int32) (v3 : Int32) (v4 : Int32) (u : XM) : CF YY 13 yX4_night cX4_night 5 (some .int) [.ref 0, .int v1, .int v2, .int v3, .int v4] u emI (F_X4_night v1 v2 v3 v4 u) := cf_of (by decide +kernel) (Nat.le_of_ble_eq_true rfl) rfl (T_X4_night v1 v2 v3 v4 u)
def F_X4_isChance (v1 : Int32) (v2 : Int32) (v3 : Int32) (u : XM) : Option (Int32 × XM) := (Option.bind (F_X0_has v1 u) (fun x1 => (if x1.1 = 0 then some (0, x1.2) else (if v2 < 0 then some (0, x1.2) else (if 6 < v2 then some (0, x1.2) else (if v3 < 0 then some (0, x1.2) else (if 12 < v3 then some (0, x1.2) else some (1, x1.2))))))))
set_option maxRecDepth 20000 in
set_option maxHeartbeats 4000000 in
theorem T_X4_isChance (v1 : Int32) (v2 : Int32) (v3 : Int32) (u : XM) : GF E0 YY 2 yX4_isChance cX4_isChance 4 (some .boolean) 0 [some (.ref 0), some (.int v1), some (.int v2), some (.int v3)] [] u emI (F_X4_isChance v1 v2 v3 u) := by
  unfold F_X4_isChance
  refine gf_aload_n (i := 0) (q := 1) dX4_isChance_0 rfl rfl rfl ?_
  refine gf_getA (C := RX4) (T := TX4) (N := 15) (ci := 4) (k := 0) (j := 7) (t := 22) (q := 4) dX4_isChance_1 rfl rfl kin4 (by decide) kw134 rfl rfl ?_
  refine gf_iload_n (i := 1) (q := 5) dX4_isChance_4 rfl rfl rfl ?_
  refine gf_callV_i (n2 := 1) (As := [.int v1]) (st := []) (b := 22) (ci := 0) (C := RX0) (q := 8) (hlen := rfl) rfl rfl kw303 kw269 kw270 dX4_isChance_5 kw271 kw3 (by decide +kernel) (by decide) (Nat.le_of_ble_eq_true rfl) (C_X0_has v1 u) rfl rfl (fun x1 => ?_)
  refine gf_if_eq (t := 35) (q := 11) dX4_isChance_8 (by decide) rfl ?_ ?_
  · refine gf_iconst (q := 36) dX4_isChance_35 ki_0 rfl ?_
    exact gf_retz dX4_isChance_36 rfl rfl
  · refine gf_iload_n (i := 2) (q := 12) dX4_isChance_11 rfl rfl rfl ?_
    refine gf_if_lt (t := 35) (q := 15) dX4_isChance_12 (by decide) rfl ?_ ?_
    · refine gf_iconst (q := 36) dX4_isChance_35 ki_0 rfl ?_
      exact gf_retz dX4_isChance_36 rfl rfl
    · refine gf_iload_n (i := 2) (q := 16) dX4_isChance_15 rfl rfl rfl ?_
      refine gf_bipush (q := 18) dX4_isChance_16 kb_6 rfl ?_
      refine gf_icmp_gt (t := 35) (q := 21) dX4_isChance_18 (by decide) rfl ?_ ?_
      · refine gf_iconst (q := 36) dX4_isChance_35 ki_0 rfl ?_
        exact gf_retz dX4_isChance_36 rfl rfl
      · refine gf_iload_n (i := 3) (q := 22) dX4_isChance_21 rfl rfl rfl ?_
        refine gf_if_lt (t := 35) (q := 25) dX4_isChance_22 (by decide) rfl ?_ ?_
        · refine gf_iconst (q := 36) dX4_isChance_35 ki_0 rfl ?_
          exact gf_retz dX4_isChance_36 rfl rfl
        · refine gf_iload_n (i := 3) (q := 26) dX4_isChance_25 rfl rfl rfl ?_
          refine gf_bipush (q := 28) dX4_isChance_26 kb_12 rfl ?_
          refine gf_icmp_gt (t := 35) (q := 31) dX4_isChance_28 (by decide) rfl ?_ ?_
          · refine gf_iconst (q := 36) dX4_isChance_35 ki_0 rfl ?_
            exact gf_retz dX4_isChance_36 rfl rfl
          · refine gf_iconst (q := 32) dX4_isChance_31 ki_1 rfl ?_
            refine gf_goto (q := 36) dX4_isChance_32 (by decide) ?_
            exact gf_retz dX4_isChance_36 rfl rfl
theorem C_X4_isChance (v1 : Int32) (v2 : Int32) (v3 : Int32) (u : XM) : CF YY 2 yX4_isChance cX4_isChance 4 (some .boolean) [.ref 0, .int v1, .int v2, .int v3] u emI (F_X4_isChance v1 v2 v3 u) := cf_of (by decide +kernel) (Nat.le_of_ble_eq_true rfl) rfl (T_X4_isChance v1 v2 v3 u)
def F_X4_twelveTimes_4 : Nat → Int32 → Int64 → Int32 → XM → Option (Int64 × XM)
  | 0, _, _, _, _ => none
  | n + 1, v0, v1, v3, u => (if v0 ≤ v3 then some (v1, u) else F_X4_twelveTimes_4 n v0 (v1 * 12) (v3 + 1) u)
set_option maxRecDepth 20000 in
set_option maxHeartbeats 4000000 in
theorem T_X4_twelveTimes_4 : ∀ (n : Nat) (v0 : Int32) (v1 : Int64) (v3 : Int32) (u : XM), GF E0 YY 1 yX4_twelveTimes cX4_twelveTimes 4 (some .long) 4 [some (.int v0), some (.long v1), none, some (.int v3)] [] u emL (F_X4_twelveTimes_4 n v0 v1 v3 u) := by
  intro n
  induction n with
  | zero => intro v0 v1 v3 u; exact gf_none
  | succ n ih =>
    intro v0 v1 v3 u
    unfold F_X4_twelveTimes_4
    refine gf_iload_n (i := 3) (q := 5) dX4_twelveTimes_4 rfl rfl rfl ?_
    refine gf_iload_n (i := 0) (q := 6) dX4_twelveTimes_5 rfl rfl rfl ?_
    refine gf_icmp_ge (t := 21) (q := 9) dX4_twelveTimes_6 (by decide) rfl ?_ ?_
    · refine gf_lload_n (i := 1) (q := 22) dX4_twelveTimes_21 rfl rfl rfl ?_
      exact gf_retl dX4_twelveTimes_22 rfl
    · refine gf_lload_n (i := 1) (q := 10) dX4_twelveTimes_9 rfl rfl rfl ?_
      refine gf_ldc2 (q := 13) dX4_twelveTimes_10 kw532 rfl ?_
      refine gf_lmul (q := 14) dX4_twelveTimes_13 rfl ?_
      refine gf_lstore_n (i := 1) (lv2 := [some (.int v0), some (.long (v1 * 12)), none, some (.int v3)]) (q := 15) dX4_twelveTimes_14 rfl (by decide) rfl rfl ?_
      refine gf_iinc (v := (v3 + 1)) (lv2 := [some (.int v0), some (.long (v1 * 12)), none, some (.int (v3 + 1))]) (q := 18) dX4_twelveTimes_15 rfl (congrArg _ ki_1) (by decide) rfl rfl ?_
      refine gf_goto (q := 4) dX4_twelveTimes_18 (by decide) ?_
      exact (ih v0 (v1 * 12) (v3 + 1) u)
def F_X4_twelveTimes (v0 : Int32) (u : XM) : Option (Int64 × XM) := F_X4_twelveTimes_4 FU v0 1 0 u
set_option maxRecDepth 20000 in
set_option maxHeartbeats 4000000 in
theorem T_X4_twelveTimes (v0 : Int32) (u : XM) : GF E0 YY 1 yX4_twelveTimes cX4_twelveTimes 4 (some .long) 0 [some (.int v0), none, none, none] [] u emL (F_X4_twelveTimes v0 u) := by
  unfold F_X4_twelveTimes
  refine gf_lconst (v := 1) (q := 1) dX4_twelveTimes_0 rfl rfl ?_
  refine gf_lstore_n (i := 1) (lv2 := [some (.int v0), some (.long 1), none, none]) (q := 2) dX4_twelveTimes_1 rfl (by decide) rfl rfl ?_
  refine gf_iconst (q := 3) dX4_twelveTimes_2 ki_0 rfl ?_
  refine gf_istore_n (i := 3) (lv2 := [some (.int v0), some (.long 1), none, some (.int 0)]) (q := 4) dX4_twelveTimes_3 rfl (by decide) rfl rfl ?_
  exact (T_X4_twelveTimes_4 FU v0 1 0 u)
theorem C_X4_twelveTimes (v0 : Int32) (u : XM) : CF YY 1 yX4_twelveTimes cX4_twelveTimes 4 (some .long) [.int v0] u emL (F_X4_twelveTimes v0 u) := cf_of (by decide +kernel) (Nat.le_of_ble_eq_true rfl) rfl (T_X4_twelveTimes v0 u)
def F_X4_greatestDivisor_44 (v4 : Int64) (u : XM) : Option (Int64 × XM) := some (v4, u)
set_option maxRecDepth 20000 in
set_option maxHeartbeats 4000000 in
theorem T_X4_greatestDivisor_44 (v4 : Int64) (u : XM) : GF E0 YY 1 yX4_greatestDivisor cX4_greatestDivisor 11 (some .long) 44 [none, none, none, none, some (.long v4), none, none, none, none, none, none] [] u emL (F_X4_greatestDivisor_44 v4 u) := by
  unfold F_X4_greatestDivisor_44
  refine gf_lload (q := 46) dX4_greatestDivisor_44 rfl rfl ?_
  exact gf_retl dX4_greatestDivisor_46 rfl
def F_X4_greatestDivisor_9 : Nat → Int64 → Int64 → Int32 → XM → Option (Int64 × XM)
  | 0, _, _, _, _ => none
  | n + 1, v4, v6, v8, u => (if 64 ≤ v8 then F_X4_greatestDivisor_44 v4 u else (if (lg_cmp v6 0) = 0 then F_X4_greatestDivisor_44 v4 u else (if v6 = 0 then none else F_X4_greatestDivisor_9 n v6 (v4 - v4 / v6 * v6) (v8 + 1) u)))
set_option maxRecDepth 20000 in
set_option maxHeartbeats 4000000 in
theorem T_X4_greatestDivisor_9 : ∀ (n : Nat) (v4 : Int64) (v6 : Int64) (v8 : Int32) (u : XM), GF E0 YY 1 yX4_greatestDivisor cX4_greatestDivisor 11 (some .long) 9 [none, none, none, none, some (.long v4), none, some (.long v6), none, some (.int v8), none, none] [] u emL (F_X4_greatestDivisor_9 n v4 v6 v8 u) := by
  intro n
  induction n with
  | zero => intro v4 v6 v8 u; exact gf_none
  | succ n ih =>
    intro v4 v6 v8 u
    unfold F_X4_greatestDivisor_9
    refine gf_iload (q := 11) dX4_greatestDivisor_9 rfl rfl ?_
    refine gf_bipush (q := 13) dX4_greatestDivisor_11 kb_64 rfl ?_
    refine gf_icmp_ge (t := 44) (q := 16) dX4_greatestDivisor_13 (by decide) rfl ?_ ?_
    · exact gf_mask (b := [false, false, false, false, true, false, false, false, false, false, false]) rfl (T_X4_greatestDivisor_44 v4 u)
    · refine gf_lload (q := 18) dX4_greatestDivisor_16 rfl rfl ?_
      refine gf_lconst (v := 0) (q := 19) dX4_greatestDivisor_18 rfl rfl ?_
      refine gf_lcmp (q := 20) dX4_greatestDivisor_19 rfl ?_
      refine gf_if_eq (t := 44) (q := 23) dX4_greatestDivisor_20 (by decide) rfl ?_ ?_
      · exact gf_mask (b := [false, false, false, false, true, false, false, false, false, false, false]) rfl (T_X4_greatestDivisor_44 v4 u)
      · refine gf_lload (q := 25) dX4_greatestDivisor_23 rfl rfl ?_
        refine gf_lload (q := 27) dX4_greatestDivisor_25 rfl rfl ?_
        refine gf_lrem (q := 28) dX4_greatestDivisor_27 rfl ?_
        refine gf_lstore (lv2 := [none, none, none, none, some (.long v4), none, some (.long v6), none, some (.int v8), some (.long (v4 - v4 / v6 * v6)), none]) (q := 30) dX4_greatestDivisor_28 (by decide) rfl rfl ?_
        refine gf_lload (q := 32) dX4_greatestDivisor_30 rfl rfl ?_
        refine gf_lstore (lv2 := [none, none, none, none, some (.long v6), none, some (.long v6), none, some (.int v8), some (.long (v4 - v4 / v6 * v6)), none]) (q := 34) dX4_greatestDivisor_32 (by decide) rfl rfl ?_
        refine gf_lload (q := 36) dX4_greatestDivisor_34 rfl rfl ?_
        refine gf_lstore (lv2 := [none, none, none, none, some (.long v6), none, some (.long (v4 - v4 / v6 * v6)), none, some (.int v8), some (.long (v4 - v4 / v6 * v6)), none]) (q := 38) dX4_greatestDivisor_36 (by decide) rfl rfl ?_
        refine gf_iinc (v := (v8 + 1)) (lv2 := [none, none, none, none, some (.long v6), none, some (.long (v4 - v4 / v6 * v6)), none, some (.int (v8 + 1)), some (.long (v4 - v4 / v6 * v6)), none]) (q := 41) dX4_greatestDivisor_38 rfl (congrArg _ ki_1) (by decide) rfl rfl ?_
        refine gf_goto (q := 9) dX4_greatestDivisor_41 (by decide) ?_
        exact gf_mask (b := [false, false, false, false, true, false, true, false, true, false, false]) rfl (ih v6 (v4 - v4 / v6 * v6) (v8 + 1) u)
def F_X4_greatestDivisor (v0 : Int64) (v2 : Int64) (u : XM) : Option (Int64 × XM) := F_X4_greatestDivisor_9 FU v0 v2 0 u
set_option maxRecDepth 20000 in
set_option maxHeartbeats 4000000 in
theorem T_X4_greatestDivisor (v0 : Int64) (v2 : Int64) (u : XM) : GF E0 YY 1 yX4_greatestDivisor cX4_greatestDivisor 11 (some .long) 0 [some (.long v0), none, some (.long v2), none, none, none, none, none, none, none, none] [] u emL (F_X4_greatestDivisor v0 v2 u) := by
  unfold F_X4_greatestDivisor
  refine gf_lload_n (i := 0) (q := 1) dX4_greatestDivisor_0 rfl rfl rfl ?_
  refine gf_lstore (lv2 := [some (.long v0), none, some (.long v2), none, some (.long v0), none, none, none, none, none, none]) (q := 3) dX4_greatestDivisor_1 (by decide) rfl rfl ?_
  refine gf_lload_n (i := 2) (q := 4) dX4_greatestDivisor_3 rfl rfl rfl ?_
  refine gf_lstore (lv2 := [some (.long v0), none, some (.long v2), none, some (.long v0), none, some (.long v2), none, none, none, none]) (q := 6) dX4_greatestDivisor_4 (by decide) rfl rfl ?_
  refine gf_iconst (q := 7) dX4_greatestDivisor_6 ki_0 rfl ?_
  refine gf_istore (lv2 := [some (.long v0), none, some (.long v2), none, some (.long v0), none, some (.long v2), none, some (.int 0), none, none]) (q := 9) dX4_greatestDivisor_7 (by decide) rfl rfl ?_
  exact gf_mask (b := [false, false, false, false, true, false, true, false, true, false, false]) rfl (T_X4_greatestDivisor_9 FU v0 v2 0 u)
theorem C_X4_greatestDivisor (v0 : Int64) (v2 : Int64) (u : XM) : CF YY 1 yX4_greatestDivisor cX4_greatestDivisor 11 (some .long) [.long v0, .long v2] u emL (F_X4_greatestDivisor v0 v2 u) := cf_of (by decide +kernel) (Nat.le_of_ble_eq_true rfl) rfl (T_X4_greatestDivisor v0 v2 u)
def F_X4_tellRatio_42 (s0 : Int64) (u : XM) : Option (Int32 × XM) := some (1, (wl u 0 14 s0))
set_option maxRecDepth 20000 in
set_option maxHeartbeats 4000000 in
theorem T_X4_tellRatio_42 (s0 : Int64) (u : XM) : GF E0 YY 2 yX4_tellRatio cX4_tellRatio 7 (some .int) 42 [none, none, none, none, none, none, none] [.long s0, .ref 0] u emI (F_X4_tellRatio_42 s0 u) := by
  unfold F_X4_tellRatio_42
  refine gf_putL (C := RX4) (T := TX4) (N := 15) (ci := 4) (k := 0) (j := 14) (q := 45) dX4_tellRatio_42 rfl rfl kin4 tyX4 tyX4_ok nmX4 (by decide) kw141 rfl rfl rfl rfl ?_
  refine gf_iconst (q := 46) dX4_tellRatio_45 ki_1 rfl ?_
  exact gf_reti dX4_tellRatio_46 rfl
def F_X4_tellRatio_23 (v3 : Int64) (v5 : Int64) (s0 : Int64) (u : XM) : Option (Int32 × XM) := (if (lg_cmp v5 0) ≤ 0 then F_X4_tellRatio_42 v3 (wl u 0 13 s0) else (if v5 = 0 then none else F_X4_tellRatio_42 (v3 / v5) (wl u 0 13 s0)))
set_option maxRecDepth 20000 in
set_option maxHeartbeats 4000000 in
theorem T_X4_tellRatio_23 (v3 : Int64) (v5 : Int64) (s0 : Int64) (u : XM) : GF E0 YY 2 yX4_tellRatio cX4_tellRatio 7 (some .int) 23 [some (.ref 0), none, none, some (.long v3), none, some (.long v5), none] [.long s0, .ref 0] u emI (F_X4_tellRatio_23 v3 v5 s0 u) := by
  unfold F_X4_tellRatio_23
  refine gf_putL (C := RX4) (T := TX4) (N := 15) (ci := 4) (k := 0) (j := 13) (q := 26) dX4_tellRatio_23 rfl rfl kin4 tyX4 tyX4_ok nmX4 (by decide) kw140 rfl rfl rfl rfl ?_
  refine gf_aload_n (i := 0) (q := 27) dX4_tellRatio_26 rfl rfl rfl ?_
  refine gf_lload (q := 29) dX4_tellRatio_27 rfl rfl ?_
  refine gf_lconst (v := 0) (q := 30) dX4_tellRatio_29 rfl rfl ?_
  refine gf_lcmp (q := 31) dX4_tellRatio_30 rfl ?_
  refine gf_if_le (t := 41) (q := 34) dX4_tellRatio_31 (by decide) rfl ?_ ?_
  · refine gf_lload_n (i := 3) (q := 42) dX4_tellRatio_41 rfl rfl rfl ?_
    exact gf_mask (b := [false, false, false, false, false, false, false]) rfl (T_X4_tellRatio_42 v3 (wl u 0 13 s0))
  · refine gf_lload_n (i := 3) (q := 35) dX4_tellRatio_34 rfl rfl rfl ?_
    refine gf_lload (q := 37) dX4_tellRatio_35 rfl rfl ?_
    refine gf_ldiv (q := 38) dX4_tellRatio_37 rfl ?_
    refine gf_goto (q := 42) dX4_tellRatio_38 (by decide) ?_
    exact gf_mask (b := [false, false, false, false, false, false, false]) rfl (T_X4_tellRatio_42 (v3 / v5) (wl u 0 13 s0))
def F_X4_tellRatio (v1 : Int64) (v3 : Int64) (u : XM) : Option (Int32 × XM) := (Option.bind (F_X4_greatestDivisor v1 v3 u) (fun x1 => (if (lg_cmp x1.1 0) ≤ 0 then F_X4_tellRatio_23 v3 x1.1 v1 x1.2 else (if x1.1 = 0 then none else F_X4_tellRatio_23 v3 x1.1 (v1 / x1.1) x1.2))))
set_option maxRecDepth 20000 in
set_option maxHeartbeats 4000000 in
theorem T_X4_tellRatio (v1 : Int64) (v3 : Int64) (u : XM) : GF E0 YY 2 yX4_tellRatio cX4_tellRatio 7 (some .int) 0 [some (.ref 0), some (.long v1), none, some (.long v3), none, none, none] [] u emI (F_X4_tellRatio v1 v3 u) := by
  unfold F_X4_tellRatio
  refine gf_lload_n (i := 1) (q := 1) dX4_tellRatio_0 rfl rfl rfl ?_
  refine gf_lload_n (i := 3) (q := 2) dX4_tellRatio_1 rfl rfl rfl ?_
  refine gf_callS_l (n2 := 2) (As := [.long v1, .long v3]) (st := []) (q := 5) (hlen := rfl) kw537 kw538 dX4_tellRatio_2 kw539 kw1 (by decide +kernel) (by decide) (Nat.le_of_ble_eq_true rfl) (C_X4_greatestDivisor v1 v3 u) rfl rfl (fun x1 => ?_)
  refine gf_lstore (lv2 := [some (.ref 0), some (.long v1), none, some (.long v3), none, some (.long x1.1), none]) (q := 7) dX4_tellRatio_5 (by decide) rfl rfl ?_
  refine gf_aload_n (i := 0) (q := 8) dX4_tellRatio_7 rfl rfl rfl ?_
  refine gf_lload (q := 10) dX4_tellRatio_8 rfl rfl ?_
  refine gf_lconst (v := 0) (q := 11) dX4_tellRatio_10 rfl rfl ?_
  refine gf_lcmp (q := 12) dX4_tellRatio_11 rfl ?_
  refine gf_if_le (t := 22) (q := 15) dX4_tellRatio_12 (by decide) rfl ?_ ?_
  · refine gf_lload_n (i := 1) (q := 23) dX4_tellRatio_22 rfl rfl rfl ?_
    exact gf_mask (b := [true, false, false, true, false, true, false]) rfl (T_X4_tellRatio_23 v3 x1.1 v1 x1.2)
  · refine gf_lload_n (i := 1) (q := 16) dX4_tellRatio_15 rfl rfl rfl ?_
    refine gf_lload (q := 18) dX4_tellRatio_16 rfl rfl ?_
    refine gf_ldiv (q := 19) dX4_tellRatio_18 rfl ?_
    refine gf_goto (q := 23) dX4_tellRatio_19 (by decide) ?_
    exact gf_mask (b := [true, false, false, true, false, true, false]) rfl (T_X4_tellRatio_23 v3 x1.1 (v1 / x1.1) x1.2)
theorem C_X4_tellRatio (v1 : Int64) (v3 : Int64) (u : XM) : CF YY 2 yX4_tellRatio cX4_tellRatio 7 (some .int) [.ref 0, .long v1, .long v3] u emI (F_X4_tellRatio v1 v3 u) := cf_of (by decide +kernel) (Nat.le_of_ble_eq_true rfl) rfl (T_X4_tellRatio v1 v3 u)
def F_X4_odds (v1 : Int32) (v2 : Int32) (v3 : Int32) (v4 : Int32) (u : XM) : Option (Int32 × XM) := (Option.bind (F_X4_isCell v2 u) (fun x1 => (if x1.1 = 0 then some ((-1), x1.2) else (Option.bind (F_X4_isChance v1 v3 v4 x1.2) (fun x2 => (if x2.1 = 0 then some ((-1), x2.2) else (Option.bind (F_X0_isTaken v1 x2.2) (fun x3 => (if x3.1 = 0 then (if ain YY 0 25 v1 = true then (Option.bind (F_X0_weighWays 10 v1 (mi x3.2 25 (Int32.toNatClampNeg v1)) v3 v4 v2 (mi x3.2 22 10) x3.2) (fun x4 => (Option.bind (F_X4_twelveTimes v3 x4.2) (fun x5 => (Option.bind (F_X4_tellRatio x4.1 x5.1 x5.2) (fun x6 => some (x6.1, x6.2))))))) else none) else some ((-4), x3.2))))))))))
set_option maxRecDepth 20000 in
set_option maxHeartbeats 4000000 in
theorem T_X4_odds (v1 : Int32) (v2 : Int32) (v3 : Int32) (v4 : Int32) (u : XM) : GF E0 YY 14 yX4_odds cX4_odds 5 (some .int) 0 [some (.ref 0), some (.int v1), some (.int v2), some (.int v3), some (.int v4)] [] u emI (F_X4_odds v1 v2 v3 v4 u) := by
  unfold F_X4_odds
  refine gf_iload_n (i := 2) (q := 1) dX4_odds_0 rfl rfl rfl ?_
  refine gf_callS_i (n2 := 1) (As := [.int v2]) (st := []) (q := 4) (hlen := rfl) kw338 kw339 dX4_odds_1 kw340 kw1 (by decide +kernel) (by decide) (Nat.le_of_ble_eq_true rfl) (C_X4_isCell v2 u) rfl rfl (fun x1 => ?_)
  refine gf_if_eq (t := 18) (q := 7) dX4_odds_4 (by decide) rfl ?_ ?_
  · refine gf_iconst (q := 19) dX4_odds_18 ki_m1 rfl ?_
    exact gf_reti dX4_odds_19 rfl
  · refine gf_aload_n (i := 0) (q := 8) dX4_odds_7 rfl rfl rfl ?_
    refine gf_iload_n (i := 1) (q := 9) dX4_odds_8 rfl rfl rfl ?_
    refine gf_iload_n (i := 3) (q := 10) dX4_odds_9 rfl rfl rfl ?_
    refine gf_iload (q := 12) dX4_odds_10 rfl rfl ?_
    refine gf_callV_i (n2 := 3) (As := [.int v1, .int v3, .int v4]) (st := []) (b := 0) (ci := 4) (C := RX4) (q := 15) (hlen := rfl) rfl rfl kw520 kw522 kp9 dX4_odds_12 kw523 kw1 (by decide +kernel) (by decide) (Nat.le_of_ble_eq_true rfl) (C_X4_isChance v1 v3 v4 x1.2) rfl rfl (fun x2 => ?_)
    refine gf_if_ne (t := 20) (q := 18) dX4_odds_15 (by decide) rfl ?_ ?_
    · refine gf_iconst (q := 19) dX4_odds_18 ki_m1 rfl ?_
      exact gf_reti dX4_odds_19 rfl
    · refine gf_aload_n (i := 0) (q := 21) dX4_odds_20 rfl rfl rfl ?_
      refine gf_getA (C := RX4) (T := TX4) (N := 15) (ci := 4) (k := 0) (j := 7) (t := 22) (q := 24) dX4_odds_21 rfl rfl kin4 (by decide) kw134 rfl rfl ?_
      refine gf_iload_n (i := 1) (q := 25) dX4_odds_24 rfl rfl rfl ?_
      refine gf_callV_i (n2 := 1) (As := [.int v1]) (st := []) (b := 22) (ci := 0) (C := RX0) (q := 28) (hlen := rfl) rfl rfl kw394 kw277 kw278 dX4_odds_25 kw279 kw3 (by decide +kernel) (by decide) (Nat.le_of_ble_eq_true rfl) (C_X0_isTaken v1 x2.2) rfl rfl (fun x3 => ?_)
      refine gf_if_eq (t := 34) (q := 31) dX4_odds_28 (by decide) rfl ?_ ?_
      · refine gf_aload_n (i := 0) (q := 35) dX4_odds_34 rfl rfl rfl ?_
        refine gf_aload_n (i := 0) (q := 36) dX4_odds_35 rfl rfl rfl ?_
        refine gf_getA (C := RX4) (T := TX4) (N := 15) (ci := 4) (k := 0) (j := 7) (t := 22) (q := 39) dX4_odds_36 rfl rfl kin4 (by decide) kw134 rfl rfl ?_
        refine gf_iload_n (i := 1) (q := 40) dX4_odds_39 rfl rfl rfl ?_
        refine gf_aload_n (i := 0) (q := 41) dX4_odds_40 rfl rfl rfl ?_
        refine gf_getA (C := RX4) (T := TX4) (N := 15) (ci := 4) (k := 0) (j := 7) (t := 22) (q := 44) dX4_odds_41 rfl rfl kin4 (by decide) kw134 rfl rfl ?_
        refine gf_getA (C := RX0) (T := TX0) (N := 12) (ci := 0) (k := 22) (j := 2) (t := 25) (q := 47) dX4_odds_44 rfl rfl kin0 (by decide) kw51 rfl rfl ?_
        refine gf_iload_n (i := 1) (q := 48) dX4_odds_47 rfl rfl rfl ?_
        refine gf_iald (q := 49) dX4_odds_48 rfl ?_
        refine gf_iload_n (i := 3) (q := 50) dX4_odds_49 rfl rfl rfl ?_
        refine gf_iload (q := 52) dX4_odds_50 rfl rfl ?_
        refine gf_iload_n (i := 2) (q := 53) dX4_odds_52 rfl rfl rfl ?_
        refine gf_aload_n (i := 0) (q := 54) dX4_odds_53 rfl rfl rfl ?_
        refine gf_getA (C := RX4) (T := TX4) (N := 15) (ci := 4) (k := 0) (j := 7) (t := 22) (q := 57) dX4_odds_54 rfl rfl kin4 (by decide) kw134 rfl rfl ?_
        refine gf_getI (C := RX0) (T := TX0) (N := 12) (ci := 0) (k := 22) (j := 10) (q := 60) dX4_odds_57 rfl rfl kin0 (by decide) kw68 rfl rfl ?_
        refine gf_callVN_l (n2 := 6) (As := [.int v1, .int (mi x3.2 25 (Int32.toNatClampNeg v1)), .int v3, .int v4, .int v2, .int (mi x3.2 22 10)]) (st := [.ref 0]) (b := 22) (ci := 0) (C := RX0) (q := 63) (hlen := rfl) rfl rfl kn524 kw526 kp10 dX4_odds_60 kw527 kw3 (by decide +kernel) (by decide) (Nat.le_of_ble_eq_true rfl) (C_X0_weighWays 10 v1 (mi x3.2 25 (Int32.toNatClampNeg v1)) v3 v4 v2 (mi x3.2 22 10) x3.2) rfl rfl (fun x4 => ?_)
        refine gf_iload_n (i := 3) (q := 64) dX4_odds_63 rfl rfl rfl ?_
        refine gf_callS_l (n2 := 1) (As := [.int v3]) (st := [.long x4.1, .ref 0]) (q := 67) (hlen := rfl) kw529 kw530 dX4_odds_64 kw531 kw1 (by decide +kernel) (by decide) (Nat.le_of_ble_eq_true rfl) (C_X4_twelveTimes v3 x4.2) rfl rfl (fun x5 => ?_)
        refine gf_callV_i (n2 := 2) (As := [.long x4.1, .long x5.1]) (st := []) (b := 0) (ci := 4) (C := RX4) (q := 70) (hlen := rfl) rfl rfl kw533 kw535 kp11 dX4_odds_67 kw536 kw1 (by decide +kernel) (by decide) (Nat.le_of_ble_eq_true rfl) (C_X4_tellRatio x4.1 x5.1 x5.2) rfl rfl (fun x6 => ?_)
        exact gf_reti dX4_odds_70 rfl
      · refine gf_bipush (q := 33) dX4_odds_31 kb_m4 rfl ?_
        exact gf_reti dX4_odds_33 rfl
theorem C_X4_odds (v1 : Int32) (v2 : Int32) (v3 : Int32) (v4 : Int32) (u : XM) : CF YY 14 yX4_odds cX4_odds 5 (some .int) [.ref 0, .int v1, .int v2, .int v3, .int v4] u emI (F_X4_odds v1 v2 v3 v4 u) := cf_of (by decide +kernel) (Nat.le_of_ble_eq_true rfl) rfl (T_X4_odds v1 v2 v3 v4 u)
def F_X4_mid (v1 : Int32) (v2 : Int32) (v3 : Int32) (u : XM) : Option (Int32 × XM) := (Option.bind (F_X4_isChance v1 v2 v3 u) (fun x1 => (if x1.1 = 0 then some ((-1), x1.2) else (Option.bind (F_X0_isTaken v1 x1.2) (fun x2 => (if x2.1 = 0 then (if ain YY 0 25 v1 = true then (Option.bind (F_X0_weighWays 10 v1 (mi x2.2 25 (Int32.toNatClampNeg v1)) v2 v3 (-9) (mi x2.2 22 10) x2.2) (fun x3 => (Option.bind (F_X4_twelveTimes v2 x3.2) (fun x4 => (Option.bind (F_X4_tellRatio x3.1 x4.1 x4.2) (fun x5 => some (x5.1, x5.2))))))) else none) else some ((-4), x2.2)))))))
set_option maxRecDepth 20000 in
set_option maxHeartbeats 4000000 in
theorem T_X4_mid (v1 : Int32) (v2 : Int32) (v3 : Int32) (u : XM) : GF E0 YY 14 yX4_mid cX4_mid 4 (some .int) 0 [some (.ref 0), some (.int v1), some (.int v2), some (.int v3)] [] u emI (F_X4_mid v1 v2 v3 u) := by
  unfold F_X4_mid
  refine gf_aload_n (i := 0) (q := 1) dX4_mid_0 rfl rfl rfl ?_
  refine gf_iload_n (i := 1) (q := 2) dX4_mid_1 rfl rfl rfl ?_
  refine gf_iload_n (i := 2) (q := 3) dX4_mid_2 rfl rfl rfl ?_
  refine gf_iload_n (i := 3) (q := 4) dX4_mid_3 rfl rfl rfl ?_
  refine gf_callV_i (n2 := 3) (As := [.int v1, .int v2, .int v3]) (st := []) (b := 0) (ci := 4) (C := RX4) (q := 7) (hlen := rfl) rfl rfl kw520 kw522 kp9 dX4_mid_4 kw523 kw1 (by decide +kernel) (by decide) (Nat.le_of_ble_eq_true rfl) (C_X4_isChance v1 v2 v3 u) rfl rfl (fun x1 => ?_)
  refine gf_if_ne (t := 12) (q := 10) dX4_mid_7 (by decide) rfl ?_ ?_
  · refine gf_iconst (q := 11) dX4_mid_10 ki_m1 rfl ?_
    exact gf_reti dX4_mid_11 rfl
  · refine gf_aload_n (i := 0) (q := 13) dX4_mid_12 rfl rfl rfl ?_
    refine gf_getA (C := RX4) (T := TX4) (N := 15) (ci := 4) (k := 0) (j := 7) (t := 22) (q := 16) dX4_mid_13 rfl rfl kin4 (by decide) kw134 rfl rfl ?_
    refine gf_iload_n (i := 1) (q := 17) dX4_mid_16 rfl rfl rfl ?_
    refine gf_callV_i (n2 := 1) (As := [.int v1]) (st := []) (b := 22) (ci := 0) (C := RX0) (q := 20) (hlen := rfl) rfl rfl kw394 kw277 kw278 dX4_mid_17 kw279 kw3 (by decide +kernel) (by decide) (Nat.le_of_ble_eq_true rfl) (C_X0_isTaken v1 x1.2) rfl rfl (fun x2 => ?_)
    refine gf_if_eq (t := 26) (q := 23) dX4_mid_20 (by decide) rfl ?_ ?_
    · refine gf_aload_n (i := 0) (q := 27) dX4_mid_26 rfl rfl rfl ?_
      refine gf_aload_n (i := 0) (q := 28) dX4_mid_27 rfl rfl rfl ?_
      refine gf_getA (C := RX4) (T := TX4) (N := 15) (ci := 4) (k := 0) (j := 7) (t := 22) (q := 31) dX4_mid_28 rfl rfl kin4 (by decide) kw134 rfl rfl ?_
      refine gf_iload_n (i := 1) (q := 32) dX4_mid_31 rfl rfl rfl ?_
      refine gf_aload_n (i := 0) (q := 33) dX4_mid_32 rfl rfl rfl ?_
      refine gf_getA (C := RX4) (T := TX4) (N := 15) (ci := 4) (k := 0) (j := 7) (t := 22) (q := 36) dX4_mid_33 rfl rfl kin4 (by decide) kw134 rfl rfl ?_
      refine gf_getA (C := RX0) (T := TX0) (N := 12) (ci := 0) (k := 22) (j := 2) (t := 25) (q := 39) dX4_mid_36 rfl rfl kin0 (by decide) kw51 rfl rfl ?_
      refine gf_iload_n (i := 1) (q := 40) dX4_mid_39 rfl rfl rfl ?_
      refine gf_iald (q := 41) dX4_mid_40 rfl ?_
      refine gf_iload_n (i := 2) (q := 42) dX4_mid_41 rfl rfl rfl ?_
      refine gf_iload_n (i := 3) (q := 43) dX4_mid_42 rfl rfl rfl ?_
      refine gf_bipush (q := 45) dX4_mid_43 kb_m9 rfl ?_
      refine gf_aload_n (i := 0) (q := 46) dX4_mid_45 rfl rfl rfl ?_
      refine gf_getA (C := RX4) (T := TX4) (N := 15) (ci := 4) (k := 0) (j := 7) (t := 22) (q := 49) dX4_mid_46 rfl rfl kin4 (by decide) kw134 rfl rfl ?_
      refine gf_getI (C := RX0) (T := TX0) (N := 12) (ci := 0) (k := 22) (j := 10) (q := 52) dX4_mid_49 rfl rfl kin0 (by decide) kw68 rfl rfl ?_
      refine gf_callVN_l (n2 := 6) (As := [.int v1, .int (mi x2.2 25 (Int32.toNatClampNeg v1)), .int v2, .int v3, .int (-9), .int (mi x2.2 22 10)]) (st := [.ref 0]) (b := 22) (ci := 0) (C := RX0) (q := 55) (hlen := rfl) rfl rfl kn524 kw526 kp10 dX4_mid_52 kw527 kw3 (by decide +kernel) (by decide) (Nat.le_of_ble_eq_true rfl) (C_X0_weighWays 10 v1 (mi x2.2 25 (Int32.toNatClampNeg v1)) v2 v3 (-9) (mi x2.2 22 10) x2.2) rfl rfl (fun x3 => ?_)
      refine gf_iload_n (i := 2) (q := 56) dX4_mid_55 rfl rfl rfl ?_
      refine gf_callS_l (n2 := 1) (As := [.int v2]) (st := [.long x3.1, .ref 0]) (q := 59) (hlen := rfl) kw529 kw530 dX4_mid_56 kw531 kw1 (by decide +kernel) (by decide) (Nat.le_of_ble_eq_true rfl) (C_X4_twelveTimes v2 x3.2) rfl rfl (fun x4 => ?_)
      refine gf_callV_i (n2 := 2) (As := [.long x3.1, .long x4.1]) (st := []) (b := 0) (ci := 4) (C := RX4) (q := 62) (hlen := rfl) rfl rfl kw533 kw535 kp11 dX4_mid_59 kw536 kw1 (by decide +kernel) (by decide) (Nat.le_of_ble_eq_true rfl) (C_X4_tellRatio x3.1 x4.1 x4.2) rfl rfl (fun x5 => ?_)
      exact gf_reti dX4_mid_62 rfl
    · refine gf_bipush (q := 25) dX4_mid_23 kb_m4 rfl ?_
      exact gf_reti dX4_mid_25 rfl
theorem C_X4_mid (v1 : Int32) (v2 : Int32) (v3 : Int32) (u : XM) : CF YY 14 yX4_mid cX4_mid 4 (some .int) [.ref 0, .int v1, .int v2, .int v3] u emI (F_X4_mid v1 v2 v3 u) := cf_of (by decide +kernel) (Nat.le_of_ble_eq_true rfl) rfl (T_X4_mid v1 v2 v3 u)
def F_X4_lots_63 : Nat → Int32 → Int64 → Int32 → XM → Option (Int32 × XM)
  | 0, _, _, _, _ => none
  | n + 1, v1, v3, v5, u => (if v1 ≤ v5 then some ((mi u 22 9), u) else (Option.bind (F_X0_performLot ((v3 * 48271) - (v3 * 48271) / 2147483647 * 2147483647) u) (fun x1 => F_X4_lots_63 n v1 ((v3 * 48271) - (v3 * 48271) / 2147483647 * 2147483647) (v5 + 1) x1.2)))
set_option maxRecDepth 20000 in
set_option maxHeartbeats 4000000 in
theorem T_X4_lots_63 : ∀ (n : Nat) (v1 : Int32) (v3 : Int64) (v5 : Int32) (u : XM), GF E0 YY 7 yX4_lots cX4_lots 6 (some .int) 63 [some (.ref 0), some (.int v1), none, some (.long v3), none, some (.int v5)] [] u emI (F_X4_lots_63 n v1 v3 v5 u) := by
  intro n
  induction n with
  | zero => intro v1 v3 v5 u; exact gf_none
  | succ n ih =>
    intro v1 v3 v5 u
    unfold F_X4_lots_63
    refine gf_iload (q := 65) dX4_lots_63 rfl rfl ?_
    refine gf_iload_n (i := 1) (q := 66) dX4_lots_65 rfl rfl rfl ?_
    refine gf_icmp_ge (t := 93) (q := 69) dX4_lots_66 (by decide) rfl ?_ ?_
    · refine gf_aload_n (i := 0) (q := 94) dX4_lots_93 rfl rfl rfl ?_
      refine gf_getA (C := RX4) (T := TX4) (N := 15) (ci := 4) (k := 0) (j := 7) (t := 22) (q := 97) dX4_lots_94 rfl rfl kin4 (by decide) kw134 rfl rfl ?_
      refine gf_getI (C := RX0) (T := TX0) (N := 12) (ci := 0) (k := 22) (j := 9) (q := 100) dX4_lots_97 rfl rfl kin0 (by decide) kw66 rfl rfl ?_
      exact gf_reti dX4_lots_100 rfl
    · refine gf_lload_n (i := 3) (q := 70) dX4_lots_69 rfl rfl rfl ?_
      refine gf_ldc2 (q := 73) dX4_lots_70 kw549 rfl ?_
      refine gf_lmul (q := 74) dX4_lots_73 rfl ?_
      refine gf_ldc2 (q := 77) dX4_lots_74 kw548 rfl ?_
      refine gf_lrem_c (q := 78) dX4_lots_77 (by decide) rfl ?_
      refine gf_lstore_n (i := 3) (lv2 := [some (.ref 0), some (.int v1), none, some (.long ((v3 * 48271) - (v3 * 48271) / 2147483647 * 2147483647)), none, some (.int v5)]) (q := 79) dX4_lots_78 rfl (by decide) rfl rfl ?_
      refine gf_aload_n (i := 0) (q := 80) dX4_lots_79 rfl rfl rfl ?_
      refine gf_getA (C := RX4) (T := TX4) (N := 15) (ci := 4) (k := 0) (j := 7) (t := 22) (q := 83) dX4_lots_80 rfl rfl kin4 (by decide) kw134 rfl rfl ?_
      refine gf_lload_n (i := 3) (q := 84) dX4_lots_83 rfl rfl rfl ?_
      refine gf_callV_v (n2 := 1) (As := [.long ((v3 * 48271) - (v3 * 48271) / 2147483647 * 2147483647)]) (st := []) (b := 22) (ci := 0) (C := RX0) (q := 87) (hlen := rfl) rfl rfl kw550 kw551 kw552 dX4_lots_84 kw553 kw3 (by decide +kernel) (by decide) (Nat.le_of_ble_eq_true rfl) (C_X0_performLot ((v3 * 48271) - (v3 * 48271) / 2147483647 * 2147483647) u) rfl rfl (fun x1 => ?_)
      refine gf_iinc (v := (v5 + 1)) (lv2 := [some (.ref 0), some (.int v1), none, some (.long ((v3 * 48271) - (v3 * 48271) / 2147483647 * 2147483647)), none, some (.int (v5 + 1))]) (q := 90) dX4_lots_87 rfl (congrArg _ ki_1) (by decide) rfl rfl ?_
      refine gf_goto (q := 63) dX4_lots_90 (by decide) ?_
      exact (ih v1 ((v3 * 48271) - (v3 * 48271) / 2147483647 * 2147483647) (v5 + 1) x1.2)
def F_X4_lots (v1 : Int32) (v2 : Int32) (u : XM) : Option (Int32 × XM) := (if v1 < 1 then some ((-1), u) else (if 20 < v1 then some ((-1), u) else (if v2 < 1 then some ((-1), u) else (if (lg_cmp (Int32.toInt64 v2) 2147483647) < 0 then (if (mi u 22 6) = 0 then some ((-4), u) else (if ((mi u 22 11) + v1) ≤ 40 then F_X4_lots_63 FU v1 (Int32.toInt64 v2) 0 u else some ((-2), u))) else some ((-1), u)))))
set_option maxRecDepth 20000 in
set_option maxHeartbeats 4000000 in
theorem T_X4_lots (v1 : Int32) (v2 : Int32) (u : XM) : GF E0 YY 7 yX4_lots cX4_lots 6 (some .int) 0 [some (.ref 0), some (.int v1), some (.int v2), none, none, none] [] u emI (F_X4_lots v1 v2 u) := by
  unfold F_X4_lots
  refine gf_iload_n (i := 1) (q := 1) dX4_lots_0 rfl rfl rfl ?_
  refine gf_iconst (q := 2) dX4_lots_1 ki_1 rfl ?_
  refine gf_icmp_lt (t := 25) (q := 5) dX4_lots_2 (by decide) rfl ?_ ?_
  · refine gf_iconst (q := 26) dX4_lots_25 ki_m1 rfl ?_
    exact gf_reti dX4_lots_26 rfl
  · refine gf_iload_n (i := 1) (q := 6) dX4_lots_5 rfl rfl rfl ?_
    refine gf_bipush (q := 8) dX4_lots_6 kb_20 rfl ?_
    refine gf_icmp_gt (t := 25) (q := 11) dX4_lots_8 (by decide) rfl ?_ ?_
    · refine gf_iconst (q := 26) dX4_lots_25 ki_m1 rfl ?_
      exact gf_reti dX4_lots_26 rfl
    · refine gf_iload_n (i := 2) (q := 12) dX4_lots_11 rfl rfl rfl ?_
      refine gf_iconst (q := 13) dX4_lots_12 ki_1 rfl ?_
      refine gf_icmp_lt (t := 25) (q := 16) dX4_lots_13 (by decide) rfl ?_ ?_
      · refine gf_iconst (q := 26) dX4_lots_25 ki_m1 rfl ?_
        exact gf_reti dX4_lots_26 rfl
      · refine gf_iload_n (i := 2) (q := 17) dX4_lots_16 rfl rfl rfl ?_
        refine gf_i2l (q := 18) dX4_lots_17 rfl ?_
        refine gf_ldc2 (q := 21) dX4_lots_18 kw548 rfl ?_
        refine gf_lcmp (q := 22) dX4_lots_21 rfl ?_
        refine gf_if_lt (t := 27) (q := 25) dX4_lots_22 (by decide) rfl ?_ ?_
        · refine gf_aload_n (i := 0) (q := 28) dX4_lots_27 rfl rfl rfl ?_
          refine gf_getA (C := RX4) (T := TX4) (N := 15) (ci := 4) (k := 0) (j := 7) (t := 22) (q := 31) dX4_lots_28 rfl rfl kin4 (by decide) kw134 rfl rfl ?_
          refine gf_getI (C := RX0) (T := TX0) (N := 12) (ci := 0) (k := 22) (j := 6) (q := 34) dX4_lots_31 rfl rfl kin0 (by decide) kw61 rfl rfl ?_
          refine gf_if_ne (t := 40) (q := 37) dX4_lots_34 (by decide) rfl ?_ ?_
          · refine gf_bipush (q := 39) dX4_lots_37 kb_m4 rfl ?_
            exact gf_reti dX4_lots_39 rfl
          · refine gf_aload_n (i := 0) (q := 41) dX4_lots_40 rfl rfl rfl ?_
            refine gf_getA (C := RX4) (T := TX4) (N := 15) (ci := 4) (k := 0) (j := 7) (t := 22) (q := 44) dX4_lots_41 rfl rfl kin4 (by decide) kw134 rfl rfl ?_
            refine gf_getI (C := RX0) (T := TX0) (N := 12) (ci := 0) (k := 22) (j := 11) (q := 47) dX4_lots_44 rfl rfl kin0 (by decide) kw70 rfl rfl ?_
            refine gf_iload_n (i := 1) (q := 48) dX4_lots_47 rfl rfl rfl ?_
            refine gf_iadd (q := 49) dX4_lots_48 rfl ?_
            refine gf_bipush (q := 51) dX4_lots_49 kb_40 rfl ?_
            refine gf_icmp_le (t := 57) (q := 54) dX4_lots_51 (by decide) rfl ?_ ?_
            · refine gf_iload_n (i := 2) (q := 58) dX4_lots_57 rfl rfl rfl ?_
              refine gf_i2l (q := 59) dX4_lots_58 rfl ?_
              refine gf_lstore_n (i := 3) (lv2 := [some (.ref 0), some (.int v1), some (.int v2), some (.long (Int32.toInt64 v2)), none, none]) (q := 60) dX4_lots_59 rfl (by decide) rfl rfl ?_
              refine gf_iconst (q := 61) dX4_lots_60 ki_0 rfl ?_
              refine gf_istore (lv2 := [some (.ref 0), some (.int v1), some (.int v2), some (.long (Int32.toInt64 v2)), none, some (.int 0)]) (q := 63) dX4_lots_61 (by decide) rfl rfl ?_
              exact gf_mask (b := [true, true, false, true, false, true]) rfl (T_X4_lots_63 FU v1 (Int32.toInt64 v2) 0 u)
            · refine gf_bipush (q := 56) dX4_lots_54 kb_m2 rfl ?_
              exact gf_reti dX4_lots_56 rfl
        · refine gf_iconst (q := 26) dX4_lots_25 ki_m1 rfl ?_
          exact gf_reti dX4_lots_26 rfl
theorem C_X4_lots (v1 : Int32) (v2 : Int32) (u : XM) : CF YY 7 yX4_lots cX4_lots 6 (some .int) [.ref 0, .int v1, .int v2] u emI (F_X4_lots v1 v2 u) := cf_of (by decide +kernel) (Nat.le_of_ble_eq_true rfl) rfl (T_X4_lots v1 v2 u)
def F_X4_asked  (u : XM) : Option (Int32 × XM) := some ((mi u 0 12), u)
set_option maxRecDepth 20000 in
set_option maxHeartbeats 4000000 in
theorem T_X4_asked  (u : XM) : GF E0 YY 1 yX4_asked cX4_asked 1 (some .int) 0 [some (.ref 0)] [] u emI (F_X4_asked u) := by
  unfold F_X4_asked
  refine gf_aload_n (i := 0) (q := 1) dX4_asked_0 rfl rfl rfl ?_
  refine gf_getI (C := RX4) (T := TX4) (N := 15) (ci := 4) (k := 0) (j := 12) (q := 4) dX4_asked_1 rfl rfl kin4 (by decide) kw139 rfl rfl ?_
  exact gf_reti dX4_asked_4 rfl
theorem C_X4_asked  (u : XM) : CF YY 1 yX4_asked cX4_asked 1 (some .int) [.ref 0] u emI (F_X4_asked u) := cf_of (by decide +kernel) (Nat.le_of_ble_eq_true rfl) rfl (T_X4_asked u)
def F_X4_upper  (u : XM) : Option (Int64 × XM) := some ((ml u 0 13), u)
set_option maxRecDepth 20000 in
set_option maxHeartbeats 4000000 in
theorem T_X4_upper  (u : XM) : GF E0 YY 1 yX4_upper cX4_upper 1 (some .long) 0 [some (.ref 0)] [] u emL (F_X4_upper u) := by
  unfold F_X4_upper
  refine gf_aload_n (i := 0) (q := 1) dX4_upper_0 rfl rfl rfl ?_
  refine gf_getL (C := RX4) (T := TX4) (N := 15) (ci := 4) (k := 0) (j := 13) (q := 4) dX4_upper_1 rfl rfl kin4 (by decide) kw140 rfl rfl ?_
  exact gf_retl dX4_upper_4 rfl
theorem C_X4_upper  (u : XM) : CF YY 1 yX4_upper cX4_upper 1 (some .long) [.ref 0] u emL (F_X4_upper u) := cf_of (by decide +kernel) (Nat.le_of_ble_eq_true rfl) rfl (T_X4_upper u)
def F_X4_lower  (u : XM) : Option (Int64 × XM) := some ((ml u 0 14), u)
set_option maxRecDepth 20000 in
set_option maxHeartbeats 4000000 in
theorem T_X4_lower  (u : XM) : GF E0 YY 1 yX4_lower cX4_lower 1 (some .long) 0 [some (.ref 0)] [] u emL (F_X4_lower u) := by
  unfold F_X4_lower
  refine gf_aload_n (i := 0) (q := 1) dX4_lower_0 rfl rfl rfl ?_
  refine gf_getL (C := RX4) (T := TX4) (N := 15) (ci := 4) (k := 0) (j := 14) (q := 4) dX4_lower_1 rfl rfl kin4 (by decide) kw141 rfl rfl ?_
  exact gf_retl dX4_lower_4 rfl
theorem C_X4_lower  (u : XM) : CF YY 1 yX4_lower cX4_lower 1 (some .long) [.ref 0] u emL (F_X4_lower u) := cf_of (by decide +kernel) (Nat.le_of_ble_eq_true rfl) rfl (T_X4_lower u)
