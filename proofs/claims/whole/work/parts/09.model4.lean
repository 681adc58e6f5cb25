def F_X5_count (v1 : Int32) (u : XM) : Option (Int32 × XM) := (Option.bind (F_X5_in (Int32.toInt64 v1) 0 10 u) (fun x1 => (if x1.1 = 0 then some ((-1), x1.2) else (Option.bind (F_X5_counted v1 x1.2) (fun x2 => some (x2.1, x2.2))))))
set_option maxRecDepth 20000 in
set_option maxHeartbeats 4000000 in
theorem T_X5_count (v1 : Int32) (u : XM) : GF E0 YY 4 yX5_count cX5_count 2 (some .int) 0 [some (.ref 35), some (.int v1)] [] u emI (F_X5_count v1 u) := by
  unfold F_X5_count
  refine gf_iload_n (i := 1) (q := 1) dX5_count_0 rfl rfl rfl ?_
  refine gf_i2l (q := 2) dX5_count_1 rfl ?_
  refine gf_lconst (v := 0) (q := 3) dX5_count_2 rfl rfl ?_
  refine gf_ldc2 (q := 6) dX5_count_3 kw1068 rfl ?_
  refine gf_callS_i (n2 := 3) (As := [.long (Int32.toInt64 v1), .long 0, .long 10]) (st := []) (q := 9) (hlen := rfl) kw713 kw714 dX5_count_6 kw715 kw7 (by decide +kernel) (by decide) (Nat.le_of_ble_eq_true rfl) (C_X5_in (Int32.toInt64 v1) 0 10 u) rfl rfl (fun x1 => ?_)
  refine gf_if_eq (t := 20) (q := 12) dX5_count_9 (by decide) rfl ?_ ?_
  · refine gf_iconst (q := 21) dX5_count_20 ki_m1 rfl ?_
    exact gf_reti dX5_count_21 rfl
  · refine gf_aload_n (i := 0) (q := 13) dX5_count_12 rfl rfl rfl ?_
    refine gf_iload_n (i := 1) (q := 14) dX5_count_13 rfl rfl rfl ?_
    refine gf_callV_i (n2 := 1) (As := [.int v1]) (st := []) (b := 35) (ci := 5) (C := RX5) (q := 17) (hlen := rfl) rfl rfl kw1069 kw1071 kp50 dX5_count_14 kw1072 kw7 (by decide +kernel) (by decide) (Nat.le_of_ble_eq_true rfl) (C_X5_counted v1 x1.2) rfl rfl (fun x2 => ?_)
    refine gf_goto (q := 21) dX5_count_17 (by decide) ?_
    exact gf_reti dX5_count_21 rfl
theorem C_X5_count (v1 : Int32) (u : XM) : CF YY 4 yX5_count cX5_count 2 (some .int) [.ref 35, .int v1] u emI (F_X5_count v1 u) := cf_of (by decide +kernel) (Nat.le_of_ble_eq_true rfl) rfl (T_X5_count v1 u)
def F_X5_finding  (u : XM) : Option (Int32 × XM) := some ((mi u 35 17), u)
set_option maxRecDepth 20000 in
set_option maxHeartbeats 4000000 in
theorem T_X5_finding  (u : XM) : GF E0 YY 1 yX5_finding cX5_finding 1 (some .int) 0 [some (.ref 35)] [] u emI (F_X5_finding u) := by
  unfold F_X5_finding
  refine gf_aload_n (i := 0) (q := 1) dX5_finding_0 rfl rfl rfl ?_
  refine gf_getI (C := RX5) (T := TX5) (N := 33) (ci := 5) (k := 35) (j := 17) (q := 4) dX5_finding_1 rfl rfl kin5 (by decide) kw621 rfl rfl ?_
  exact gf_reti dX5_finding_4 rfl
theorem C_X5_finding  (u : XM) : CF YY 1 yX5_finding cX5_finding 1 (some .int) [.ref 35] u emI (F_X5_finding u) := cf_of (by decide +kernel) (Nat.le_of_ble_eq_true rfl) rfl (T_X5_finding u)
def F_X5_findings (v1 : Int32) (u : XM) : Option (Int32 × XM) := (Option.bind (F_X5_in (Int32.toInt64 v1) 1 5 u) (fun x1 => (if x1.1 = 0 then some ((-1), x1.2) else (if ain YY 0 47 v1 = true then some ((mi x1.2 47 (Int32.toNatClampNeg v1)), x1.2) else none))))
set_option maxRecDepth 20000 in
set_option maxHeartbeats 4000000 in
theorem T_X5_findings (v1 : Int32) (u : XM) : GF E0 YY 2 yX5_findings cX5_findings 2 (some .int) 0 [some (.ref 35), some (.int v1)] [] u emI (F_X5_findings v1 u) := by
  unfold F_X5_findings
  refine gf_iload_n (i := 1) (q := 1) dX5_findings_0 rfl rfl rfl ?_
  refine gf_i2l (q := 2) dX5_findings_1 rfl ?_
  refine gf_lconst (v := 1) (q := 3) dX5_findings_2 rfl rfl ?_
  refine gf_ldc2 (q := 6) dX5_findings_3 kw712 rfl ?_
  refine gf_callS_i (n2 := 3) (As := [.long (Int32.toInt64 v1), .long 1, .long 5]) (st := []) (q := 9) (hlen := rfl) kw713 kw714 dX5_findings_6 kw715 kw7 (by decide +kernel) (by decide) (Nat.le_of_ble_eq_true rfl) (C_X5_in (Int32.toInt64 v1) 1 5 u) rfl rfl (fun x1 => ?_)
  refine gf_if_eq (t := 21) (q := 12) dX5_findings_9 (by decide) rfl ?_ ?_
  · refine gf_iconst (q := 22) dX5_findings_21 ki_m1 rfl ?_
    exact gf_reti dX5_findings_22 rfl
  · refine gf_aload_n (i := 0) (q := 13) dX5_findings_12 rfl rfl rfl ?_
    refine gf_getA (C := RX5) (T := TX5) (N := 33) (ci := 5) (k := 35) (j := 18) (t := 47) (q := 16) dX5_findings_13 rfl rfl kin5 (by decide) kw622 rfl rfl ?_
    refine gf_iload_n (i := 1) (q := 17) dX5_findings_16 rfl rfl rfl ?_
    refine gf_iald (q := 18) dX5_findings_17 rfl ?_
    refine gf_goto (q := 22) dX5_findings_18 (by decide) ?_
    exact gf_reti dX5_findings_22 rfl
theorem C_X5_findings (v1 : Int32) (u : XM) : CF YY 2 yX5_findings cX5_findings 2 (some .int) [.ref 35, .int v1] u emI (F_X5_findings v1 u) := cf_of (by decide +kernel) (Nat.le_of_ble_eq_true rfl) rfl (T_X5_findings v1 u)
def F_X5_digest_217 (k195 : Int64 → Int32 → XM → Option (Int64 × XM)) : Nat → Int64 → Int32 → Int32 → XM → Option (Int64 × XM)
  | 0, _, _, _, _ => none
  | n + 1, v1, v3, v4, u => (if ain YY 0 38 v3 = true then (if (mi u 38 (Int32.toNatClampNeg v3)) ≤ v4 then k195 v1 (v3 + 1) u else (if ain YY 0 39 ((60 * v3) + v4) = true then F_X5_digest_217 k195 n ((31 * v1) + (Int32.toInt64 (mi u 39 (Int32.toNatClampNeg ((60 * v3) + v4))))) v3 (v4 + 1) u else none)) else none)
set_option maxRecDepth 20000 in
set_option maxHeartbeats 4000000 in
theorem T_X5_digest_217 (k195 : Int64 → Int32 → XM → Option (Int64 × XM)) (hk195 : ∀ (v1 : Int64) (v3 : Int32) (u : XM), GF E0 YY 4 yX5_digest cX5_digest 5 (some .long) 195 [some (.ref 35), some (.long v1), none, some (.int v3), none] [] u emL (k195 v1 v3 u)) : ∀ (n : Nat) (v1 : Int64) (v3 : Int32) (v4 : Int32) (u : XM), GF E0 YY 4 yX5_digest cX5_digest 5 (some .long) 217 [some (.ref 35), some (.long v1), none, some (.int v3), some (.int v4)] [] u emL (F_X5_digest_217 k195 n v1 v3 v4 u) := by
  intro n
  induction n with
  | zero => intro v1 v3 v4 u; exact gf_none
  | succ n ih =>
    intro v1 v3 v4 u
    unfold F_X5_digest_217
    refine gf_iload (q := 219) dX5_digest_217 rfl rfl ?_
    refine gf_aload_n (i := 0) (q := 220) dX5_digest_219 rfl rfl rfl ?_
    refine gf_getA (C := RX5) (T := TX5) (N := 33) (ci := 5) (k := 35) (j := 2) (t := 38) (q := 223) dX5_digest_220 rfl rfl kin5 (by decide) kw606 rfl rfl ?_
    refine gf_iload_n (i := 3) (q := 224) dX5_digest_223 rfl rfl rfl ?_
    refine gf_iald (q := 225) dX5_digest_224 rfl ?_
    refine gf_icmp_ge (t := 254) (q := 228) dX5_digest_225 (by decide) rfl ?_ ?_
    · refine gf_iinc (v := (v3 + 1)) (lv2 := [some (.ref 35), some (.long v1), none, some (.int (v3 + 1)), some (.int v4)]) (q := 257) dX5_digest_254 rfl (congrArg _ ki_1) (by decide) rfl rfl ?_
      refine gf_goto (q := 195) dX5_digest_257 (by decide) ?_
      exact gf_mask (b := [true, true, false, true, false]) rfl (hk195 v1 (v3 + 1) u)
    · refine gf_ldc2 (q := 231) dX5_digest_228 kw1086 rfl ?_
      refine gf_lload_n (i := 1) (q := 232) dX5_digest_231 rfl rfl rfl ?_
      refine gf_lmul (q := 233) dX5_digest_232 rfl ?_
      refine gf_aload_n (i := 0) (q := 234) dX5_digest_233 rfl rfl rfl ?_
      refine gf_getA (C := RX5) (T := TX5) (N := 33) (ci := 5) (k := 35) (j := 3) (t := 39) (q := 237) dX5_digest_234 rfl rfl kin5 (by decide) kw607 rfl rfl ?_
      refine gf_bipush (q := 239) dX5_digest_237 kb_60 rfl ?_
      refine gf_iload_n (i := 3) (q := 240) dX5_digest_239 rfl rfl rfl ?_
      refine gf_imul (q := 241) dX5_digest_240 rfl ?_
      refine gf_iload (q := 243) dX5_digest_241 rfl rfl ?_
      refine gf_iadd (q := 244) dX5_digest_243 rfl ?_
      refine gf_iald (q := 245) dX5_digest_244 rfl ?_
      refine gf_i2l (q := 246) dX5_digest_245 rfl ?_
      refine gf_ladd (q := 247) dX5_digest_246 rfl ?_
      refine gf_lstore_n (i := 1) (lv2 := [some (.ref 35), some (.long ((31 * v1) + (Int32.toInt64 (mi u 39 (Int32.toNatClampNeg ((60 * v3) + v4)))))), none, some (.int v3), some (.int v4)]) (q := 248) dX5_digest_247 rfl (by decide) rfl rfl ?_
      refine gf_iinc (v := (v4 + 1)) (lv2 := [some (.ref 35), some (.long ((31 * v1) + (Int32.toInt64 (mi u 39 (Int32.toNatClampNeg ((60 * v3) + v4)))))), none, some (.int v3), some (.int (v4 + 1))]) (q := 251) dX5_digest_248 rfl (congrArg _ ki_1) (by decide) rfl rfl ?_
      refine gf_goto (q := 217) dX5_digest_251 (by decide) ?_
      exact (ih ((31 * v1) + (Int32.toInt64 (mi u 39 (Int32.toNatClampNeg ((60 * v3) + v4))))) v3 (v4 + 1) u)
def F_X5_digest_195 : Nat → Int64 → Int32 → XM → Option (Int64 × XM)
  | 0, _, _, _ => none
  | n + 1, v1, v3, u => (if 4 ≤ v3 then some (v1, u) else (if ain YY 0 38 v3 = true then F_X5_digest_217 (F_X5_digest_195 n) FU ((31 * v1) + (Int32.toInt64 (mi u 38 (Int32.toNatClampNeg v3)))) v3 0 u else none))
set_option maxRecDepth 20000 in
set_option maxHeartbeats 4000000 in
theorem T_X5_digest_195 : ∀ (n : Nat) (v1 : Int64) (v3 : Int32) (u : XM), GF E0 YY 4 yX5_digest cX5_digest 5 (some .long) 195 [some (.ref 35), some (.long v1), none, some (.int v3), none] [] u emL (F_X5_digest_195 n v1 v3 u) := by
  intro n
  induction n with
  | zero => intro v1 v3 u; exact gf_none
  | succ n ih =>
    intro v1 v3 u
    unfold F_X5_digest_195
    refine gf_iload_n (i := 3) (q := 196) dX5_digest_195 rfl rfl rfl ?_
    refine gf_iconst (q := 197) dX5_digest_196 ki_4 rfl ?_
    refine gf_icmp_ge (t := 260) (q := 200) dX5_digest_197 (by decide) rfl ?_ ?_
    · refine gf_lload_n (i := 1) (q := 261) dX5_digest_260 rfl rfl rfl ?_
      exact gf_retl dX5_digest_261 rfl
    · refine gf_ldc2 (q := 203) dX5_digest_200 kw1086 rfl ?_
      refine gf_lload_n (i := 1) (q := 204) dX5_digest_203 rfl rfl rfl ?_
      refine gf_lmul (q := 205) dX5_digest_204 rfl ?_
      refine gf_aload_n (i := 0) (q := 206) dX5_digest_205 rfl rfl rfl ?_
      refine gf_getA (C := RX5) (T := TX5) (N := 33) (ci := 5) (k := 35) (j := 2) (t := 38) (q := 209) dX5_digest_206 rfl rfl kin5 (by decide) kw606 rfl rfl ?_
      refine gf_iload_n (i := 3) (q := 210) dX5_digest_209 rfl rfl rfl ?_
      refine gf_iald (q := 211) dX5_digest_210 rfl ?_
      refine gf_i2l (q := 212) dX5_digest_211 rfl ?_
      refine gf_ladd (q := 213) dX5_digest_212 rfl ?_
      refine gf_lstore_n (i := 1) (lv2 := [some (.ref 35), some (.long ((31 * v1) + (Int32.toInt64 (mi u 38 (Int32.toNatClampNeg v3))))), none, some (.int v3), none]) (q := 214) dX5_digest_213 rfl (by decide) rfl rfl ?_
      refine gf_iconst (q := 215) dX5_digest_214 ki_0 rfl ?_
      refine gf_istore (lv2 := [some (.ref 35), some (.long ((31 * v1) + (Int32.toInt64 (mi u 38 (Int32.toNatClampNeg v3))))), none, some (.int v3), some (.int 0)]) (q := 217) dX5_digest_215 (by decide) rfl rfl ?_
      exact (T_X5_digest_217 (F_X5_digest_195 n) ih FU ((31 * v1) + (Int32.toInt64 (mi u 38 (Int32.toNatClampNeg v3)))) v3 0 u)
def F_X5_digest_150 (k127 : Int64 → Int32 → XM → Option (Int64 × XM)) : Nat → Int64 → Int32 → Int32 → XM → Option (Int64 × XM)
  | 0, _, _, _, _ => none
  | n + 1, v1, v3, v4, u => (if ain YY 0 36 v3 = true then (if (mi u 36 (Int32.toNatClampNeg v3)) ≤ v4 then k127 v1 (v3 + 1) u else (if ain YY 0 37 ((40 * v3) + v4) = true then F_X5_digest_150 k127 n ((31 * v1) + (Int32.toInt64 (mi u 37 (Int32.toNatClampNeg ((40 * v3) + v4))))) v3 (v4 + 1) u else none)) else none)
set_option maxRecDepth 20000 in
set_option maxHeartbeats 4000000 in
theorem T_X5_digest_150 (k127 : Int64 → Int32 → XM → Option (Int64 × XM)) (hk127 : ∀ (v1 : Int64) (v3 : Int32) (u : XM), GF E0 YY 4 yX5_digest cX5_digest 5 (some .long) 127 [some (.ref 35), some (.long v1), none, some (.int v3), none] [] u emL (k127 v1 v3 u)) : ∀ (n : Nat) (v1 : Int64) (v3 : Int32) (v4 : Int32) (u : XM), GF E0 YY 4 yX5_digest cX5_digest 5 (some .long) 150 [some (.ref 35), some (.long v1), none, some (.int v3), some (.int v4)] [] u emL (F_X5_digest_150 k127 n v1 v3 v4 u) := by
  intro n
  induction n with
  | zero => intro v1 v3 v4 u; exact gf_none
  | succ n ih =>
    intro v1 v3 v4 u
    unfold F_X5_digest_150
    refine gf_iload (q := 152) dX5_digest_150 rfl rfl ?_
    refine gf_aload_n (i := 0) (q := 153) dX5_digest_152 rfl rfl rfl ?_
    refine gf_getA (C := RX5) (T := TX5) (N := 33) (ci := 5) (k := 35) (j := 0) (t := 36) (q := 156) dX5_digest_153 rfl rfl kin5 (by decide) kw604 rfl rfl ?_
    refine gf_iload_n (i := 3) (q := 157) dX5_digest_156 rfl rfl rfl ?_
    refine gf_iald (q := 158) dX5_digest_157 rfl ?_
    refine gf_icmp_ge (t := 187) (q := 161) dX5_digest_158 (by decide) rfl ?_ ?_
    · refine gf_iinc (v := (v3 + 1)) (lv2 := [some (.ref 35), some (.long v1), none, some (.int (v3 + 1)), some (.int v4)]) (q := 190) dX5_digest_187 rfl (congrArg _ ki_1) (by decide) rfl rfl ?_
      refine gf_goto (q := 127) dX5_digest_190 (by decide) ?_
      exact gf_mask (b := [true, true, false, true, false]) rfl (hk127 v1 (v3 + 1) u)
    · refine gf_ldc2 (q := 164) dX5_digest_161 kw1086 rfl ?_
      refine gf_lload_n (i := 1) (q := 165) dX5_digest_164 rfl rfl rfl ?_
      refine gf_lmul (q := 166) dX5_digest_165 rfl ?_
      refine gf_aload_n (i := 0) (q := 167) dX5_digest_166 rfl rfl rfl ?_
      refine gf_getA (C := RX5) (T := TX5) (N := 33) (ci := 5) (k := 35) (j := 1) (t := 37) (q := 170) dX5_digest_167 rfl rfl kin5 (by decide) kw605 rfl rfl ?_
      refine gf_bipush (q := 172) dX5_digest_170 kb_40 rfl ?_
      refine gf_iload_n (i := 3) (q := 173) dX5_digest_172 rfl rfl rfl ?_
      refine gf_imul (q := 174) dX5_digest_173 rfl ?_
      refine gf_iload (q := 176) dX5_digest_174 rfl rfl ?_
      refine gf_iadd (q := 177) dX5_digest_176 rfl ?_
      refine gf_iald (q := 178) dX5_digest_177 rfl ?_
      refine gf_i2l (q := 179) dX5_digest_178 rfl ?_
      refine gf_ladd (q := 180) dX5_digest_179 rfl ?_
      refine gf_lstore_n (i := 1) (lv2 := [some (.ref 35), some (.long ((31 * v1) + (Int32.toInt64 (mi u 37 (Int32.toNatClampNeg ((40 * v3) + v4)))))), none, some (.int v3), some (.int v4)]) (q := 181) dX5_digest_180 rfl (by decide) rfl rfl ?_
      refine gf_iinc (v := (v4 + 1)) (lv2 := [some (.ref 35), some (.long ((31 * v1) + (Int32.toInt64 (mi u 37 (Int32.toNatClampNeg ((40 * v3) + v4)))))), none, some (.int v3), some (.int (v4 + 1))]) (q := 184) dX5_digest_181 rfl (congrArg _ ki_1) (by decide) rfl rfl ?_
      refine gf_goto (q := 150) dX5_digest_184 (by decide) ?_
      exact (ih ((31 * v1) + (Int32.toInt64 (mi u 37 (Int32.toNatClampNeg ((40 * v3) + v4))))) v3 (v4 + 1) u)
def F_X5_digest_127 : Nat → Int64 → Int32 → XM → Option (Int64 × XM)
  | 0, _, _, _ => none
  | n + 1, v1, v3, u => (if 6 ≤ v3 then F_X5_digest_195 FU v1 0 u else (if ain YY 0 36 v3 = true then F_X5_digest_150 (F_X5_digest_127 n) FU ((31 * v1) + (Int32.toInt64 (mi u 36 (Int32.toNatClampNeg v3)))) v3 0 u else none))
set_option maxRecDepth 20000 in
set_option maxHeartbeats 4000000 in
theorem T_X5_digest_127 : ∀ (n : Nat) (v1 : Int64) (v3 : Int32) (u : XM), GF E0 YY 4 yX5_digest cX5_digest 5 (some .long) 127 [some (.ref 35), some (.long v1), none, some (.int v3), none] [] u emL (F_X5_digest_127 n v1 v3 u) := by
  intro n
  induction n with
  | zero => intro v1 v3 u; exact gf_none
  | succ n ih =>
    intro v1 v3 u
    unfold F_X5_digest_127
    refine gf_iload_n (i := 3) (q := 128) dX5_digest_127 rfl rfl rfl ?_
    refine gf_bipush (q := 130) dX5_digest_128 kb_6 rfl ?_
    refine gf_icmp_ge (t := 193) (q := 133) dX5_digest_130 (by decide) rfl ?_ ?_
    · refine gf_iconst (q := 194) dX5_digest_193 ki_0 rfl ?_
      refine gf_istore_n (i := 3) (lv2 := [some (.ref 35), some (.long v1), none, some (.int 0), none]) (q := 195) dX5_digest_194 rfl (by decide) rfl rfl ?_
      exact (T_X5_digest_195 FU v1 0 u)
    · refine gf_ldc2 (q := 136) dX5_digest_133 kw1086 rfl ?_
      refine gf_lload_n (i := 1) (q := 137) dX5_digest_136 rfl rfl rfl ?_
      refine gf_lmul (q := 138) dX5_digest_137 rfl ?_
      refine gf_aload_n (i := 0) (q := 139) dX5_digest_138 rfl rfl rfl ?_
      refine gf_getA (C := RX5) (T := TX5) (N := 33) (ci := 5) (k := 35) (j := 0) (t := 36) (q := 142) dX5_digest_139 rfl rfl kin5 (by decide) kw604 rfl rfl ?_
      refine gf_iload_n (i := 3) (q := 143) dX5_digest_142 rfl rfl rfl ?_
      refine gf_iald (q := 144) dX5_digest_143 rfl ?_
      refine gf_i2l (q := 145) dX5_digest_144 rfl ?_
      refine gf_ladd (q := 146) dX5_digest_145 rfl ?_
      refine gf_lstore_n (i := 1) (lv2 := [some (.ref 35), some (.long ((31 * v1) + (Int32.toInt64 (mi u 36 (Int32.toNatClampNeg v3))))), none, some (.int v3), none]) (q := 147) dX5_digest_146 rfl (by decide) rfl rfl ?_
      refine gf_iconst (q := 148) dX5_digest_147 ki_0 rfl ?_
      refine gf_istore (lv2 := [some (.ref 35), some (.long ((31 * v1) + (Int32.toInt64 (mi u 36 (Int32.toNatClampNeg v3))))), none, some (.int v3), some (.int 0)]) (q := 150) dX5_digest_148 (by decide) rfl rfl ?_
      exact (T_X5_digest_150 (F_X5_digest_127 n) ih FU ((31 * v1) + (Int32.toInt64 (mi u 36 (Int32.toNatClampNeg v3)))) v3 0 u)
def F_X5_digest_116 (k79 : Int64 → Int32 → XM → Option (Int64 × XM)) (v3 : Int32) (s0 : Int32) (s1 : Int64) (u : XM) : Option (Int64 × XM) := k79 (s1 + (Int32.toInt64 s0)) (v3 + 1) u
set_option maxRecDepth 20000 in
set_option maxHeartbeats 4000000 in
theorem T_X5_digest_116 (k79 : Int64 → Int32 → XM → Option (Int64 × XM)) (hk79 : ∀ (v1 : Int64) (v3 : Int32) (u : XM), GF E0 YY 4 yX5_digest cX5_digest 5 (some .long) 79 [some (.ref 35), some (.long v1), none, some (.int v3), none] [] u emL (k79 v1 v3 u)) (v3 : Int32) (s0 : Int32) (s1 : Int64) (u : XM) : GF E0 YY 4 yX5_digest cX5_digest 5 (some .long) 116 [some (.ref 35), none, none, some (.int v3), none] [.int s0, .long s1] u emL (F_X5_digest_116 k79 v3 s0 s1 u) := by
  unfold F_X5_digest_116
  refine gf_i2l (q := 117) dX5_digest_116 rfl ?_
  refine gf_ladd (q := 118) dX5_digest_117 rfl ?_
  refine gf_lstore_n (i := 1) (lv2 := [some (.ref 35), some (.long (s1 + (Int32.toInt64 s0))), none, some (.int v3), none]) (q := 119) dX5_digest_118 rfl (by decide) rfl rfl ?_
  refine gf_iinc (v := (v3 + 1)) (lv2 := [some (.ref 35), some (.long (s1 + (Int32.toInt64 s0))), none, some (.int (v3 + 1)), none]) (q := 122) dX5_digest_119 rfl (congrArg _ ki_1) (by decide) rfl rfl ?_
  refine gf_goto (q := 79) dX5_digest_122 (by decide) ?_
  exact (hk79 (s1 + (Int32.toInt64 s0)) (v3 + 1) u)
def F_X5_digest_79 : Nat → Int64 → Int32 → XM → Option (Int64 × XM)
  | 0, _, _, _ => none
  | n + 1, v1, v3, u => (if 3 ≤ v3 then F_X5_digest_127 FU v1 0 u else (if ain YY 2 46 v3 = true then (if (mi u 46 (Int32.toNatClampNeg v3)) = 0 then F_X5_digest_116 (F_X5_digest_79 n) v3 (-1) (31 * v1) u else (if ain YY 0 45 ((329 * v3) + 328) = true then F_X5_digest_116 (F_X5_digest_79 n) v3 (mi u 45 (Int32.toNatClampNeg ((329 * v3) + 328))) (31 * v1) u else none)) else none))
set_option maxRecDepth 20000 in
set_option maxHeartbeats 4000000 in
theorem T_X5_digest_79 : ∀ (n : Nat) (v1 : Int64) (v3 : Int32) (u : XM), GF E0 YY 4 yX5_digest cX5_digest 5 (some .long) 79 [some (.ref 35), some (.long v1), none, some (.int v3), none] [] u emL (F_X5_digest_79 n v1 v3 u) := by
  intro n
  induction n with
  | zero => intro v1 v3 u; exact gf_none
  | succ n ih =>
    intro v1 v3 u
    unfold F_X5_digest_79
    refine gf_iload_n (i := 3) (q := 80) dX5_digest_79 rfl rfl rfl ?_
    refine gf_iconst (q := 81) dX5_digest_80 ki_3 rfl ?_
    refine gf_icmp_ge (t := 125) (q := 84) dX5_digest_81 (by decide) rfl ?_ ?_
    · refine gf_iconst (q := 126) dX5_digest_125 ki_0 rfl ?_
      refine gf_istore_n (i := 3) (lv2 := [some (.ref 35), some (.long v1), none, some (.int 0), none]) (q := 127) dX5_digest_126 rfl (by decide) rfl rfl ?_
      exact (T_X5_digest_127 FU v1 0 u)
    · refine gf_ldc2 (q := 87) dX5_digest_84 kw1086 rfl ?_
      refine gf_lload_n (i := 1) (q := 88) dX5_digest_87 rfl rfl rfl ?_
      refine gf_lmul (q := 89) dX5_digest_88 rfl ?_
      refine gf_aload_n (i := 0) (q := 90) dX5_digest_89 rfl rfl rfl ?_
      refine gf_getA (C := RX5) (T := TX5) (N := 33) (ci := 5) (k := 35) (j := 13) (t := 46) (q := 93) dX5_digest_90 rfl rfl kin5 (by decide) kw617 rfl rfl ?_
      refine gf_iload_n (i := 3) (q := 94) dX5_digest_93 rfl rfl rfl ?_
      refine gf_zald (q := 95) dX5_digest_94 rfl ?_
      refine gf_if_eq (t := 115) (q := 98) dX5_digest_95 (by decide) rfl ?_ ?_
      · refine gf_iconst (q := 116) dX5_digest_115 ki_m1 rfl ?_
        exact gf_mask (b := [true, false, false, true, false]) rfl (T_X5_digest_116 (F_X5_digest_79 n) ih v3 (-1) (31 * v1) u)
      · refine gf_aload_n (i := 0) (q := 99) dX5_digest_98 rfl rfl rfl ?_
        refine gf_getA (C := RX5) (T := TX5) (N := 33) (ci := 5) (k := 35) (j := 12) (t := 45) (q := 102) dX5_digest_99 rfl rfl kin5 (by decide) kw616 rfl rfl ?_
        refine gf_sipush (q := 105) dX5_digest_102 ks_329 rfl ?_
        refine gf_iload_n (i := 3) (q := 106) dX5_digest_105 rfl rfl rfl ?_
        refine gf_imul (q := 107) dX5_digest_106 rfl ?_
        refine gf_sipush (q := 110) dX5_digest_107 ks_328 rfl ?_
        refine gf_iadd (q := 111) dX5_digest_110 rfl ?_
        refine gf_iald (q := 112) dX5_digest_111 rfl ?_
        refine gf_goto (q := 116) dX5_digest_112 (by decide) ?_
        exact gf_mask (b := [true, false, false, true, false]) rfl (T_X5_digest_116 (F_X5_digest_79 n) ih v3 (mi u 45 (Int32.toNatClampNeg ((329 * v3) + 328))) (31 * v1) u)
def F_X5_digest_44 (k33 : Int64 → Int32 → XM → Option (Int64 × XM)) : Nat → Int64 → Int32 → Int32 → XM → Option (Int64 × XM)
  | 0, _, _, _, _ => none
  | n + 1, v1, v3, v4, u => (if 5 ≤ v4 then k33 v1 (v3 + 1) u else (Option.bind (F_X5_told v3 v4 u) (fun x1 => F_X5_digest_44 k33 n ((31 * v1) + (Int32.toInt64 x1.1)) v3 (v4 + 1) x1.2)))
set_option maxRecDepth 20000 in
set_option maxHeartbeats 4000000 in
theorem T_X5_digest_44 (k33 : Int64 → Int32 → XM → Option (Int64 × XM)) (hk33 : ∀ (v1 : Int64) (v3 : Int32) (u : XM), GF E0 YY 4 yX5_digest cX5_digest 5 (some .long) 33 [some (.ref 35), some (.long v1), none, some (.int v3), none] [] u emL (k33 v1 v3 u)) : ∀ (n : Nat) (v1 : Int64) (v3 : Int32) (v4 : Int32) (u : XM), GF E0 YY 4 yX5_digest cX5_digest 5 (some .long) 44 [some (.ref 35), some (.long v1), none, some (.int v3), some (.int v4)] [] u emL (F_X5_digest_44 k33 n v1 v3 v4 u) := by
  intro n
  induction n with
  | zero => intro v1 v3 v4 u; exact gf_none
  | succ n ih =>
    intro v1 v3 v4 u
    unfold F_X5_digest_44
    refine gf_iload (q := 46) dX5_digest_44 rfl rfl ?_
    refine gf_iconst (q := 47) dX5_digest_46 ki_5 rfl ?_
    refine gf_icmp_ge (t := 71) (q := 50) dX5_digest_47 (by decide) rfl ?_ ?_
    · refine gf_iinc (v := (v3 + 1)) (lv2 := [some (.ref 35), some (.long v1), none, some (.int (v3 + 1)), some (.int v4)]) (q := 74) dX5_digest_71 rfl (congrArg _ ki_1) (by decide) rfl rfl ?_
      refine gf_goto (q := 33) dX5_digest_74 (by decide) ?_
      exact gf_mask (b := [true, true, false, true, false]) rfl (hk33 v1 (v3 + 1) u)
    · refine gf_ldc2 (q := 53) dX5_digest_50 kw1086 rfl ?_
      refine gf_lload_n (i := 1) (q := 54) dX5_digest_53 rfl rfl rfl ?_
      refine gf_lmul (q := 55) dX5_digest_54 rfl ?_
      refine gf_aload_n (i := 0) (q := 56) dX5_digest_55 rfl rfl rfl ?_
      refine gf_iload_n (i := 3) (q := 57) dX5_digest_56 rfl rfl rfl ?_
      refine gf_iload (q := 59) dX5_digest_57 rfl rfl ?_
      refine gf_callV_i (n2 := 2) (As := [.int v3, .int v4]) (st := [.long (31 * v1)]) (b := 35) (ci := 5) (C := RX5) (q := 62) (hlen := rfl) rfl rfl kw800 kw802 kp21 dX5_digest_59 kw803 kw7 (by decide +kernel) (by decide) (Nat.le_of_ble_eq_true rfl) (C_X5_told v3 v4 u) rfl rfl (fun x1 => ?_)
      refine gf_i2l (q := 63) dX5_digest_62 rfl ?_
      refine gf_ladd (q := 64) dX5_digest_63 rfl ?_
      refine gf_lstore_n (i := 1) (lv2 := [some (.ref 35), some (.long ((31 * v1) + (Int32.toInt64 x1.1))), none, some (.int v3), some (.int v4)]) (q := 65) dX5_digest_64 rfl (by decide) rfl rfl ?_
      refine gf_iinc (v := (v4 + 1)) (lv2 := [some (.ref 35), some (.long ((31 * v1) + (Int32.toInt64 x1.1))), none, some (.int v3), some (.int (v4 + 1))]) (q := 68) dX5_digest_65 rfl (congrArg _ ki_1) (by decide) rfl rfl ?_
      refine gf_goto (q := 44) dX5_digest_68 (by decide) ?_
      exact (ih ((31 * v1) + (Int32.toInt64 x1.1)) v3 (v4 + 1) x1.2)
def F_X5_digest_33 : Nat → Int64 → Int32 → XM → Option (Int64 × XM)
  | 0, _, _, _ => none
  | n + 1, v1, v3, u => (if (mi u 35 4) ≤ v3 then F_X5_digest_79 FU v1 0 u else F_X5_digest_44 (F_X5_digest_33 n) FU v1 v3 0 u)
set_option maxRecDepth 20000 in
set_option maxHeartbeats 4000000 in
theorem T_X5_digest_33 : ∀ (n : Nat) (v1 : Int64) (v3 : Int32) (u : XM), GF E0 YY 4 yX5_digest cX5_digest 5 (some .long) 33 [some (.ref 35), some (.long v1), none, some (.int v3), none] [] u emL (F_X5_digest_33 n v1 v3 u) := by
  intro n
  induction n with
  | zero => intro v1 v3 u; exact gf_none
  | succ n ih =>
    intro v1 v3 u
    unfold F_X5_digest_33
    refine gf_iload_n (i := 3) (q := 34) dX5_digest_33 rfl rfl rfl ?_
    refine gf_aload_n (i := 0) (q := 35) dX5_digest_34 rfl rfl rfl ?_
    refine gf_getI (C := RX5) (T := TX5) (N := 33) (ci := 5) (k := 35) (j := 4) (q := 38) dX5_digest_35 rfl rfl kin5 (by decide) kw608 rfl rfl ?_
    refine gf_icmp_ge (t := 77) (q := 41) dX5_digest_38 (by decide) rfl ?_ ?_
    · refine gf_iconst (q := 78) dX5_digest_77 ki_0 rfl ?_
      refine gf_istore_n (i := 3) (lv2 := [some (.ref 35), some (.long v1), none, some (.int 0), none]) (q := 79) dX5_digest_78 rfl (by decide) rfl rfl ?_
      exact (T_X5_digest_79 FU v1 0 u)
    · refine gf_iconst (q := 42) dX5_digest_41 ki_0 rfl ?_
      refine gf_istore (lv2 := [some (.ref 35), some (.long v1), none, some (.int v3), some (.int 0)]) (q := 44) dX5_digest_42 (by decide) rfl rfl ?_
      exact (T_X5_digest_44 (F_X5_digest_33 n) ih FU v1 v3 0 u)
def F_X5_digest_6 : Nat → Int64 → Int32 → XM → Option (Int64 × XM)
  | 0, _, _, _ => none
  | n + 1, v1, v3, u => (if 11 ≤ v3 then F_X5_digest_33 FU v1 0 u else (Option.bind (F_X5_counted v3 u) (fun x2 => F_X5_digest_6 n ((31 * v1) + (Int32.toInt64 x2.1)) (v3 + 1) x2.2)))
set_option maxRecDepth 20000 in
set_option maxHeartbeats 4000000 in
theorem T_X5_digest_6 : ∀ (n : Nat) (v1 : Int64) (v3 : Int32) (u : XM), GF E0 YY 4 yX5_digest cX5_digest 5 (some .long) 6 [some (.ref 35), some (.long v1), none, some (.int v3), none] [] u emL (F_X5_digest_6 n v1 v3 u) := by
  intro n
  induction n with
  | zero => intro v1 v3 u; exact gf_none
  | succ n ih =>
    intro v1 v3 u
    unfold F_X5_digest_6
    refine gf_iload_n (i := 3) (q := 7) dX5_digest_6 rfl rfl rfl ?_
    refine gf_bipush (q := 9) dX5_digest_7 kb_11 rfl ?_
    refine gf_icmp_ge (t := 31) (q := 12) dX5_digest_9 (by decide) rfl ?_ ?_
    · refine gf_iconst (q := 32) dX5_digest_31 ki_0 rfl ?_
      refine gf_istore_n (i := 3) (lv2 := [some (.ref 35), some (.long v1), none, some (.int 0), none]) (q := 33) dX5_digest_32 rfl (by decide) rfl rfl ?_
      exact (T_X5_digest_33 FU v1 0 u)
    · refine gf_ldc2 (q := 15) dX5_digest_12 kw1086 rfl ?_
      refine gf_lload_n (i := 1) (q := 16) dX5_digest_15 rfl rfl rfl ?_
      refine gf_lmul (q := 17) dX5_digest_16 rfl ?_
      refine gf_aload_n (i := 0) (q := 18) dX5_digest_17 rfl rfl rfl ?_
      refine gf_iload_n (i := 3) (q := 19) dX5_digest_18 rfl rfl rfl ?_
      refine gf_callV_i (n2 := 1) (As := [.int v3]) (st := [.long (31 * v1)]) (b := 35) (ci := 5) (C := RX5) (q := 22) (hlen := rfl) rfl rfl kw1069 kw1071 kp50 dX5_digest_19 kw1072 kw7 (by decide +kernel) (by decide) (Nat.le_of_ble_eq_true rfl) (C_X5_counted v3 u) rfl rfl (fun x2 => ?_)
      refine gf_i2l (q := 23) dX5_digest_22 rfl ?_
      refine gf_ladd (q := 24) dX5_digest_23 rfl ?_
      refine gf_lstore_n (i := 1) (lv2 := [some (.ref 35), some (.long ((31 * v1) + (Int32.toInt64 x2.1))), none, some (.int v3), none]) (q := 25) dX5_digest_24 rfl (by decide) rfl rfl ?_
      refine gf_iinc (v := (v3 + 1)) (lv2 := [some (.ref 35), some (.long ((31 * v1) + (Int32.toInt64 x2.1))), none, some (.int (v3 + 1)), none]) (q := 28) dX5_digest_25 rfl (congrArg _ ki_1) (by decide) rfl rfl ?_
      refine gf_goto (q := 6) dX5_digest_28 (by decide) ?_
      exact (ih ((31 * v1) + (Int32.toInt64 x2.1)) (v3 + 1) x2.2)
def F_X5_digest  (u : XM) : Option (Int64 × XM) := F_X5_digest_6 FU 17 0 u
set_option maxRecDepth 20000 in
set_option maxHeartbeats 4000000 in
theorem T_X5_digest  (u : XM) : GF E0 YY 4 yX5_digest cX5_digest 5 (some .long) 0 [some (.ref 35), none, none, none, none] [] u emL (F_X5_digest u) := by
  unfold F_X5_digest
  refine gf_ldc2 (q := 3) dX5_digest_0 kw1085 rfl ?_
  refine gf_lstore_n (i := 1) (lv2 := [some (.ref 35), some (.long 17), none, none, none]) (q := 4) dX5_digest_3 rfl (by decide) rfl rfl ?_
  refine gf_iconst (q := 5) dX5_digest_4 ki_0 rfl ?_
  refine gf_istore_n (i := 3) (lv2 := [some (.ref 35), some (.long 17), none, some (.int 0), none]) (q := 6) dX5_digest_5 rfl (by decide) rfl rfl ?_
  exact (T_X5_digest_6 FU 17 0 u)
theorem C_X5_digest  (u : XM) : CF YY 4 yX5_digest cX5_digest 5 (some .long) [.ref 35] u emL (F_X5_digest u) := cf_of (by decide +kernel) (Nat.le_of_ble_eq_true rfl) rfl (T_X5_digest u)
