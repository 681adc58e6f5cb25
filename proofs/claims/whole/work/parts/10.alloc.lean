/-! ===== cells are made: a frame goes on to another one ===== -/
def AO (s : State) : Prop := ∀ ty : FieldType, (ty = .array .int ∨ ty = .array .byte) → (Cond.arrayOver ty).before #[] s = true
theorem AO.warm {s U : State} (h : AO s) (hW : s.WarmedH U.vm) : AO U := fun ty hty => by
  have h2 : (Cond.arrayOver ty).before #[] (s.setVm U.vm) = true := by rw [Cond.arrayOver_setVmC hW.alike]; exact h ty hty
  exact h2
theorem AO.same {s U : State} (h : AO s) (hv : s.vm = U.vm) : AO U := fun ty hty => by
  have e : s.setVm U.vm = s := by rw [← hv]; rfl
  have h2 : (Cond.arrayOver ty).before #[] (s.setVm U.vm) = true := by rw [e]; exact h ty hty
  exact h2
theorem AO.use {s : State} (h : AO s) {ty : FieldType} (hty : ty = .array .int ∨ ty = .array .byte) (args : Array Value) : (Cond.arrayOver ty).before args s = true := h ty hty
/-- the table of addresses with c cells more, from n on -/
def rN (r : Nat → Nat) (n c q : Nat) : Nat → Nat := fun j => if n ≤ j ∧ j < n + c then q + (j - n) else r j
theorem rN_old {r : Nat → Nat} {n c q j : Nat} (h : j < n ∨ n + c ≤ j) : rN r n c q j = r j := by
  unfold rN
  rw [if_neg (by omega)]
theorem rN_new {r : Nat → Nat} {n c q j : Nat} (h : n ≤ j) (h2 : j < n + c) : rN r n c q j = q + (j - n) := by
  unfold rN
  rw [if_pos ⟨h, h2⟩]
def vlt (n : Nat) : Value → Bool
  | .ref k => decide (k < n) || decide (900 ≤ k)
  | _ => true
def olt (n : Nat) : Option Value → Bool
  | some v => vlt n v
  | none => true
/-- the cells that a shape names are below n -/
def ylt (n : Nat) (sh : XS) : Bool := if sh.1 < 3 then true else if sh.1 < 5 then decide (sh.2.2.headD 0 + sh.2.1 ≤ n) else sh.2.2.all (fun f => decide (f < n + 3))
theorem vlt_xv {n : Nat} {r r' : Nat → Nat} (hr : ∀ k, k < n ∨ 900 ≤ k → r' k = r k) {v : Value} (h : vlt n v = true) : xv r' v = xv r v := by
  cases v with
  | ref k =>
    simp only [vlt, Bool.or_eq_true, decide_eq_true_eq] at h
    show Value.ref (r' k) = Value.ref (r k)
    rw [hr k h]
  | _ => rfl
theorem slt_xv {n : Nat} {r r' : Nat → Nat} (hr : ∀ k, k < n ∨ 900 ≤ k → r' k = r k) : ∀ (st : List Value), st.all (vlt n) = true → st.map (xv r') = st.map (xv r)
  | [], _ => rfl
  | v :: l, h => by
    simp only [List.all_cons, Bool.and_eq_true] at h
    rw [List.map_cons, List.map_cons, vlt_xv hr h.1, slt_xv hr l h.2]
theorem llt_xL {n nL : Nat} {r r' : Nat → Nat} (hr : ∀ k, k < n ∨ 900 ≤ k → r' k = r k) {lv : List (Option Value)} {ls : Array Slot} (h : lv.all (olt n) = true) (hl : xL r nL lv ls) : xL r' nL lv ls := by
  refine ⟨hl.1, hl.2.1, fun i v hv => ?_⟩
  have h1 := List.all_eq_true.mp h _ (List.mem_of_getElem? hv)
  rw [vlt_xv hr h1]
  exact hl.2.2 i v hv
theorem xfs_r {n : Nat} {r r' : Nat → Nat} (hr : ∀ k, k < n → r' k = r k) {u : XM} {k : Nat} : ∀ (l : List Nat) (j : Nat), l.all (fun f => decide (f < n + 3)) = true → xfs r' u k j l = xfs r u k j l
  | [], _, _ => rfl
  | f :: l, j, h => by
    simp only [List.all_cons, Bool.and_eq_true, decide_eq_true_eq] at h
    show xf r' u k j f :: _ = xf r u k j f :: _
    rw [xfs_r hr l (j + 1) h.2]
    congr 1
    match f, h with
    | 0, _ => rfl
    | 1, _ => rfl
    | 2, _ => rfl
    | t + 3, h => show Value.ref (r' t) = Value.ref (r t); rw [hr t (by omega)]
theorem xe_r {n : Nat} {r r' : Nat → Nat} (hr : ∀ k, k < n → r' k = r k) {ca : Nat → ClassId} {u : XM} {k : Nat} {sh : XS} (h : ylt n sh = true) : xe r' ca u k sh = xe r ca u k sh := by
  unfold ylt at h
  unfold xe
  by_cases h3 : sh.1 < 3
  · rw [if_pos h3, if_pos h3]
  · rw [if_neg h3] at h
    rw [if_neg h3, if_neg h3]
    by_cases h5 : sh.1 < 5
    · rw [if_pos h5] at h
      simp only [decide_eq_true_eq] at h
      rw [if_pos h5, if_pos h5]
      congr 5
      have : (fun i => if i < sh.2.1 then some (r' (sh.2.2.headD 0 + i)) else none) = (fun i => if i < sh.2.1 then some (r (sh.2.2.headD 0 + i)) else none) := by
        funext i
        by_cases hi : i < sh.2.1
        · rw [if_pos hi, if_pos hi, hr _ (by omega)]
        · rw [if_neg hi, if_neg hi]
      rw [this]
    · rw [if_neg h5] at h
      rw [if_neg h5, if_neg h5, xfs_r hr _ _ h]
theorem xw_r {n : Nat} {r r' : Nat → Nat} (hr : ∀ k, k < n → r' k = r k) {ca : Nat → ClassId} {u : XM} : ∀ (Y : List XS) (k : Nat), k + Y.length ≤ n → Y.all (ylt n) = true → xw r' ca u k Y = xw r ca u k Y
  | [], _, _, _ => rfl
  | sh :: l, k, hk, h => by
    simp only [List.all_cons, Bool.and_eq_true] at h
    simp only [List.length_cons] at hk
    show (r' k, xe r' ca u k sh) :: _ = (r k, xe r ca u k sh) :: _
    rw [xw_r hr l (k + 1) (by omega) h.2, hr k (by omega), xe_r hr h.1]
theorem xw_app {r : Nat → Nat} {ca : Nat → ClassId} {u : XM} : ∀ (Y Z : List XS) (k : Nat), xw r ca u k (Y ++ Z) = xw r ca u k Y ++ xw r ca u (k + Y.length) Z
  | [], Z, k => rfl
  | sh :: l, Z, k => by
    show (r k, xe r ca u k sh) :: xw r ca u (k + 1) (l ++ Z) = (r k, xe r ca u k sh) :: (xw r ca u (k + 1) l ++ _)
    rw [xw_app l Z (k + 1), List.length_cons, show k + 1 + l.length = k + (l.length + 1) by omega]
theorem XD.of_D {Y : List XS} {r : Nat → Nat} {A : Nat → Prop} {ca : Nat → ClassId} {u : XM} (h : va_D A (xw r ca u 0 Y)) : XD Y r A := by
  have key : ∀ i, i < Y.length → ∃ e, (xw r ca u 0 Y)[i]? = some (r i, e) := by
    intro i hi
    rw [xw_get, List.getElem?_eq_getElem hi]
    exact ⟨_, by rw [Nat.zero_add]; rfl⟩
  refine ⟨fun i j hi hj hij => ?_, fun k hk => ?_⟩
  · obtain ⟨e1, h1⟩ := key i hi
    obtain ⟨e2, h2⟩ := key j hj
    exact h.1 i j _ _ h1 h2 hij
  · obtain ⟨e1, h1⟩ := key k hk
    exact h.2 k _ h1
/-- the picture with new cells behind it -/
theorem xw_more {r : Nat → Nat} {ca : Nat → ClassId} {u : XM} {Y Z : List XS} {q c : Nat} {new : va_W} (hy : Y.all (ylt Y.length) = true) (hn : new = xw (rN r Y.length c q) ca u Y.length Z) : xw r ca u 0 Y ++ new = xw (rN r Y.length c q) ca u 0 (Y ++ Z) := by
  rw [xw_app, hn, Nat.zero_add, xw_r (n := Y.length) (r := r) (r' := rN r Y.length c q) (fun k hk => rN_old (Or.inl hk)) Y 0 (by omega) hy]
/-- a frame goes on to another one -/
def GP (EX : State → Heap → (Nat → Prop) → (Nat → Nat) → Prop) (Y : List XS) (d : Nat) (y : MethodName) (cc : ByteArray) (nL : Nat) (rt : Option FieldType) (pc : Nat) (lv : List (Option Value)) (st : List Value) (u : XM) (Ye : List XS) (pce : Nat) (lve : List (Option Value)) (ste : List Value) (ue : XM) (mc ms : Nat) : Prop :=
  ∀ (p : Program) (l : Launch) (e : Env) (R : Room) (s : State) (m : MethodId) (args : Array Value) (below : List Frame) (meth : Method) (c : Code) (D : va_G) (ca : Nat → ClassId) (r : Nat → Nat) (H H0 : Heap) (locs : List Loc) (cells slots : Nat) (A : Nat → Prop) (Q : State → Prop) (ls : Array Slot),
  XC p R s m args meth c y cc nL rt d D ca cells slots → (y.name = "<init>" → meth.name = "<init>") → AO s → cells + mc ≤ R.cells → slots + ms ≤ R.slots → (∀ q, H0.size ≤ q → A q) → XD Y r A → va_P D vwCl (xw r ca u 0 Y) H → va_S A H0 H locs → xL r nL lv ls →
  (∀ (r' : Nat → Nat) (H' : Heap) (locs' : List Loc) (ls' : Array Slot), (∀ k, k < Y.length ∨ 900 ≤ k → r' k = r k) → XD Ye r' A → va_P D vwCl (xw r' ca ue 0 Ye) H' → va_S A H0 H' locs' → xL r' nL lve ls' → W p l e R s m args below meth c H' locs' (cells + mc) (slots + ms) Q (F0 m pce ls' (ste.map (xv r')))) →
  W p l e R s m args below meth c H locs cells slots Q (F0 m pc ls (st.map (xv r)))
def CA (Y : List XS) (d : Nat) (y : MethodName) (cc : ByteArray) (nL : Nat) (k : Nat) (u : XM) (Ye : List XS) (ue : XM) (mc ms : Nat) : Prop :=
  ∀ (l : Launch) (D : va_G) (ca : Nat → ClassId) (r : Nat → Nat) (sz : Nat), Met l y (Cond.code y cc nL none :: GW) { frames := d, cells := mc, slots := ms, locals := 64 * d }
    (va_Pc [.ref (r k)] (fun U => U.heap.size = sz ∧ NW U ∧ AO U ∧ va_K D vwCl (xt ca) U ∧ (∀ i j, i < Y.length → j < Y.length → r i = r j → i = j) ∧ va_P D vwCl (xw r ca u 0 Y) U.heap))
    (fun _ st oc t => oc = .returned none ∧ (∃ r' : Nat → Nat, (∀ k, k < Y.length ∨ 900 ≤ k → r' k = r k) ∧ XD Ye r' (fun q => xA Y r q ∨ sz ≤ q) ∧ va_P D vwCl (xw r' ca ue 0 Ye) t.heap) ∧ va_F (fun q => xA Y r q ∨ sz ≤ q) st t) mc ms (fun q => xA Y r q ∨ sz ≤ q)
section XAlloc
variable {EX : State → Heap → (Nat → Prop) → (Nat → Nat) → Prop} {Y Ye : List XS} {d : Nat} {y : MethodName} {cc : ByteArray} {nL : Nat} {rt : Option FieldType} {pc pce q : Nat} {lv lv2 lve : List (Option Value)} {st ste : List Value} {u ue : XM} {mc ms : Nat}
theorem gp_nil : GP EX Y d y cc nL rt pc lv st u Y pc lv st u 0 0 := by
  intro p l e R s m args below meth c D ca r H H0 locs cells slots A Q ls hC hin hao hmc hms hA hD hP hS hl kk
  obtain ⟨hx, hb, hml, hr, hlk, hown, hts, hnw, hK, hfr, hlo, hce, hsl⟩ := id hC
  exact kk r H locs ls (fun _ _ => rfl) hD hP hS hl
theorem gp_iconst {n : Int} {v : Int32} (hd : decode cc pc = .ok (.iconst n, 1)) (hv : Int32.ofInt n = v) (hq : pc + 1 = q) (h : GP EX Y d y cc nL rt q lv (.int v :: st) u Ye pce lve ste ue mc ms) : GP EX Y d y cc nL rt pc lv (st) u Ye pce lve ste ue mc ms := by
  subst hq
  intro p l e R s m args below meth c D ca r H H0 locs cells slots A Q ls hC hin hao hmc hms hA hD hP hS hl kk
  obtain ⟨hx, hb, hml, hr, hlk, hown, hts, hnw, hK, hfr, hlo, hce, hsl⟩ := id hC
  exact lv_iconst hx hb hd hv (h p l e R s m args below meth c D ca r H H0 locs cells slots A Q ls hC hin hao hmc hms hA hD hP hS hl kk)
theorem gp_bipush {n : Int} {v : Int32} (hd : decode cc pc = .ok (.bipush n, 2)) (hv : (Int8.ofInt n).toInt32 = v) (hq : pc + 2 = q) (h : GP EX Y d y cc nL rt q lv (.int v :: st) u Ye pce lve ste ue mc ms) : GP EX Y d y cc nL rt pc lv (st) u Ye pce lve ste ue mc ms := by
  subst hq
  intro p l e R s m args below meth c D ca r H H0 locs cells slots A Q ls hC hin hao hmc hms hA hD hP hS hl kk
  obtain ⟨hx, hb, hml, hr, hlk, hown, hts, hnw, hK, hfr, hlo, hce, hsl⟩ := id hC
  exact lv_bipush hx hb hd hv (h p l e R s m args below meth c D ca r H H0 locs cells slots A Q ls hC hin hao hmc hms hA hD hP hS hl kk)
theorem gp_sipush {n : Int} {v : Int32} (hd : decode cc pc = .ok (.sipush n, 3)) (hv : (Int16.ofInt n).toInt32 = v) (hq : pc + 3 = q) (h : GP EX Y d y cc nL rt q lv (.int v :: st) u Ye pce lve ste ue mc ms) : GP EX Y d y cc nL rt pc lv (st) u Ye pce lve ste ue mc ms := by
  subst hq
  intro p l e R s m args below meth c D ca r H H0 locs cells slots A Q ls hC hin hao hmc hms hA hD hP hS hl kk
  obtain ⟨hx, hb, hml, hr, hlk, hown, hts, hnw, hK, hfr, hlo, hce, hsl⟩ := id hC
  exact lv_sipush hx hb hd hv (h p l e R s m args below meth c D ca r H H0 locs cells slots A Q ls hC hin hao hmc hms hA hD hP hS hl kk)
theorem gp_lconst {n : Fin 2} {v : Int64} (hd : decode cc pc = .ok (.lconst n, 1)) (hv : Int64.ofNat (n : Nat) = v) (hq : pc + 1 = q) (h : GP EX Y d y cc nL rt q lv (.long v :: st) u Ye pce lve ste ue mc ms) : GP EX Y d y cc nL rt pc lv (st) u Ye pce lve ste ue mc ms := by
  subst hq
  intro p l e R s m args below meth c D ca r H H0 locs cells slots A Q ls hC hin hao hmc hms hA hD hP hS hl kk
  obtain ⟨hx, hb, hml, hr, hlk, hown, hts, hnw, hK, hfr, hlo, hce, hsl⟩ := id hC
  exact lv_lconst hx hb hd hv (h p l e R s m args below meth c D ca r H H0 locs cells slots A Q ls hC hin hao hmc hms hA hD hP hS hl kk)
theorem gp_aload_n {k : Fin 4} {i : Nat} {x : Nat} (hd : decode cc pc = .ok (.aload_n k, 1)) (hi : (k : Nat) = i) (hv : lv[i]? = some (some (.ref x))) (hq : pc + 1 = q) (h : GP EX Y d y cc nL rt q lv (.ref x :: st) u Ye pce lve ste ue mc ms) : GP EX Y d y cc nL rt pc lv (st) u Ye pce lve ste ue mc ms := by
  subst hq
  intro p l e R s m args below meth c D ca r H H0 locs cells slots A Q ls hC hin hao hmc hms hA hD hP hS hl kk
  obtain ⟨hx, hb, hml, hr, hlk, hown, hts, hnw, hK, hfr, hlo, hce, hsl⟩ := id hC
  exact lv_aload_n hx hb hd hi (hl.2.2 _ _ hv) (h p l e R s m args below meth c D ca r H H0 locs cells slots A Q ls hC hin hao hmc hms hA hD hP hS hl kk)
theorem gp_dup {va : Value} (hd : decode cc pc = .ok (.dup, 1)) (hva : va.category = 1) (hq : pc + 1 = q) (h : GP EX Y d y cc nL rt q lv (va :: va :: st) u Ye pce lve ste ue mc ms) : GP EX Y d y cc nL rt pc lv (va :: st) u Ye pce lve ste ue mc ms := by
  subst hq
  intro p l e R s m args below meth c D ca r H H0 locs cells slots A Q ls hC hin hao hmc hms hA hD hP hS hl kk
  obtain ⟨hx, hb, hml, hr, hlk, hown, hts, hnw, hK, hfr, hlo, hce, hsl⟩ := id hC
  exact lv_dup hx hb hd (by rw [xv_cat]; exact hva) (h p l e R s m args below meth c D ca r H H0 locs cells slots A Q ls hC hin hao hmc hms hA hD hP hS hl kk)
theorem gp_astore_n {k : Fin 4} {i : Nat} {x : Nat} (hd : decode cc pc = .ok (.astore_n k, 1)) (hi : (k : Nat) = i) (hn : i < nL) (hs : xs1 (.ref x) i lv = lv2) (hq : pc + 1 = q) (h : GP EX Y d y cc nL rt q lv2 st u Ye pce lve ste ue mc ms) : GP EX Y d y cc nL rt pc lv (.ref x :: st) u Ye pce lve ste ue mc ms := by
  subst hq; subst hs
  intro p l e R s m args below meth c D ca r H H0 locs cells slots A Q ls hC hin hao hmc hms hA hD hP hS hl kk
  obtain ⟨hx, hb, hml, hr, hlk, hown, hts, hnw, hK, hfr, hlo, hce, hsl⟩ := id hC
  exact lv_astore_n hx hb hd hi hl.has hn rfl (fun ls2 h2 => h p l e R s m args below meth c D ca r H H0 locs cells slots A Q ls2 hC hin hao hmc hms hA hD hP hS (xs1_L (ls := ls) h2) kk)
theorem gp_putI {C : String} {T : u_T} {N ci k j n idx : Nat} {dd : List Nat} {x : Int32} (hd : decode cc pc = .ok (.putfield idx, 3)) (hY : Y[k]? = some (ci + 5, n, dd)) (hc : vwCl[ci]? = some (C, T, N)) (hin0 : ∀ w ∈ u_ws C T N, w ∈ GW) (ty0 : Nat → FieldType) (hty : ∀ k, k < N → parseFieldDescriptor (T k).2.2.1 = some (ty0 k)) (hnm : ∀ a, a < N → ∀ b, b < N → a ≠ b → (T a).2.1 ≠ (T b).2.1) (hj : j < N) (hlk0 : Cond.fieldLink y.cls idx (T j).1 (T j).2.1 (T j).2.2.1 ∈ GW) (hfin : (T j).2.2.2 = false) (hpd : parseFieldDescriptor (T j).2.2.1 = some .int) (hf : dd[j]? = some 0) (hq : pc + 3 = q) (h : GP EX Y d y cc nL rt q lv st (wi u k j x) Ye pce lve ste ue mc ms) : GP EX Y d y cc nL rt pc lv (.int x :: .ref k :: st) u Ye pce lve ste ue mc ms := by
  subst hq
  intro p l e R s m args below meth c D ca r H H0 locs cells slots A Q ls hC hin hao hmc hms hA hD hP hS hl kk
  obtain ⟨hx, hb, hml, hr, hlk, hown, hts, hnw, hK, hfr, hlo, hce, hsl⟩ := id hC
  have hlen : j < (xfs r u k 0 dd).length := by
    have h1 : (xfs r u k 0 dd)[j]? = some (xf r u k (0 + j) 0) := by rw [xfs_get, hf]; rfl
    exact (List.getElem?_eq_some_iff.mp h1).1
  refine va_put (v := .int x) hx hb hts hin0 ty0 hty hnm hown hK hP (hD.D ca u) hS k (xw_obj hY) hc j hj (hts _ hlk0) (fun _ h9 => h9) hfin hpd rfl rfl hlen hd (fun H1 locs1 hP1 _ hS1 => ?_)
  have e1 : (xfs r u k 0 dd).set j (.int x) = xfs r (wi u k j x) k 0 dd := xfs_set hf (by show Value.int x = Value.int _; simp [mi, ml, wi, wl]) (fun b hb => by simp [mi, wi, wl, hb]) (fun b hb => by simp [ml, wi, wl, hb])
  rw [e1, xw_set (u' := wi u k j x) hY (by rw [xe, if_neg (by simp only; omega), if_neg (by simp only; omega)]; rfl) (fun a ha => by funext b; simp [mi, wi, wl, ha]) (fun a ha => by funext b; simp [ml, wi, wl, ha])] at hP1
  exact h p l e R s m args below meth c D ca r H1 H0 locs1 cells slots A Q ls hC hin hao hmc hms hA hD hP1 hS1 hl kk
theorem gp_putL {C : String} {T : u_T} {N ci k j n idx : Nat} {dd : List Nat} {x : Int64} (hd : decode cc pc = .ok (.putfield idx, 3)) (hY : Y[k]? = some (ci + 5, n, dd)) (hc : vwCl[ci]? = some (C, T, N)) (hin0 : ∀ w ∈ u_ws C T N, w ∈ GW) (ty0 : Nat → FieldType) (hty : ∀ k, k < N → parseFieldDescriptor (T k).2.2.1 = some (ty0 k)) (hnm : ∀ a, a < N → ∀ b, b < N → a ≠ b → (T a).2.1 ≠ (T b).2.1) (hj : j < N) (hlk0 : Cond.fieldLink y.cls idx (T j).1 (T j).2.1 (T j).2.2.1 ∈ GW) (hfin : (T j).2.2.2 = false) (hpd : parseFieldDescriptor (T j).2.2.1 = some .long) (hf : dd[j]? = some 1) (hq : pc + 3 = q) (h : GP EX Y d y cc nL rt q lv st (wl u k j x) Ye pce lve ste ue mc ms) : GP EX Y d y cc nL rt pc lv (.long x :: .ref k :: st) u Ye pce lve ste ue mc ms := by
  subst hq
  intro p l e R s m args below meth c D ca r H H0 locs cells slots A Q ls hC hin hao hmc hms hA hD hP hS hl kk
  obtain ⟨hx, hb, hml, hr, hlk, hown, hts, hnw, hK, hfr, hlo, hce, hsl⟩ := id hC
  have hlen : j < (xfs r u k 0 dd).length := by
    have h1 : (xfs r u k 0 dd)[j]? = some (xf r u k (0 + j) 1) := by rw [xfs_get, hf]; rfl
    exact (List.getElem?_eq_some_iff.mp h1).1
  refine va_put (v := .long x) hx hb hts hin0 ty0 hty hnm hown hK hP (hD.D ca u) hS k (xw_obj hY) hc j hj (hts _ hlk0) (fun _ h9 => h9) hfin hpd rfl rfl hlen hd (fun H1 locs1 hP1 _ hS1 => ?_)
  have e1 : (xfs r u k 0 dd).set j (.long x) = xfs r (wl u k j x) k 0 dd := xfs_set hf (by show Value.long x = Value.long _; simp [mi, ml, wi, wl]) (fun b hb => by simp [mi, wi, wl, hb]) (fun b hb => by simp [ml, wi, wl, hb])
  rw [e1, xw_set (u' := wl u k j x) hY (by rw [xe, if_neg (by simp only; omega), if_neg (by simp only; omega)]; rfl) (fun a ha => by funext b; simp [mi, wi, wl, ha]) (fun a ha => by funext b; simp [ml, wi, wl, ha])] at hP1
  exact h p l e R s m args below meth c D ca r H1 H0 locs1 cells slots A Q ls hC hin hao hmc hms hA hD hP1 hS1 hl kk
theorem xw_setY {r : Nat → Nat} {ca : Nat → ClassId} {u : XM} {sh sh2 : XS} {e : va_E} (he : e = xe r ca u 0 sh2 ∨ True) : ∀ (Y : List XS) (k b : Nat), (xw r ca u b Y).set k (r (b + k), xe r ca u (b + k) sh2) = xw r ca u b (Y.set k sh2)
  | [], _, _ => rfl
  | sh :: l, 0, b => rfl
  | sh :: l, k + 1, b => by
    show (r b, xe r ca u b sh) :: (xw r ca u (b + 1) l).set k _ = (r b, xe r ca u b sh) :: xw r ca u (b + 1) (l.set k sh2)
    rw [← xw_setY (sh := sh) he l k (b + 1), show b + 1 + k = b + (k + 1) by omega]
theorem gp_putA {C : String} {T : u_T} {N ci k j n idx t : Nat} {dd : List Nat} {Y2 : List XS} (hd : decode cc pc = .ok (.putfield idx, 3)) (hY : Y[k]? = some (ci + 5, n, dd)) (hc : vwCl[ci]? = some (C, T, N)) (hin0 : ∀ w ∈ u_ws C T N, w ∈ GW) (ty0 : Nat → FieldType) (hty : ∀ k, k < N → parseFieldDescriptor (T k).2.2.1 = some (ty0 k)) (hnm : ∀ a, a < N → ∀ b, b < N → a ≠ b → (T a).2.1 ≠ (T b).2.1) (hj : j < N) (hlk0 : Cond.fieldLink y.cls idx (T j).1 (T j).2.1 (T j).2.2.1 ∈ GW) (hfin : (T j).2.2.2 = true) (hyn : y.name = "<init>") (hdc : (T j).1 = y.cls) {ty : FieldType} (hpd : parseFieldDescriptor (T j).2.2.1 = some ty) (hnr : ∀ a, narrow ty (.ref a) = .ref a) (hft : ∀ a, fits ty (.ref a) = true) (hf : j < dd.length) (hY2 : Y.set k (ci + 5, n, dd.set j (t + 3)) = Y2) (hlen2 : Y2.length = Y.length) (hq : pc + 3 = q) (h : GP EX Y2 d y cc nL rt q lv st u Ye pce lve ste ue mc ms) : GP EX Y d y cc nL rt pc lv (.ref t :: .ref k :: st) u Ye pce lve ste ue mc ms := by
  subst hq
  intro p l e R s m args below meth c D ca r H H0 locs cells slots A Q ls hC hin hao hmc hms hA hD hP hS hl kk
  obtain ⟨hx, hb, hml, hr, hlk, hown, hts, hnw, hK, hfr, hlo, hce, hsl⟩ := id hC
  have hlen : j < (xfs r u k 0 dd).length := by
    have h1 : (xfs r u k 0 dd)[j]? = some (xf r u k (0 + j) dd[j]) := by rw [xfs_get, List.getElem?_eq_getElem hf]; rfl
    exact (List.getElem?_eq_some_iff.mp h1).1
  refine va_putF (v := .ref (r t)) hx hb hts hin0 ty0 hty hnm hown hK hP (hD.D ca u) hS k (xw_obj hY) hc j hj (hts _ hlk0) (fun _ h9 => h9) hfin (hin hyn) hdc hpd (hnr _) (hft _) hlen hd (fun H1 locs1 hP1 _ hS1 => ?_)
  have e1 : (xfs r u k 0 dd).set j (.ref (r t)) = xfs r u k 0 (dd.set j (t + 3)) := by
    apply List.ext_getElem?
    intro i
    by_cases hk : j = i
    · subst hk
      rw [List.getElem?_set_self hlen, xfs_get, List.getElem?_set_self hf]; rfl
    · rw [List.getElem?_set_ne hk, xfs_get, xfs_get, List.getElem?_set_ne hk]
  have e2 : ((.inr (ci, xfs r u k 0 (dd.set j (t + 3)))) : va_E) = xe r ca u (0 + k) (ci + 5, n, dd.set j (t + 3)) := by
    rw [xe, if_neg (by simp only; omega), if_neg (by simp only; omega), Nat.zero_add]; rfl
  have e3 : (xw r ca u 0 Y).set k (r k, .inr (ci, xfs r u k 0 (dd.set j (t + 3)))) = xw r ca u 0 Y2 := by
    rw [e2, ← hY2]
    have := xw_setY (r := r) (ca := ca) (u := u) (sh := (0, 0, [])) (sh2 := (ci + 5, n, dd.set j (t + 3))) (e := .inr (0, [])) (Or.inr trivial) Y k 0
    rw [Nat.zero_add] at this ⊢
    exact this
  rw [e1, e3] at hP1
  exact h p l e R s m args below meth c D ca r H1 H0 locs1 cells slots A Q ls hC hin hao hmc hms hA ⟨fun i j hi hj => hD.1 i j (by rw [← hlen2]; exact hi) (by rw [← hlen2]; exact hj), fun k hk => hD.2 k (by rw [← hlen2]; exact hk)⟩ hP1 hS1 hl (fun r' H' locs' ls' h1 => kk r' H' locs' ls' (fun k hk => h1 k (by rw [hlen2]; exact hk)))
/-- behind c new cells -/
theorem gp_more {c q0 kc ks : Nat} {Z : List XS} {Y2 : List XS} (hY2 : Y ++ Z = Y2) (hZ : Z.length = c) (hy : Y.all (ylt Y.length) = true) (hlv : lv.all (olt Y.length) = true) (hst : st.all (vlt Y.length) = true) (h9 : Y.length + c ≤ 900)
    (h : GP EX Y2 d y cc nL rt q lv (.ref Y.length :: st) u Ye pce lve ste ue mc ms)
    {p : Program} {l : Launch} {e : Env} {R : Room} {s : State} {m : MethodId} {args : Array Value} {below : List Frame} {meth : Method} {c0 : Code} {D : va_G} {ca : Nat → ClassId} {r : Nat → Nat} {H1 H0 : Heap} {locs : List Loc} {cells slots : Nat} {A : Nat → Prop} {Q : State → Prop} {ls : Array Slot} {new : va_W}
    (hC : XC p R s m args meth c0 y cc nL rt d D ca cells slots) (hin : y.name = "<init>" → meth.name = "<init>") (hao : AO s) (hmc : cells + (kc + mc) ≤ R.cells) (hms : slots + (ks + ms) ≤ R.slots) (hA : ∀ q, H0.size ≤ q → A q)
    (hn : new = xw (rN r Y.length c q0) ca u Y.length Z) (hP1 : va_P D vwCl (xw r ca u 0 Y ++ new) H1) (hD1 : va_D A (xw r ca u 0 Y ++ new)) (hS1 : va_S A H0 H1 locs) (hl : xL r nL lv ls)
    (hc1 : 0 < c)
    (kk : ∀ (r' : Nat → Nat) (H' : Heap) (locs' : List Loc) (ls' : Array Slot), (∀ k, k < Y.length ∨ 900 ≤ k → r' k = r k) → XD Ye r' A → va_P D vwCl (xw r' ca ue 0 Ye) H' → va_S A H0 H' locs' → xL r' nL lve ls' → W p l e R s m args below meth c0 H' locs' (cells + (kc + mc)) (slots + (ks + ms)) Q (F0 m pce ls' (ste.map (xv r')))) :
    W p l e R s m args below meth c0 H1 locs (cells + kc) (slots + ks) Q (F0 m q ls (.ref q0 :: st.map (xv r))) := by
  rw [xw_more hy hn, hY2] at hP1 hD1
  have hlen : Y2.length = Y.length + c := by rw [← hY2, List.length_append, hZ]
  have hr : ∀ k, k < Y.length ∨ 900 ≤ k → rN r Y.length c q0 k = r k := fun k hk => rN_old (by omega)
  obtain ⟨hx, hb, hml, hr0, hlk, hown, hts, hnw, hK, hfr, hlo, hce, hsl⟩ := id hC
  have hW := h p l e R s m args below meth c0 D ca (rN r Y.length c q0) H1 H0 locs (cells + kc) (slots + ks) A Q ls ⟨hx, hb, hml, hr0, hlk, hown, hts, hnw, hK, hfr, hlo, by omega, by omega⟩ hin hao (by omega) (by omega) hA (XD.of_D hD1) hP1 hS1 (llt_xL hr hlv hl) (fun r' H' locs' ls' h1 h2 h3 h4 h5 => by
    have hW2 := kk r' H' locs' ls' (fun k hk => by rw [h1 k (by omega), hr k hk]) h2 h3 h4 h5
    rw [show cells + kc + mc = cells + (kc + mc) by omega, show slots + ks + ms = slots + (ks + ms) by omega]
    exact hW2)
  have hs : (Value.ref Y.length :: st).map (xv (rN r Y.length c q0)) = .ref q0 :: st.map (xv r) := by
    rw [List.map_cons, slt_xv hr st hst]
    show Value.ref (rN r Y.length c q0 Y.length) :: _ = _
    rw [rN_new (Nat.le_refl _) (by omega), Nat.sub_self, Nat.add_zero]
  rw [hs] at hW
  exact hW
theorem gp_newI {N : Nat} {nn : Int32} {Y2 : List XS} (hd : decode cc pc = .ok (.newarray .int, 2)) (harr : Cond.arrayClass .int ∈ GW) (hn : ¬ nn < 0) (hN : nn.toNatClampNeg = N) (hb4 : N * 4 ≤ 536870912) (hz : ∀ b, mi u Y.length b = 0) (hY2 : Y ++ [(0, N, [])] = Y2) (hy : Y.all (ylt Y.length) = true) (hlv : lv.all (olt Y.length) = true) (hst : st.all (vlt Y.length) = true) (h9 : Y.length + 1 ≤ 900) (hq : pc + 2 = q) (h : GP EX Y2 d y cc nL rt q lv (.ref Y.length :: st) u Ye pce lve ste ue mc ms) : GP EX Y d y cc nL rt pc lv (.int nn :: st) u Ye pce lve ste ue (1 + mc) (N + ms) := by
  subst hq
  intro p l e R s m args below meth c D ca r H H0 locs cells slots A Q ls hC hin hao hmc hms hA hD hP hS hl kk
  obtain ⟨hx, hb, hml, hr, hlk, hown, hts, hnw, hK, hfr, hlo, hce, hsl⟩ := id hC
  refine va_newa (atype := .int) (ty := .int) (N' := N) (a0 := (N, .inl (fun _ => 0))) hx hb (hts _ harr) rfl hK hP (hD.D ca u) hS hA (fun cA => rfl) hn hN (by show N * _ ≤ _; simp only [componentBytes]; omega) (by omega) (by omega) hd (fun q0 cA H1 hK1 hP1 hD1 hS1 => ?_)
  have hca : cA = ca 0 := by
    have h1 := (hK1.2 5 (cA, .int) rfl).2
    have h2 := (hK1.2 0 (ca 0, .int) rfl).2
    exact Option.some.inj (h1.symm.trans h2)
  subst hca
  refine gp_more (c := 1) (q0 := q0) (kc := 1) (ks := N) hY2 rfl hy hlv hst h9 h hC hin hao hmc hms hA ?_ hP1 hD1 hS1 hl (by decide) kk
  show _ = [(rN r Y.length 1 q0 Y.length, xe _ ca u Y.length (0, N, []))]
  rw [rN_new (Nat.le_refl _) (by omega), Nat.sub_self, Nat.add_zero, xe, if_pos (show (0 : Nat) < 3 by decide)]
  have : mi u Y.length = fun _ => 0 := funext hz
  rw [this]
theorem gp_newZ {N : Nat} {nn : Int32} {Y2 : List XS} (hd : decode cc pc = .ok (.newarray .boolean, 2)) (harr : Cond.arrayClass .boolean ∈ GW) (hn : ¬ nn < 0) (hN : nn.toNatClampNeg = N) (hb4 : N * 4 ≤ 536870912) (hz : ∀ b, mi u Y.length b = 0) (hY2 : Y ++ [(2, N, [])] = Y2) (hy : Y.all (ylt Y.length) = true) (hlv : lv.all (olt Y.length) = true) (hst : st.all (vlt Y.length) = true) (h9 : Y.length + 1 ≤ 900) (hq : pc + 2 = q) (h : GP EX Y2 d y cc nL rt q lv (.ref Y.length :: st) u Ye pce lve ste ue mc ms) : GP EX Y d y cc nL rt pc lv (.int nn :: st) u Ye pce lve ste ue (1 + mc) (N + ms) := by
  subst hq
  intro p l e R s m args below meth c D ca r H H0 locs cells slots A Q ls hC hin hao hmc hms hA hD hP hS hl kk
  obtain ⟨hx, hb, hml, hr, hlk, hown, hts, hnw, hK, hfr, hlo, hce, hsl⟩ := id hC
  refine va_newa (atype := .boolean) (ty := .boolean) (N' := N) (a0 := (N, .inl (fun _ => 0))) hx hb (hts _ harr) rfl hK hP (hD.D ca u) hS hA (fun cA => rfl) hn hN (by show N * _ ≤ _; simp only [componentBytes]; omega) (by omega) (by omega) hd (fun q0 cA H1 hK1 hP1 hD1 hS1 => ?_)
  have hca : cA = ca 2 := by
    have h1 := (hK1.2 5 (cA, .boolean) rfl).2
    have h2 := (hK1.2 2 (ca 2, .boolean) rfl).2
    exact Option.some.inj (h1.symm.trans h2)
  subst hca
  refine gp_more (c := 1) (q0 := q0) (kc := 1) (ks := N) hY2 rfl hy hlv hst h9 h hC hin hao hmc hms hA ?_ hP1 hD1 hS1 hl (by decide) kk
  show _ = [(rN r Y.length 1 q0 Y.length, xe _ ca u Y.length (2, N, []))]
  rw [rN_new (Nat.le_refl _) (by omega), Nat.sub_self, Nat.add_zero, xe, if_pos (show (2 : Nat) < 3 by decide)]
  have : mi u Y.length = fun _ => 0 := funext hz
  rw [this]
theorem gp_new {C : String} {T : u_T} {N ci idx : Nat} {dd : List Nat} {fs : List Value} {Y2 : List XS} (hd : decode cc pc = .ok (.new idx, 3)) (hc : vwCl[ci]? = some (C, T, N)) (hin0 : ∀ w ∈ u_ws C T N, w ∈ GW) (ty0 : Nat → FieldType) (hty : ∀ k, k < N → parseFieldDescriptor (T k).2.2.1 = some (ty0 k)) (hcl : Cond.classLink y.cls idx C ∈ GW) (hins : Cond.instantiable C N ∈ GW) (hini : Cond.initialized C ∈ GW) (hfs : ∀ j, j < N → defaultValue (ty0 j) = vp_V fs j) (hdd : ∀ r', xfs r' u Y.length 0 dd = fs) (hY2 : Y ++ [(ci + 5, 0, dd)] = Y2) (hy : Y.all (ylt Y.length) = true) (hlv : lv.all (olt Y.length) = true) (hst : st.all (vlt Y.length) = true) (h9 : Y.length + 1 ≤ 900) (hq : pc + 3 = q) (h : GP EX Y2 d y cc nL rt q lv (.ref Y.length :: st) u Ye pce lve ste ue mc ms) : GP EX Y d y cc nL rt pc lv st u Ye pce lve ste ue (1 + mc) (N + ms) := by
  subst hq
  intro p l e R s m args below meth c D ca r H H0 locs cells slots A Q ls hC hin hao hmc hms hA hD hP hS hl kk
  obtain ⟨hx, hb, hml, hr, hlk, hown, hts, hnw, hK, hfr, hlo, hce, hsl⟩ := id hC
  refine va_new hx hb hts hin0 ty0 hty hown (hts _ hcl) (hts _ hins) (hts _ hini) hK hP (hD.D ca u) hS hA hc hfs (by omega) (by omega) hd (fun q0 H1 hP1 hD1 hS1 => ?_)
  refine gp_more (c := 1) (q0 := q0) (kc := 1) (ks := N) hY2 rfl hy hlv hst h9 h hC hin hao hmc hms hA ?_ hP1 hD1 hS1 hl (by decide) kk
  show _ = [(rN r Y.length 1 q0 Y.length, xe _ ca u Y.length (ci + 5, 0, dd))]
  rw [rN_new (Nat.le_refl _) (by omega), Nat.sub_self, Nat.add_zero, xe, if_neg (by simp only; omega), if_neg (by simp only; omega)]
  show _ = [(q0, Sum.inr (ci + 5 - 5, xfs _ u Y.length 0 dd))]
  rw [hdd]
  rfl
theorem xw_rep {r : Nat → Nat} {ca : Nat → ClassId} {u : XM} {t K : Nat} (ht : t < 3) {f : Nat → Int32} : ∀ (N k : Nat), (∀ i, i < N → mi u (k + i) = f) → xw r ca u k (List.replicate N (t, K, [])) = (List.range N).map (fun i => (r (k + i), .inl (ca t, K, .inl f)))
  | 0, _, _ => rfl
  | N + 1, k, h => by
    rw [List.replicate_succ, List.range_succ_eq_map, List.map_cons, List.map_map]
    show (r k, xe r ca u k (t, K, [])) :: xw r ca u (k + 1) (List.replicate N (t, K, [])) = _
    rw [xw_rep ht N (k + 1) (fun i hi => by rw [show k + 1 + i = k + (i + 1) by omega]; exact h (i + 1) (by omega)), xe, if_pos ht]
    rw [show mi u k = f from h 0 (by omega)]
    congr 1
    apply List.map_congr_left
    intro i _
    show _ = (r (k + (i + 1)), _)
    rw [show k + 1 + i = k + (i + 1) by omega]
theorem mn_outer (c : ClassId) (N h0 : Nat) : ∀ i : Nat, Jvm.Free.Multi.outerC c N h0 i = arrV c N (fun j => va_rf (if j < i then some (h0 + 1 + j) else none))
  | 0 => by
    show ({ cls := c, slots := Array.replicate N .null, vm := .none } : Cell) = _
    rw [arrV_new]
    refine congrArg (arrV c N) (funext fun j => ?_)
    simp [va_rf]
  | i + 1 => by
    show (Jvm.Free.Multi.outerC c N h0 i).setSlot i (.ref (h0 + 1 + i)) = _
    rw [mn_outer c N h0 i, arrV_store]
    refine congrArg (arrV c N) (funext fun j => ?_)
    by_cases e : j = i
    · subst e
      simp [updV, va_rf]
    · by_cases h : j < i
      · simp [updV, e, h, Nat.lt_succ_of_lt h]
      · simp [updV, e, h, show ¬ j < i + 1 by omega]
theorem gp_mnaI {N K idx : Nat} {nn kk0 : Int32} {Y2 : List XS} (hd : decode cc pc = .ok (.multianewarray idx 2, 4)) (hcl : Cond.classLink y.cls idx ("[" ++ (FieldType.array .int).toString) ∈ GW) (harr : Cond.arrayClass .int ∈ GW) (hn : ¬ nn < 0) (hk0 : ¬ kk0 < 0) (hN : nn.toNatClampNeg = N) (hKn : kk0.toNatClampNeg = K) (hb4 : N * 4 ≤ 536870912) (hb5 : K * 4 ≤ 536870912) (hz : ∀ a b, Y.length ≤ a → mi u a b = 0) (hY2 : Y ++ ((3, N, [Y.length + 1]) :: List.replicate N (0, K, [])) = Y2) (hy : Y.all (ylt Y.length) = true) (hlv : lv.all (olt Y.length) = true) (hst : st.all (vlt Y.length) = true) (h9 : Y.length + (N + 1) ≤ 900) (hq : pc + 4 = q) (h : GP EX Y2 d y cc nL rt q lv (.ref Y.length :: st) u Ye pce lve ste ue mc ms) : GP EX Y d y cc nL rt pc lv (.int kk0 :: .int nn :: st) u Ye pce lve ste ue ((N + 1) + mc) ((N + N * K) + ms) := by
  subst hq; subst hN; subst hKn
  intro p l e R s m args below meth c D ca r H H0 locs cells slots A Q ls hC hin hao hmc hms hA hD hP hS hl kk
  obtain ⟨hx, hb, hml, hr, hlk, hown, hts, hnw, hK, hfr, hlo, hce, hsl⟩ := id hC
  intro T hT X
  obtain ⟨vm₁, cA, comp, -, fA, fC, hO, -, X', step⟩ := X.multianewarray2F hx hown (hts _ hcl) (hao.use (Or.inl rfl) args) (hts _ harr) (g := F0 m pc ls (.int kk0 :: .int nn :: st.map (xv r))) rfl (by rw [hb]; exact hd) rfl hn hk0 hb4 (by simp only [componentBytes]; omega) (by omega) rfl rfl (by omega) (by omega)
  have ec : cA = ca 3 := Option.some.inj (fA.symm.trans (hK.2 3 (ca 3, .array .int) rfl).2)
  have ec2 : comp = ca 0 := Option.some.inj (fC.symm.trans (hK.2 0 (ca 0, .int) rfl).2)
  subst ec; subst ec2
  generalize hF : Jvm.Free.Multi.fill (T.setVm vm₁) (ca 3) (ca 0) nn.toNatClampNeg kk0.toNatClampNeg (defaultValue .int) nn.toNatClampNeg = F at X' step
  have hTh : (T.setVm vm₁).heap = H := hT
  obtain ⟨f1, f2, -, -⟩ := Jvm.Free.Multi.fill_facts (T.setVm vm₁) (ca 3) (ca 0) nn.toNatClampNeg kk0.toNatClampNeg (defaultValue .int) nn.toNatClampNeg
  rw [hF, hTh] at f1 f2
  have hold : ∀ x : Nat, x < H.size → F.heap[x]? = H[x]? := fun x hx => by
    have := Jvm.Free.Multi.fill_old (T.setVm vm₁) (ca 3) (ca 0) nn.toNatClampNeg kk0.toNatClampNeg (defaultValue .int) (a := x) (by rw [hTh]; exact hx) nn.toNatClampNeg
    rw [hF, hTh] at this
    exact this
  have hrow : ∀ j : Nat, j < nn.toNatClampNeg → F.heap[H.size + 1 + j]? = some (vp_cell (ca 0) (kk0.toNatClampNeg, .inl (fun _ => 0))) := fun j hj => by
    have := Jvm.Free.Multi.fill_inner (T.setVm vm₁) (ca 3) (ca 0) nn.toNatClampNeg kk0.toNatClampNeg (defaultValue .int) nn.toNatClampNeg j hj
    rw [hF, hTh] at this
    rw [this, vp_cell_i]
    congr 1
    show ({ cls := ca 0, slots := Array.replicate _ (.int 0), vm := .none } : Cell) = _
    rw [arrV_new]
  have hout : Jvm.Free.Multi.outerC (ca 3) nn.toNatClampNeg H.size nn.toNatClampNeg = vp_cell (ca 3) (nn.toNatClampNeg, .inr (.inr (.inr (.inr (fun i => if i < nn.toNatClampNeg then some (H.size + 1 + i) else none))))) := by
    rw [vp_cell_q]
    exact mn_outer (ca 3) nn.toNatClampNeg H.size nn.toNatClampNeg
  rw [hout] at f2
  -- the new cells
  have hP0 : va_P D vwCl (xw r ca u 0 Y) F.heap := hP.kept (fun k9 x hx => hold x.1 ((hP k9 x hx).lt))
  have hnew : ∀ (i : Nat) (x : Nat × va_E), ((H.size, (.inl (ca 3, nn.toNatClampNeg, .inr (.inr (.inr (.inr (fun i => if i < nn.toNatClampNeg then some (H.size + 1 + i) else none))))) : va_E)) :: (List.range nn.toNatClampNeg).map (fun i => (H.size + 1 + i, (.inl (ca 0, kk0.toNatClampNeg, .inl (fun _ => 0)) : va_E))))[i]? = some x → x.1 = H.size + i ∧ va_at D vwCl x F.heap := by
    intro i x hx
    match i, hx with
    | 0, hx => cases hx; exact ⟨rfl, f2⟩
    | i + 1, hx =>
      have hx : ((List.range nn.toNatClampNeg).map (fun i => (H.size + 1 + i, (.inl (ca 0, kk0.toNatClampNeg, .inl (fun _ => 0)) : va_E))))[i]? = some x := hx
      rw [List.getElem?_map] at hx
      by_cases hi : i < nn.toNatClampNeg
      · rw [List.getElem?_range hi] at hx
        cases hx
        exact ⟨by show H.size + 1 + i = _; omega, hrow i hi⟩
      · rw [List.getElem?_eq_none (by simpa using hi)] at hx
        cases hx
  generalize hnw0 : (H.size, (.inl (ca 3, nn.toNatClampNeg, .inr (.inr (.inr (.inr (fun i => if i < nn.toNatClampNeg then some (H.size + 1 + i) else none))))) : va_E)) :: (List.range nn.toNatClampNeg).map (fun i => (H.size + 1 + i, (.inl (ca 0, kk0.toNatClampNeg, .inl (fun _ => 0)) : va_E))) = new at hnew
  have hP1 : va_P D vwCl (xw r ca u 0 Y ++ new) F.heap := hP0.app (fun i x hx => (hnew i x hx).2)
  have hDD := hD.D ca u
  have hlo0 : ∀ (i : Nat) (x : Nat × va_E), (xw r ca u 0 Y)[i]? = some x → x.1 < H.size := fun i x hx => (hP i x hx).lt
  have hD1 : va_D A (xw r ca u 0 Y ++ new) := by
    refine ⟨fun i j x y hi hj hxy => ?_, fun k9 x hx => ?_⟩
    · by_cases h1 : i < (xw r ca u 0 Y).length <;> by_cases h2 : j < (xw r ca u 0 Y).length
      · rw [List.getElem?_append_left h1] at hi
        rw [List.getElem?_append_left h2] at hj
        exact hDD.1 i j x y hi hj hxy
      · rw [List.getElem?_append_left h1] at hi
        rw [List.getElem?_append_right (by omega)] at hj
        have := hlo0 _ _ hi
        have := (hnew _ _ hj).1
        omega
      · rw [List.getElem?_append_right (by omega)] at hi
        rw [List.getElem?_append_left h2] at hj
        have := hlo0 _ _ hj
        have := (hnew _ _ hi).1
        omega
      · rw [List.getElem?_append_right (by omega)] at hi hj
        have := (hnew _ _ hi).1
        have := (hnew _ _ hj).1
        omega
    · by_cases h1 : k9 < (xw r ca u 0 Y).length
      · rw [List.getElem?_append_left h1] at hx
        exact hDD.2 k9 x hx
      · rw [List.getElem?_append_right (by omega)] at hx
        have := (hnew _ _ hx).1
        exact hA _ (by have := hS.1; omega)
  have hS1 : va_S A H0 F.heap locs := ⟨Nat.le_trans hS.1 (by rw [f1]; omega), fun x h1 h2 => (hold x (Nat.lt_of_lt_of_le h1 hS.1)).trans (hS.2.1 x h1 h2), hS.2.2⟩
  have hW := gp_more (c := nn.toNatClampNeg + 1) (q0 := H.size) (kc := nn.toNatClampNeg + 1) (ks := nn.toNatClampNeg + nn.toNatClampNeg * kk0.toNatClampNeg) hY2 (by simp) hy hlv hst h9 h hC hin hao hmc hms hA (new := new) (by
    rw [← hnw0]
    show _ = (rN r Y.length (nn.toNatClampNeg + 1) H.size Y.length, xe _ ca u Y.length (3, nn.toNatClampNeg, [Y.length + 1])) :: xw _ ca u (Y.length + 1) (List.replicate nn.toNatClampNeg (0, kk0.toNatClampNeg, []))
    rw [xw_rep (f := fun _ => 0) (by decide) _ _ (fun i _ => funext fun b => hz _ b (by omega)), rN_new (Nat.le_refl _) (by omega), Nat.sub_self, Nat.add_zero, xe, if_neg (show ¬ (3 : Nat) < 3 by decide), if_pos (show (3 : Nat) < 5 by decide)]
    congr 1
    · congr 8
      show (fun i => if i < nn.toNatClampNeg then some (H.size + 1 + i) else none) = (fun i => if i < nn.toNatClampNeg then some (rN r Y.length (nn.toNatClampNeg + 1) H.size (Y.length + 1 + i)) else none)
      funext i
      by_cases hi : i < nn.toNatClampNeg
      · rw [if_pos hi, if_pos hi, rN_new (by omega) (by omega), show H.size + (Y.length + 1 + i - Y.length) = H.size + 1 + i by omega]
      · rw [if_neg hi, if_neg hi]
    · apply List.map_congr_left
      intro i hi
      have hi := List.mem_range.mp hi
      rw [rN_new (by omega) (by omega), show H.size + (Y.length + 1 + i - Y.length) = H.size + 1 + i by omega]) hP1 hD1 hS1 hl (by omega) kk
  have e : T.heap.size = H.size := by rw [hT]
  rw [show cells + 1 + nn.toNatClampNeg = cells + (nn.toNatClampNeg + 1) by omega, show slots + nn.toNatClampNeg + nn.toNatClampNeg * kk0.toNatClampNeg = slots + (nn.toNatClampNeg + nn.toNatClampNeg * kk0.toNatClampNeg) by omega] at X'
  obtain ⟨t, a1, b1⟩ := hW F rfl X'
  refine ⟨t, step t ?_, b1⟩
  rw [e]
  exact a1
theorem gp_mnaB {N K idx : Nat} {nn kk0 : Int32} {Y2 : List XS} (hd : decode cc pc = .ok (.multianewarray idx 2, 4)) (hcl : Cond.classLink y.cls idx ("[" ++ (FieldType.array .byte).toString) ∈ GW) (harr : Cond.arrayClass .byte ∈ GW) (hn : ¬ nn < 0) (hk0 : ¬ kk0 < 0) (hN : nn.toNatClampNeg = N) (hKn : kk0.toNatClampNeg = K) (hb4 : N * 4 ≤ 536870912) (hb5 : K * 4 ≤ 536870912) (hz : ∀ a b, Y.length ≤ a → mi u a b = 0) (hY2 : Y ++ ((4, N, [Y.length + 1]) :: List.replicate N (1, K, [])) = Y2) (hy : Y.all (ylt Y.length) = true) (hlv : lv.all (olt Y.length) = true) (hst : st.all (vlt Y.length) = true) (h9 : Y.length + (N + 1) ≤ 900) (hq : pc + 4 = q) (h : GP EX Y2 d y cc nL rt q lv (.ref Y.length :: st) u Ye pce lve ste ue mc ms) : GP EX Y d y cc nL rt pc lv (.int kk0 :: .int nn :: st) u Ye pce lve ste ue ((N + 1) + mc) ((N + N * K) + ms) := by
  subst hq; subst hN; subst hKn
  intro p l e R s m args below meth c D ca r H H0 locs cells slots A Q ls hC hin hao hmc hms hA hD hP hS hl kk
  obtain ⟨hx, hb, hml, hr, hlk, hown, hts, hnw, hK, hfr, hlo, hce, hsl⟩ := id hC
  intro T hT X
  obtain ⟨vm₁, cA, comp, -, fA, fC, hO, -, X', step⟩ := X.multianewarray2F hx hown (hts _ hcl) (hao.use (Or.inr rfl) args) (hts _ harr) (g := F0 m pc ls (.int kk0 :: .int nn :: st.map (xv r))) rfl (by rw [hb]; exact hd) rfl hn hk0 hb4 (by simp only [componentBytes]; omega) (by omega) rfl rfl (by omega) (by omega)
  have ec : cA = ca 4 := Option.some.inj (fA.symm.trans (hK.2 4 (ca 4, .array .byte) rfl).2)
  have ec2 : comp = ca 1 := Option.some.inj (fC.symm.trans (hK.2 1 (ca 1, .byte) rfl).2)
  subst ec; subst ec2
  generalize hF : Jvm.Free.Multi.fill (T.setVm vm₁) (ca 4) (ca 1) nn.toNatClampNeg kk0.toNatClampNeg (defaultValue .byte) nn.toNatClampNeg = F at X' step
  have hTh : (T.setVm vm₁).heap = H := hT
  obtain ⟨f1, f2, -, -⟩ := Jvm.Free.Multi.fill_facts (T.setVm vm₁) (ca 4) (ca 1) nn.toNatClampNeg kk0.toNatClampNeg (defaultValue .byte) nn.toNatClampNeg
  rw [hF, hTh] at f1 f2
  have hold : ∀ x : Nat, x < H.size → F.heap[x]? = H[x]? := fun x hx => by
    have := Jvm.Free.Multi.fill_old (T.setVm vm₁) (ca 4) (ca 1) nn.toNatClampNeg kk0.toNatClampNeg (defaultValue .byte) (a := x) (by rw [hTh]; exact hx) nn.toNatClampNeg
    rw [hF, hTh] at this
    exact this
  have hrow : ∀ j : Nat, j < nn.toNatClampNeg → F.heap[H.size + 1 + j]? = some (vp_cell (ca 1) (kk0.toNatClampNeg, .inl (fun _ => 0))) := fun j hj => by
    have := Jvm.Free.Multi.fill_inner (T.setVm vm₁) (ca 4) (ca 1) nn.toNatClampNeg kk0.toNatClampNeg (defaultValue .byte) nn.toNatClampNeg j hj
    rw [hF, hTh] at this
    rw [this, vp_cell_i]
    congr 1
    show ({ cls := ca 1, slots := Array.replicate _ (.int 0), vm := .none } : Cell) = _
    rw [arrV_new]
  have hout : Jvm.Free.Multi.outerC (ca 4) nn.toNatClampNeg H.size nn.toNatClampNeg = vp_cell (ca 4) (nn.toNatClampNeg, .inr (.inr (.inr (.inr (fun i => if i < nn.toNatClampNeg then some (H.size + 1 + i) else none))))) := by
    rw [vp_cell_q]
    exact mn_outer (ca 4) nn.toNatClampNeg H.size nn.toNatClampNeg
  rw [hout] at f2
  -- the new cells
  have hP0 : va_P D vwCl (xw r ca u 0 Y) F.heap := hP.kept (fun k9 x hx => hold x.1 ((hP k9 x hx).lt))
  have hnew : ∀ (i : Nat) (x : Nat × va_E), ((H.size, (.inl (ca 4, nn.toNatClampNeg, .inr (.inr (.inr (.inr (fun i => if i < nn.toNatClampNeg then some (H.size + 1 + i) else none))))) : va_E)) :: (List.range nn.toNatClampNeg).map (fun i => (H.size + 1 + i, (.inl (ca 1, kk0.toNatClampNeg, .inl (fun _ => 0)) : va_E))))[i]? = some x → x.1 = H.size + i ∧ va_at D vwCl x F.heap := by
    intro i x hx
    match i, hx with
    | 0, hx => cases hx; exact ⟨rfl, f2⟩
    | i + 1, hx =>
      have hx : ((List.range nn.toNatClampNeg).map (fun i => (H.size + 1 + i, (.inl (ca 1, kk0.toNatClampNeg, .inl (fun _ => 0)) : va_E))))[i]? = some x := hx
      rw [List.getElem?_map] at hx
      by_cases hi : i < nn.toNatClampNeg
      · rw [List.getElem?_range hi] at hx
        cases hx
        exact ⟨by show H.size + 1 + i = _; omega, hrow i hi⟩
      · rw [List.getElem?_eq_none (by simpa using hi)] at hx
        cases hx
  generalize hnw0 : (H.size, (.inl (ca 4, nn.toNatClampNeg, .inr (.inr (.inr (.inr (fun i => if i < nn.toNatClampNeg then some (H.size + 1 + i) else none))))) : va_E)) :: (List.range nn.toNatClampNeg).map (fun i => (H.size + 1 + i, (.inl (ca 1, kk0.toNatClampNeg, .inl (fun _ => 0)) : va_E))) = new at hnew
  have hP1 : va_P D vwCl (xw r ca u 0 Y ++ new) F.heap := hP0.app (fun i x hx => (hnew i x hx).2)
  have hDD := hD.D ca u
  have hlo0 : ∀ (i : Nat) (x : Nat × va_E), (xw r ca u 0 Y)[i]? = some x → x.1 < H.size := fun i x hx => (hP i x hx).lt
  have hD1 : va_D A (xw r ca u 0 Y ++ new) := by
    refine ⟨fun i j x y hi hj hxy => ?_, fun k9 x hx => ?_⟩
    · by_cases h1 : i < (xw r ca u 0 Y).length <;> by_cases h2 : j < (xw r ca u 0 Y).length
      · rw [List.getElem?_append_left h1] at hi
        rw [List.getElem?_append_left h2] at hj
        exact hDD.1 i j x y hi hj hxy
      · rw [List.getElem?_append_left h1] at hi
        rw [List.getElem?_append_right (by omega)] at hj
        have := hlo0 _ _ hi
        have := (hnew _ _ hj).1
        omega
      · rw [List.getElem?_append_right (by omega)] at hi
        rw [List.getElem?_append_left h2] at hj
        have := hlo0 _ _ hj
        have := (hnew _ _ hi).1
        omega
      · rw [List.getElem?_append_right (by omega)] at hi hj
        have := (hnew _ _ hi).1
        have := (hnew _ _ hj).1
        omega
    · by_cases h1 : k9 < (xw r ca u 0 Y).length
      · rw [List.getElem?_append_left h1] at hx
        exact hDD.2 k9 x hx
      · rw [List.getElem?_append_right (by omega)] at hx
        have := (hnew _ _ hx).1
        exact hA _ (by have := hS.1; omega)
  have hS1 : va_S A H0 F.heap locs := ⟨Nat.le_trans hS.1 (by rw [f1]; omega), fun x h1 h2 => (hold x (Nat.lt_of_lt_of_le h1 hS.1)).trans (hS.2.1 x h1 h2), hS.2.2⟩
  have hW := gp_more (c := nn.toNatClampNeg + 1) (q0 := H.size) (kc := nn.toNatClampNeg + 1) (ks := nn.toNatClampNeg + nn.toNatClampNeg * kk0.toNatClampNeg) hY2 (by simp) hy hlv hst h9 h hC hin hao hmc hms hA (new := new) (by
    rw [← hnw0]
    show _ = (rN r Y.length (nn.toNatClampNeg + 1) H.size Y.length, xe _ ca u Y.length (4, nn.toNatClampNeg, [Y.length + 1])) :: xw _ ca u (Y.length + 1) (List.replicate nn.toNatClampNeg (1, kk0.toNatClampNeg, []))
    rw [xw_rep (f := fun _ => 0) (by decide) _ _ (fun i _ => funext fun b => hz _ b (by omega)), rN_new (Nat.le_refl _) (by omega), Nat.sub_self, Nat.add_zero, xe, if_neg (show ¬ (4 : Nat) < 3 by decide), if_pos (show (4 : Nat) < 5 by decide)]
    congr 1
    · congr 8
      show (fun i => if i < nn.toNatClampNeg then some (H.size + 1 + i) else none) = (fun i => if i < nn.toNatClampNeg then some (rN r Y.length (nn.toNatClampNeg + 1) H.size (Y.length + 1 + i)) else none)
      funext i
      by_cases hi : i < nn.toNatClampNeg
      · rw [if_pos hi, if_pos hi, rN_new (by omega) (by omega), show H.size + (Y.length + 1 + i - Y.length) = H.size + 1 + i by omega]
      · rw [if_neg hi, if_neg hi]
    · apply List.map_congr_left
      intro i hi
      have hi := List.mem_range.mp hi
      rw [rN_new (by omega) (by omega), show H.size + (Y.length + 1 + i - Y.length) = H.size + 1 + i by omega]) hP1 hD1 hS1 hl (by omega) kk
  have e : T.heap.size = H.size := by rw [hT]
  rw [show cells + 1 + nn.toNatClampNeg = cells + (nn.toNatClampNeg + 1) by omega, show slots + nn.toNatClampNeg + nn.toNatClampNeg * kk0.toNatClampNeg = slots + (nn.toNatClampNeg + nn.toNatClampNeg * kk0.toNatClampNeg) by omega] at X'
  obtain ⟨t, a1, b1⟩ := hW F rfl X'
  refine ⟨t, step t ?_, b1⟩
  rw [e]
  exact a1
theorem gp_obj {k idx : Nat} (hd : decode cc pc = .ok (.invokespecial idx, 3)) (hlk0 : Cond.methodLink y.cls idx objectInit ∈ GW) (hins : Cond.instanceMethod objectInit ∈ GW) (hcd : Cond.code objectInit ⟨#[0xb1]⟩ 1 none ∈ GW) (hd1 : 0 < d) (hrm : (st.map fun v => v.category).sum ≤ 8) (hq : pc + 3 = q) (h : GP EX Y d y cc nL rt q lv st u Ye pce lve ste ue mc ms) : GP EX Y d y cc nL rt pc lv (.ref k :: st) u Ye pce lve ste ue mc ms := by
  subst hq
  intro p l e R s m args below meth c D ca r H H0 locs cells slots A Q ls hC hin hao hmc hms hA hD hP hS hl kk
  obtain ⟨hx, hb, hml, hr, hlk, hown, hts, hnw, hK, hfr, hlo, hce, hsl⟩ := id hC
  refine W.objInit hx hb hown (hts _ hlk0) (hts _ hins) (hts _ hcd) (g := F0 m pc ls (.ref (r k) :: st.map (xv r))) rfl (hl.1.trans hml.symm) rfl hd (by omega) ?_ ?_
  · rw [List.map_map]
    have hrm2 : (List.map ((fun v => v.category) ∘ xv r) st).sum ≤ 8 := by simpa [Function.comp_def, xv_cat] using hrm
    show 2 * 0 + _ + 12 ≤ R.locals
    omega
  · exact h p l e R s m args below meth c D ca r H H0 locs cells slots A Q ls hC hin hao hmc hms hA hD hP hS hl kk
theorem gp_callI {k idx d2 nL2 mc2 ms2 : Nat} {y2 : MethodName} {cc2 : ByteArray} {Y2 : List XS} {u2 : XM} (hlk0 : Cond.methodLink y.cls idx y2 ∈ GW) (hd : decode cc pc = .ok (.invokespecial idx, 3)) (hcd : Cond.code y2 cc2 nL2 none ∈ GW) (hini : Cond.initialized y2.cls ∈ GW) (hins : Cond.instanceMethod y2 ∈ GW) (hyn : y2.name = "<init>") (hsd : (decide (y2.cls ≠ "java/lang/invoke/MethodHandle") && decide (y2.cls ≠ "java/lang/invoke/VarHandle") && (parseMethodDescriptor y2.desc).map (fun x => x.parameters.length) == some 0 && Nat.ble nL2 45) = true) (hd2 : d2 < d) (hrm : (st.map fun v => v.category).sum ≤ 8) (hlv : lv.all (olt Y.length) = true) (hst : st.all (vlt Y.length) = true) (hle : Y.length ≤ Y2.length) (hc : CA Y d2 y2 cc2 nL2 k u Y2 u2 mc2 ms2) (hq : pc + 3 = q) (h : GP EX Y2 d y cc nL rt q lv st u2 Ye pce lve ste ue mc ms) : GP EX Y d y cc nL rt pc lv (.ref k :: st) u Ye pce lve ste ue (mc2 + mc) (ms2 + ms) := by
  subst hq
  simp only [Bool.and_eq_true, decide_eq_true_eq, beq_iff_eq] at hsd
  obtain ⟨⟨⟨hs1, hs2⟩, hs3⟩, hs4⟩ := hsd
  have hs4 := Nat.le_of_ble_eq_true hs4
  intro p l e R s m args below meth c D ca r H H0 locs cells slots A Q ls hC hin hao hmc hms hA hD hP hS hl kk
  obtain ⟨hx, hb, hml, hr, hlk, hown, hts, hnw, hK, hfr, hlo, hce, hsl⟩ := id hC
  have hM := hc l D ca r H.size
  have hrun := va_runI (g := F0 m pc ls ((.ref k :: st).map (xv r))) (b := r k) (As := []) (rest := st.map (xv r)) (locs := locs) (n := 0) (e := e) (R := R) (below := below) (meth := meth) (cells := cells) (slots := slots) (H := H) (Ts := GW) ⟨hx, hb, hml, hown, hts⟩ hM ⟨callB_of 0 hts (gw_good hcd) rfl rfl rfl (hts _ hini) (hts _ hlk0) ⟨hs1, hs2, hs3⟩ ⟨Nat.le_trans hd2 hfr, by show 8 + (nL2 + 11) + 64 * d2 ≤ R.locals; omega⟩, hyn, hts _ hins⟩ ⟨fun a U g mk q => by obtain ⟨q0, q1, q2, q3, q4, q5, q6⟩ := q; exact ⟨q0, q1, q2.same rfl, q3.same rfl, va_K.moved (u := U) (U := U.calling g mk a) (Vm.Alike.refl U.vm) q4, q5, q6⟩, fun U hU hW => ⟨rfl, by rw [hU], hnw.warm hW, hao.warm hW, va_K.moved hW.alike hK, hD.1, by rw [hU]; exact hP⟩⟩ rfl rfl hl.1 rfl (lv_room (by rw [List.map_map]; simpa [Function.comp_def, xv_cat] using hrm)) hd ⟨by show cells + mc2 ≤ R.cells; omega, by show slots + ms2 ≤ R.slots; omega⟩
  intro T hT X
  obtain ⟨v, st₀, t, T', L, h0, X', hL, e1, e2, ⟨hv, ⟨r', hr', hD', hP'⟩, hF⟩, stp⟩ := hrun T hT X
  cases hv
  have hAA : ∀ q, (xA Y r q ∨ H.size ≤ q) → A q := fun q hq => hq.elim (fun ⟨k, hk, e⟩ => by rw [e]; exact hD.2 k hk) (fun hq => hA q (Nat.le_trans hS.1 hq))
  have hP1 : va_P D vwCl (xw r' ca u2 0 Y2) T'.heap := by rw [e1]; exact hP'
  have hS1 : va_S A H0 T'.heap (locs ++ L) := by
    refine ⟨Nat.le_trans hS.1 (by rw [e1, ← h0]; exact hF.1), fun q h1 h2 => ?_, fun q hq => ?_⟩
    · have hlt : q < H.size := Nat.lt_of_lt_of_le h1 hS.1
      rw [e1, hF.2 q (by rw [h0]; exact hlt) (fun hn => h2 (hAA q hn)), h0]
      exact hS.2.1 q h1 h2
    · rcases List.mem_append.mp hq with h | h
      · exact hS.2.2 q h
      · exact hAA _ (hL q h)
  have hW2 := h p l e R s m args below meth c D ca r' T'.heap H0 (locs ++ L) (cells + mc2) (slots + ms2) A Q ls ⟨hx, hb, hml, hr, hlk, hown, hts, hnw, hK, hfr, hlo, by omega, by omega⟩ hin hao (by omega) (by omega) hA ⟨hD'.1, fun k hk => hAA _ (hD'.2 k hk)⟩ hP1 hS1 (llt_xL hr' hlv hl) (fun r3 H' locs' ls' h1 h2 h3 h4 h5 => by
    have hW3 := kk r3 H' locs' ls' (fun k hk => by rw [h1 k (by omega), hr' k hk]) h2 h3 h4 h5
    rw [show cells + mc2 + mc = cells + (mc2 + mc) by omega, show slots + ms2 + ms = slots + (ms2 + ms) by omega]
    exact hW3)
  rw [slt_xv hr' st hst] at hW2
  obtain ⟨t2, a1, b1⟩ := hW2 T' rfl X'
  exact ⟨t2, stp t2 a1, b1⟩
theorem gp_callIN {k idx d2 nL2 mc2 ms2 : Nat} {y2 : MethodName} {cc2 : ByteArray} {Y2 : List XS} {u2 : XM} {host : String} (hlk0 : Cond.methodLinkNest y.cls idx y2 host ∈ tables_1) (hd : decode cc pc = .ok (.invokespecial idx, 3)) (hcd : Cond.code y2 cc2 nL2 none ∈ GW) (hini : Cond.initialized y2.cls ∈ GW) (hins : Cond.instanceMethod y2 ∈ GW) (hyn : y2.name = "<init>") (hsd : (decide (y2.cls ≠ "java/lang/invoke/MethodHandle") && decide (y2.cls ≠ "java/lang/invoke/VarHandle") && (parseMethodDescriptor y2.desc).map (fun x => x.parameters.length) == some 0 && Nat.ble nL2 45) = true) (hd2 : d2 < d) (hrm : (st.map fun v => v.category).sum ≤ 8) (hlv : lv.all (olt Y.length) = true) (hst : st.all (vlt Y.length) = true) (hle : Y.length ≤ Y2.length) (hc : CA Y d2 y2 cc2 nL2 k u Y2 u2 mc2 ms2) (hq : pc + 3 = q) (h : GP EX Y2 d y cc nL rt q lv st u2 Ye pce lve ste ue mc ms) : GP EX Y d y cc nL rt pc lv (.ref k :: st) u Ye pce lve ste ue (mc2 + mc) (ms2 + ms) := by
  subst hq
  simp only [Bool.and_eq_true, decide_eq_true_eq, beq_iff_eq] at hsd
  obtain ⟨⟨⟨hs1, hs2⟩, hs3⟩, hs4⟩ := hsd
  have hs4 := Nat.le_of_ble_eq_true hs4
  intro p l e R s m args below meth c D ca r H H0 locs cells slots A Q ls hC hin hao hmc hms hA hD hP hS hl kk
  obtain ⟨hx, hb, hml, hr, hlk, hown, hts, hnw, hK, hfr, hlo, hce, hsl⟩ := id hC
  have hM := hc l D ca r H.size
  have hrun := va_runIN (g := F0 m pc ls ((.ref k :: st).map (xv r))) (b := r k) (As := []) (rest := st.map (xv r)) (locs := locs) (n := 0) (e := e) (R := R) (below := below) (meth := meth) (cells := cells) (slots := slots) (H := H) (Ts := GW) ⟨hx, hb, hml, hown, hts⟩ hM ⟨va_cnB 0 hts (gw_good hcd) rfl rfl rfl (hnw _ _ _ _ hlk0) (hts _ hini) ⟨hs1, hs2, hs3⟩ ⟨Nat.le_trans hd2 hfr, by show 8 + (nL2 + 11) + 64 * d2 ≤ R.locals; omega⟩, hyn, hts _ hins⟩ ⟨fun a U g mk q => by obtain ⟨q0, q1, q2, q3, q4, q5, q6⟩ := q; exact ⟨q0, q1, q2.same rfl, q3.same rfl, va_K.moved (u := U) (U := U.calling g mk a) (Vm.Alike.refl U.vm) q4, q5, q6⟩, fun U hU hW => ⟨rfl, by rw [hU], hnw.warm hW, hao.warm hW, va_K.moved hW.alike hK, hD.1, by rw [hU]; exact hP⟩⟩ rfl rfl hl.1 rfl (lv_room (by rw [List.map_map]; simpa [Function.comp_def, xv_cat] using hrm)) hd ⟨by show cells + mc2 ≤ R.cells; omega, by show slots + ms2 ≤ R.slots; omega⟩
  intro T hT X
  obtain ⟨v, st₀, t, T', L, h0, X', hL, e1, e2, ⟨hv, ⟨r', hr', hD', hP'⟩, hF⟩, stp⟩ := hrun T hT X
  cases hv
  have hAA : ∀ q, (xA Y r q ∨ H.size ≤ q) → A q := fun q hq => hq.elim (fun ⟨k, hk, e⟩ => by rw [e]; exact hD.2 k hk) (fun hq => hA q (Nat.le_trans hS.1 hq))
  have hP1 : va_P D vwCl (xw r' ca u2 0 Y2) T'.heap := by rw [e1]; exact hP'
  have hS1 : va_S A H0 T'.heap (locs ++ L) := by
    refine ⟨Nat.le_trans hS.1 (by rw [e1, ← h0]; exact hF.1), fun q h1 h2 => ?_, fun q hq => ?_⟩
    · have hlt : q < H.size := Nat.lt_of_lt_of_le h1 hS.1
      rw [e1, hF.2 q (by rw [h0]; exact hlt) (fun hn => h2 (hAA q hn)), h0]
      exact hS.2.1 q h1 h2
    · rcases List.mem_append.mp hq with h | h
      · exact hS.2.2 q h
      · exact hAA _ (hL q h)
  have hW2 := h p l e R s m args below meth c D ca r' T'.heap H0 (locs ++ L) (cells + mc2) (slots + ms2) A Q ls ⟨hx, hb, hml, hr, hlk, hown, hts, hnw, hK, hfr, hlo, by omega, by omega⟩ hin hao (by omega) (by omega) hA ⟨hD'.1, fun k hk => hAA _ (hD'.2 k hk)⟩ hP1 hS1 (llt_xL hr' hlv hl) (fun r3 H' locs' ls' h1 h2 h3 h4 h5 => by
    have hW3 := kk r3 H' locs' ls' (fun k hk => by rw [h1 k (by omega), hr' k hk]) h2 h3 h4 h5
    rw [show cells + mc2 + mc = cells + (mc2 + mc) by omega, show slots + ms2 + ms = slots + (ms2 + ms) by omega]
    exact hW3)
  rw [slt_xv hr' st hst] at hW2
  obtain ⟨t2, a1, b1⟩ := hW2 T' rfl X'
  exact ⟨t2, stp t2 a1, b1⟩
end XAlloc
theorem ca_of {Y Ye : List XS} {d : Nat} {y : MethodName} {cc : ByteArray} {nL k pc1 mc ms : Nat} {u u1 ue : XM} {lv lv1 : List (Option Value)} (hy : plainFor y = true) (hk : k < Y.length) (hn : 1 ≤ nL) (hlv : xin [.ref k] nL = lv)
    (h : GP E0 Y d y cc nL none 0 lv [] u Ye pc1 lv1 [] u1 mc ms) (h2 : GF E0 Ye d y cc nL none pc1 lv1 [] u1 emV (some ((), ue))) : CA Y d y cc nL k u Ye ue mc ms := by
  subst hlv
  intro l D ca r sz
  refine metF_ofW (cc := cc) (maxL := nL) (ret := none) hy rfl ?_
  intro p e s m args below meth c s₁ B hml hv
  obtain ⟨rfl, hsz, hnw, hao, hK, hinj, hP⟩ := hv
  subst hsz
  have hts := atoms_spec (ws := Cond.code y cc nL none :: GW) B.pre
  have hlocks := B.notSynchronized
  have hl := xin_L r [.ref k] nL hn
  have hname : y.name = "<init>" → meth.name = "<init>" := fun q => (name_of_methodNamed B.named B.method).1.trans q
  have e0 : entryFrame m ([Value.ref (r k)] : List Value).toArray nL = entryFrame m (([.ref k] : List Value).map (xv r)).toArray nL := rfl
  rw [e0, lg_entry_eq]
  generalize (lg_sl (([.ref k] : List Value).map (xv r)) ++ List.replicate (nL - (lg_sl (([.ref k] : List Value).map (xv r))).length) Slot.unset).toArray = ls at hl ⊢
  have hAq : ∀ q, s.heap.size ≤ q → (fun q => xA Y r q ∨ s.heap.size ≤ q) q := fun q hq => Or.inr hq
  refine h p l e _ s m _ below meth c D ca r s.heap s.heap [] 0 0 (fun q => xA Y r q ∨ s.heap.size ≤ q) _ ls ⟨B.exec, B.bytes, hml, B.returns, hlocks, findClass_of_methodNamed B.named, fun w hw => hts w (List.mem_cons_of_mem _ hw), hnw, hK, Nat.le_refl _, Nat.le_refl _, Nat.zero_le _, Nat.zero_le _⟩ hname hao (by show 0 + mc ≤ mc; omega) (by show 0 + ms ≤ ms; omega) hAq ⟨hinj, fun k hk => Or.inl ⟨k, hk, rfl⟩⟩ hP va_S.rf hl ?_
  intro r' H' locs' ls' hr' hD' hP' hS' hl'
  rw [Nat.zero_add, Nat.zero_add]
  refine h2 () ue rfl p l e _ s m _ below meth c D ca r' H' s.heap locs' mc ms (fun q => xA Y r q ∨ s.heap.size ≤ q) _ ls' ⟨B.exec, B.bytes, hml, B.returns, hlocks, findClass_of_methodNamed B.named, fun w hw => hts w (List.mem_cons_of_mem _ hw), hnw, hK, Nat.le_refl _, Nat.le_refl _, Nat.le_refl _, Nat.le_refl _⟩ trivial hD' hP' hS' hl' ?_
  intro v u2 H2 locs2 pc2 ls2 hpost hP2 hS2 hR
  obtain ⟨rfl, rfl⟩ := hpost
  exact W.vret B.exec B.bytes (by rw [B.returns]) (fun t ht _ => ⟨rfl, ⟨r', hr', hD', by rw [ht]; exact hP2⟩, hS2.F ht⟩) hS2.2.2 hR.1
