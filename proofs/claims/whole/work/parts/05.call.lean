/-! ===== calls: a method's contract out of its frame's; a call's row ===== -/
def xin (As : List Value) (nL : Nat) : List (Option Value) := (List.range nL).map (fun i => (lv_args 0 As).lookup i)
theorem lv_args_xv (r : Nat → Nat) : ∀ (As : List Value) (i : Nat), lv_args i (As.map (xv r)) = (lv_args i As).map (fun q => (q.1, xv r q.2))
  | [], _ => rfl
  | v :: vs, i => by
    show (i, xv r v) :: lv_args (if (xv r v).category = 2 then i + 2 else i + 1) (vs.map (xv r)) = (i, xv r v) :: _
    rw [xv_cat, lv_args_xv r vs]
theorem lookup_mem : ∀ (l : List (Nat × Value)) (i : Nat) (v : Value), l.lookup i = some v → (i, v) ∈ l
  | [], _, _, h => by cases h
  | (a, b) :: l, i, v, h => by
    rw [List.lookup_cons] at h
    by_cases hi : i == a
    · rw [hi] at h
      simp at h hi
      subst h; subst hi
      exact List.mem_cons_self
    · simp only [Bool.not_eq_true] at hi
      rw [hi] at h
      exact List.mem_cons_of_mem _ (lookup_mem l i v h)
theorem xin_L (r : Nat → Nat) (As : List Value) (nL : Nat) (h : (lg_sl As).length ≤ nL) : xL r nL (xin As nL) ((lg_sl (As.map (xv r)) ++ List.replicate (nL - (lg_sl (As.map (xv r))).length) Slot.unset).toArray) := by
  have hlen : (lg_sl (As.map (xv r))).length = (lg_sl As).length := by
    clear h
    induction As with
    | nil => rfl
    | cons v vs ih =>
      have e : ∀ (w : Value) (ws : List Value), (lg_sl (w :: ws)).length = (if w.category = 2 then 2 else 1) + (lg_sl ws).length := by
        intro w ws
        show (List.flatMap _ (w :: ws)).length = _
        rw [List.flatMap_cons, List.length_append]
        by_cases hc : w.category = 2 <;> simp [hc, lg_sl]
      rw [List.map_cons, e, e, ih, xv_cat]
  have h2 := lv_entry (As.map (xv r)) (n := nL) (by rw [hlen]; exact h)
  refine ⟨h2.1, h2.2.1, fun i v hv => ?_⟩
  unfold xin at hv
  rw [List.getElem?_map] at hv
  by_cases hi : i < nL
  · rw [List.getElem?_range hi] at hv
    simp only [Option.map_some, Option.some.injEq] at hv
    have h3 := lookup_mem _ _ _ hv
    refine h2.2.2 (i, xv r v) ?_
    rw [lv_args_xv]
    exact List.mem_map.mpr ⟨(i, v), h3, rfl⟩
  · rw [List.getElem?_eq_none (by simpa using hi)] at hv
    cases hv
/-- Met.ofW, where the tables of natives have no row for the method -/
theorem metF_ofW {l : Launch} {y : MethodName} {ws ws' : List Cond} {rm : Room} {Pc : Array Value → State → Prop} {Qc : Array Value → State → Outcome → State → Prop} {mc ms : Nat} {free : Addr → Prop} {cc : ByteArray} {maxL : Nat} {ret : Option FieldType}
    (hy : plainFor y = true) (hw : ws = Cond.code y cc maxL ret :: ws')
    (body : ∀ p e s m args below meth c s₁, BodyLoose p l y (headSpec ws rm) cc maxL ret e s m args below meth c s₁ → c.maxLocals = maxL → Pc args s →
      W p l e (headSpec ws rm).room s m args below meth c s.heap [] 0 0 (MQ below Qc args s mc ms free) (entryFrame m args maxL)) : Met l y ws rm Pc Qc mc ms free := by
  refine MetFree.of_bodySF (code := cc) (maxLocals := maxL) (ret := ret) hy ?_ ?_
  · intro args s m h hn
    obtain ⟨meth, c, h1, h2, h3, h4, h5, h6, -, -⟩ := Cond.code_spec hn (atoms_spec (ws := ws) h _ (by rw [hw]; exact List.mem_cons_self))
    exact ⟨meth, c, h1, h2, h3, h4, h5, h6⟩
  · intro p e s m args below meth c s₁ B hml hP _
    have hh0 : s₁.heap = s.heap := by rw [B.state]; rfl
    obtain ⟨t, a1, o, b1, b2, b3⟩ := body p e s m args below meth c s₁ B hml hP s₁ hh0 (Stand.of_body B)
    exact ⟨t, o, a1, b1, b2, ⟨b3.1, b3.2⟩⟩
theorem cf_of {Y : List XS} {d : Nat} {y : MethodName} {cc : ByteArray} {nL : Nat} {rt : Option FieldType} {As : List Value} {u : XM} {τ : Type} {em : τ → Option Value} {o : Option (τ × XM)} {lv : List (Option Value)} (hy : plainFor y = true) (hn : (lg_sl As).length ≤ nL) (hlv : xin As nL = lv)
    (h : GF E0 Y d y cc nL rt 0 lv [] u em o) : CF Y d y cc nL rt As u em o := by
  subst hlv
  intro z u' eo l D ca r
  refine metF_ofW (cc := cc) (maxL := nL) (ret := rt) hy rfl ?_
  intro p e s m args below meth c s₁ B hml hv
  obtain ⟨rfl, hnw, hK, hinj, hP⟩ := hv
  have hts := atoms_spec (ws := Cond.code y cc nL rt :: GW) B.pre
  have hlocks := B.notSynchronized
  have hl := xin_L r As nL hn
  rw [lg_entry_eq]
  generalize (lg_sl (As.map (xv r)) ++ List.replicate (nL - (lg_sl (As.map (xv r))).length) Slot.unset).toArray = ls at hl ⊢
  refine h z u' eo p l e _ s m _ below meth c D ca r s.heap s.heap [] 0 0 (xA Y r) _ ls ⟨B.exec, B.bytes, hml, B.returns, hlocks, findClass_of_methodNamed B.named, fun w hw => hts w (List.mem_cons_of_mem _ hw), hnw, hK, Nat.le_refl _, Nat.le_refl _, Nat.zero_le _, Nat.zero_le _⟩ trivial ⟨hinj, fun k hk => ⟨k, hk, rfl⟩⟩ hP va_S.rf hl ?_
  intro v u2 H' locs' pc' ls' hpost hP' hS' hR
  obtain ⟨rfl, rfl⟩ := hpost
  have hq : ∀ t : State, t.heap = H' → s.WarmedH t.vm → (Outcome.returned (em z) = .returned (em z) ∧ va_P D vwCl (xw r ca u2 0 Y) t.heap ∧ va_F (xA Y r) s t) := fun t ht _ => ⟨rfl, by rw [ht]; exact hP', hS'.F ht⟩
  generalize em z = v at hR hq ⊢
  match v, hR, hq with
  | none, hR, hq => exact W.vret B.exec B.bytes (by rw [B.returns]; exact hR.2) hq hS'.2.2 hR.1
  | some (.int x), hR, hq =>
    obtain ⟨h1, ty, h2, h3⟩ := hR
    exact W.zret B.exec B.bytes (by rw [B.returns]; exact h2) h3 hq hS'.2.2 h1
  | some (.long x), hR, hq => exact W.lret B.exec B.bytes (by rw [B.returns]; exact hR.2) hq hS'.2.2 hR.1
section XCalls
variable {EX : State → Heap → (Nat → Prop) → (Nat → Nat) → Prop} {Y : List XS} {d : Nat} {y : MethodName} {cc : ByteArray} {nL : Nat} {rt : Option FieldType} {pc q : Nat} {lv lv2 : List (Option Value)} {st : List Value} {u : XM} {τ : Type} {em : τ → Option Value} {o : Option (τ × XM)}
theorem gf_callS {y2 : MethodName} {cc2 : ByteArray} {nL2 : Nat} {rt2 : Option FieldType} {d2 idx : Nat} {τ2 : Type} {em2 : τ2 → Option Value} {o2 : Option (τ2 × XM)} {f : τ2 × XM → Option (τ × XM)} {As : List Value} {n2 : Nat} {hlen : As.length = n2} (hlk0 : Cond.methodLink y.cls idx y2 ∈ GW) (hstt : Cond.static y2 ∈ GW) (hd : decode cc pc = .ok (.invokestatic idx, 3)) (hcd : Cond.code y2 cc2 nL2 rt2 ∈ GW) (hini : Cond.initialized y2.cls ∈ GW) (hsd : (decide (y2.cls ≠ "java/lang/invoke/MethodHandle") && decide (y2.cls ≠ "java/lang/invoke/VarHandle") && (parseMethodDescriptor y2.desc).map (fun x => x.parameters.length) == some n2 && Nat.ble nL2 45) = true) (hd2 : d2 < d) (hrm : (st.map fun v => v.category).sum ≤ 8) (hem : ∀ x, (em2 x).toList.map (xv (fun k => k)) = (em2 x).toList ∧ ∀ r, (em2 x).toList.map (xv r) = (em2 x).toList) (hc : CF Y d2 y2 cc2 nL2 rt2 (As) u em2 o2) (hq : pc + 3 = q) (h : ∀ x, GF EX Y d y cc nL rt q lv ((em2 x.1).toList ++ st) x.2 em (f x)) : GF EX Y d y cc nL rt pc lv (As.reverse ++ st) u em (o2.bind f) := by
  subst hq
  intro z u' eo
  have hem := fun x => (hem x).2
  cases ho : o2 with
  | none => rw [ho] at eo; cases eo
  | some w =>
    obtain ⟨r2, u1⟩ := w
    rw [ho] at eo
    have eo : f (r2, u1) = some (z, u') := eo
    simp only [Bool.and_eq_true, decide_eq_true_eq, beq_iff_eq] at hsd
    obtain ⟨⟨⟨hs1, hs2⟩, hs3⟩, hs4⟩ := hsd
    have hs4 := Nat.le_of_ble_eq_true hs4
    intro p l e R s m args below meth c D ca r H H0 locs cells slots A Q ls hC hE hD hP hS hl kk
    obtain ⟨hx, hb, hml, hr, hlk, hown, hts, hnw, hK, hfr, hlo, hce, hsl⟩ := id hC
    have hem := fun x => hem x r
    have hM := hc r2 u1 ho l D ca r
    have hrun := va_runS (g := F0 m pc ls ((As.reverse ++ st).map (xv r))) (As := As.map (xv r)) (rest := st.map (xv r)) (locs := locs) (n := n2) (e := e) (R := R) (below := below) (meth := meth) (cells := cells) (slots := slots) (H := H) ⟨hx, hb, hml, hown, hts⟩ hM ⟨callB_of n2 hts (gw_good hcd) rfl rfl rfl (hts _ hini) (hts _ hlk0) ⟨hs1, hs2, hs3⟩ ⟨Nat.le_trans hd2 hfr, by show 8 + (nL2 + 11) + 64 * d2 ≤ R.locals; omega⟩, hts _ hstt⟩ ⟨fun a U g mk q => by obtain ⟨q0, q1, q2, q3, q4⟩ := q; exact ⟨q0, q1.same rfl, va_K.moved (u := U) (U := U.calling g mk a) (Vm.Alike.refl U.vm) q2, q3, q4⟩, fun U hU hW => ⟨rfl, hnw.warm hW, va_K.moved hW.alike hK, hD.1, by rw [hU]; exact hP⟩⟩ rfl (by rw [List.length_map]; exact hlen) hl.1 (by show List.map _ _ = _; rw [List.map_append, List.map_reverse]) (lv_room (by rw [List.map_map]; simpa [Function.comp_def, xv_cat] using hrm)) hd ⟨hce, hsl⟩
    intro T hT X
    obtain ⟨v, st₀, t, T', L, h0, X', hL, e1, e2, ⟨hv, hP1, hF⟩, stp⟩ := hrun T hT X
    cases hv
    have hP1 : va_P D vwCl (xw r ca u1 0 Y) T'.heap := by rw [e1]; exact hP1
    have hS1 : va_S A H0 T'.heap (locs ++ L) := by
      refine ⟨Nat.le_trans hS.1 (by rw [e1, ← h0]; exact hF.1), fun q h1 h2 => ?_, fun q hq => ?_⟩
      · have hlt : q < H.size := Nat.lt_of_lt_of_le h1 hS.1
        have hn : ¬ xA Y r q := fun ⟨k, hk, e⟩ => h2 (by rw [e]; exact hD.2 k hk)
        rw [e1, hF.2 q (by rw [h0]; exact hlt) hn, h0]
        exact hS.2.1 q h1 h2
      · rcases List.mem_append.mp hq with h | h
        · exact hS.2.2 q h
        · obtain ⟨k, hk, e⟩ := hL q h
          rw [e]
          exact hD.2 k hk
    have hst : ((em2 r2).toList ++ st.map (xv r)) = ((em2 r2).toList ++ st).map (xv r) := by
      rw [List.map_append]
      congr 1
      rw [hem r2]
    have hW2 := h (r2, u1) z u' eo p l e R s m args below meth c D ca r T'.heap H0 (locs ++ L) cells slots A Q ls hC hE hD hP1 hS1 hl kk
    rw [← hst] at hW2
    obtain ⟨t2, a1, b1⟩ := hW2 T' rfl X'
    exact ⟨t2, stp t2 a1, b1⟩
theorem gf_callSN {y2 : MethodName} {cc2 : ByteArray} {nL2 : Nat} {rt2 : Option FieldType} {d2 idx : Nat} {τ2 : Type} {em2 : τ2 → Option Value} {o2 : Option (τ2 × XM)} {f : τ2 × XM → Option (τ × XM)} {As : List Value} {n2 : Nat} {host : String} {hlen : As.length = n2} (hlk0 : Cond.methodLinkNest y.cls idx y2 host ∈ tables_1) (hstt : Cond.static y2 ∈ GW) (hd : decode cc pc = .ok (.invokestatic idx, 3)) (hcd : Cond.code y2 cc2 nL2 rt2 ∈ GW) (hini : Cond.initialized y2.cls ∈ GW) (hsd : (decide (y2.cls ≠ "java/lang/invoke/MethodHandle") && decide (y2.cls ≠ "java/lang/invoke/VarHandle") && (parseMethodDescriptor y2.desc).map (fun x => x.parameters.length) == some n2 && Nat.ble nL2 45) = true) (hd2 : d2 < d) (hrm : (st.map fun v => v.category).sum ≤ 8) (hem : ∀ x, (em2 x).toList.map (xv (fun k => k)) = (em2 x).toList ∧ ∀ r, (em2 x).toList.map (xv r) = (em2 x).toList) (hc : CF Y d2 y2 cc2 nL2 rt2 (As) u em2 o2) (hq : pc + 3 = q) (h : ∀ x, GF EX Y d y cc nL rt q lv ((em2 x.1).toList ++ st) x.2 em (f x)) : GF EX Y d y cc nL rt pc lv (As.reverse ++ st) u em (o2.bind f) := by
  subst hq
  intro z u' eo
  have hem := fun x => (hem x).2
  cases ho : o2 with
  | none => rw [ho] at eo; cases eo
  | some w =>
    obtain ⟨r2, u1⟩ := w
    rw [ho] at eo
    have eo : f (r2, u1) = some (z, u') := eo
    simp only [Bool.and_eq_true, decide_eq_true_eq, beq_iff_eq] at hsd
    obtain ⟨⟨⟨hs1, hs2⟩, hs3⟩, hs4⟩ := hsd
    have hs4 := Nat.le_of_ble_eq_true hs4
    intro p l e R s m args below meth c D ca r H H0 locs cells slots A Q ls hC hE hD hP hS hl kk
    obtain ⟨hx, hb, hml, hr, hlk, hown, hts, hnw, hK, hfr, hlo, hce, hsl⟩ := id hC
    have hem := fun x => hem x r
    have hM := hc r2 u1 ho l D ca r
    have hrun := va_runSN (g := F0 m pc ls ((As.reverse ++ st).map (xv r))) (As := As.map (xv r)) (rest := st.map (xv r)) (locs := locs) (n := n2) (e := e) (R := R) (below := below) (meth := meth) (cells := cells) (slots := slots) (H := H) (Ts := GW) ⟨hx, hb, hml, hown, hts⟩ hM ⟨va_cnB n2 hts (gw_good hcd) rfl rfl rfl (hnw _ _ _ _ hlk0) (hts _ hini) ⟨hs1, hs2, hs3⟩ ⟨Nat.le_trans hd2 hfr, by show 8 + (nL2 + 11) + 64 * d2 ≤ R.locals; omega⟩, hts _ hstt, trivial⟩ ⟨fun a U g mk q => by obtain ⟨q0, q1, q2, q3, q4⟩ := q; exact ⟨q0, q1.same rfl, va_K.moved (u := U) (U := U.calling g mk a) (Vm.Alike.refl U.vm) q2, q3, q4⟩, fun U hU hW => ⟨rfl, hnw.warm hW, va_K.moved hW.alike hK, hD.1, by rw [hU]; exact hP⟩⟩ rfl (by rw [List.length_map]; exact hlen) hl.1 (by show List.map _ _ = _; rw [List.map_append, List.map_reverse]) (lv_room (by rw [List.map_map]; simpa [Function.comp_def, xv_cat] using hrm)) hd ⟨hce, hsl⟩
    intro T hT X
    obtain ⟨v, st₀, t, T', L, h0, X', hL, e1, e2, ⟨hv, hP1, hF⟩, stp⟩ := hrun T hT X
    cases hv
    have hP1 : va_P D vwCl (xw r ca u1 0 Y) T'.heap := by rw [e1]; exact hP1
    have hS1 : va_S A H0 T'.heap (locs ++ L) := by
      refine ⟨Nat.le_trans hS.1 (by rw [e1, ← h0]; exact hF.1), fun q h1 h2 => ?_, fun q hq => ?_⟩
      · have hlt : q < H.size := Nat.lt_of_lt_of_le h1 hS.1
        have hn : ¬ xA Y r q := fun ⟨k, hk, e⟩ => h2 (by rw [e]; exact hD.2 k hk)
        rw [e1, hF.2 q (by rw [h0]; exact hlt) hn, h0]
        exact hS.2.1 q h1 h2
      · rcases List.mem_append.mp hq with h | h
        · exact hS.2.2 q h
        · obtain ⟨k, hk, e⟩ := hL q h
          rw [e]
          exact hD.2 k hk
    have hst : ((em2 r2).toList ++ st.map (xv r)) = ((em2 r2).toList ++ st).map (xv r) := by
      rw [List.map_append]
      congr 1
      rw [hem r2]
    have hW2 := h (r2, u1) z u' eo p l e R s m args below meth c D ca r T'.heap H0 (locs ++ L) cells slots A Q ls hC hE hD hP1 hS1 hl kk
    rw [← hst] at hW2
    obtain ⟨t2, a1, b1⟩ := hW2 T' rfl X'
    exact ⟨t2, stp t2 a1, b1⟩
theorem gf_callV {y2 : MethodName} {cc2 : ByteArray} {nL2 : Nat} {rt2 : Option FieldType} {d2 idx : Nat} {τ2 : Type} {em2 : τ2 → Option Value} {o2 : Option (τ2 × XM)} {f : τ2 × XM → Option (τ × XM)} {As : List Value} {n2 : Nat} {b ci nb N : Nat} {C : String} {T : u_T} {db : List Nat} {hlen : As.length = n2} (hY : Y[b]? = some (ci + 5, nb, db)) (hcl : vwCl[ci]? = some (C, T, N)) (hlk0 : Cond.methodLink y.cls idx y2 ∈ GW) (hins : Cond.instanceMethod y2 ∈ GW) (hsel : Cond.selects C y2 y2 ∈ GW) (hd : decode cc pc = .ok (.invokevirtual idx, 3)) (hcd : Cond.code y2 cc2 nL2 rt2 ∈ GW) (hini : Cond.initialized y2.cls ∈ GW) (hsd : (decide (y2.cls ≠ "java/lang/invoke/MethodHandle") && decide (y2.cls ≠ "java/lang/invoke/VarHandle") && (parseMethodDescriptor y2.desc).map (fun x => x.parameters.length) == some n2 && Nat.ble nL2 45) = true) (hd2 : d2 < d) (hrm : (st.map fun v => v.category).sum ≤ 8) (hem : ∀ x, (em2 x).toList.map (xv (fun k => k)) = (em2 x).toList ∧ ∀ r, (em2 x).toList.map (xv r) = (em2 x).toList) (hc : CF Y d2 y2 cc2 nL2 rt2 (.ref b :: As) u em2 o2) (hq : pc + 3 = q) (h : ∀ x, GF EX Y d y cc nL rt q lv ((em2 x.1).toList ++ st) x.2 em (f x)) : GF EX Y d y cc nL rt pc lv (As.reverse ++ .ref b :: st) u em (o2.bind f) := by
  subst hq
  intro z u' eo
  have hem := fun x => (hem x).2
  cases ho : o2 with
  | none => rw [ho] at eo; cases eo
  | some w =>
    obtain ⟨r2, u1⟩ := w
    rw [ho] at eo
    have eo : f (r2, u1) = some (z, u') := eo
    simp only [Bool.and_eq_true, decide_eq_true_eq, beq_iff_eq] at hsd
    obtain ⟨⟨⟨hs1, hs2⟩, hs3⟩, hs4⟩ := hsd
    have hs4 := Nat.le_of_ble_eq_true hs4
    intro p l e R s m args below meth c D ca r H H0 locs cells slots A Q ls hC hE hD hP hS hl kk
    obtain ⟨hx, hb, hml, hr, hlk, hown, hts, hnw, hK, hfr, hlo, hce, hsl⟩ := id hC
    have hem := fun x => hem x r
    have hM := hc r2 u1 ho l D ca r
    have hrun := va_runV (g := F0 m pc ls ((As.reverse ++ .ref b :: st).map (xv r))) (b := r b) (C := C) (As := As.map (xv r)) (rest := st.map (xv r)) (locs := locs) (n := n2) (e := e) (R := R) (below := below) (meth := meth) (cells := cells) (slots := slots) (H := H) ⟨hx, hb, hml, hown, hts⟩ hM ⟨callB_of n2 hts (gw_good hcd) rfl rfl rfl (hts _ hini) (hts _ hlk0) ⟨hs1, hs2, hs3⟩ ⟨Nat.le_trans hd2 hfr, by show 8 + (nL2 + 11) + 64 * d2 ≤ R.locals; omega⟩, hts _ hins, hts _ hsel⟩ ⟨fun a U g mk q => by obtain ⟨q0, q1, q2, q3, q4⟩ := q; exact ⟨q0, q1.same rfl, va_K.moved (u := U) (U := U.calling g mk a) (Vm.Alike.refl U.vm) q2, q3, q4⟩, va_recv hK hP (ci := ci) (q0 := b) hcl (xw_obj hY), fun U hU hW => ⟨rfl, hnw.warm hW, va_K.moved hW.alike hK, hD.1, by rw [hU]; exact hP⟩⟩ rfl (by rw [List.length_map]; exact hlen) hl.1 (by show List.map _ _ = _; rw [List.map_append, List.map_reverse]; rfl) (lv_room (by rw [List.map_map]; simpa [Function.comp_def, xv_cat] using hrm)) hd ⟨hce, hsl⟩
    intro T hT X
    obtain ⟨v, st₀, t, T', L, h0, X', hL, e1, e2, ⟨hv, hP1, hF⟩, stp⟩ := hrun T hT X
    cases hv
    have hP1 : va_P D vwCl (xw r ca u1 0 Y) T'.heap := by rw [e1]; exact hP1
    have hS1 : va_S A H0 T'.heap (locs ++ L) := by
      refine ⟨Nat.le_trans hS.1 (by rw [e1, ← h0]; exact hF.1), fun q h1 h2 => ?_, fun q hq => ?_⟩
      · have hlt : q < H.size := Nat.lt_of_lt_of_le h1 hS.1
        have hn : ¬ xA Y r q := fun ⟨k, hk, e⟩ => h2 (by rw [e]; exact hD.2 k hk)
        rw [e1, hF.2 q (by rw [h0]; exact hlt) hn, h0]
        exact hS.2.1 q h1 h2
      · rcases List.mem_append.mp hq with h | h
        · exact hS.2.2 q h
        · obtain ⟨k, hk, e⟩ := hL q h
          rw [e]
          exact hD.2 k hk
    have hst : ((em2 r2).toList ++ st.map (xv r)) = ((em2 r2).toList ++ st).map (xv r) := by
      rw [List.map_append]
      congr 1
      rw [hem r2]
    have hW2 := h (r2, u1) z u' eo p l e R s m args below meth c D ca r T'.heap H0 (locs ++ L) cells slots A Q ls hC hE hD hP1 hS1 hl kk
    rw [← hst] at hW2
    obtain ⟨t2, a1, b1⟩ := hW2 T' rfl X'
    exact ⟨t2, stp t2 a1, b1⟩
theorem gf_callVN {y2 : MethodName} {cc2 : ByteArray} {nL2 : Nat} {rt2 : Option FieldType} {d2 idx : Nat} {τ2 : Type} {em2 : τ2 → Option Value} {o2 : Option (τ2 × XM)} {f : τ2 × XM → Option (τ × XM)} {As : List Value} {n2 : Nat} {host : String} {b ci nb N : Nat} {C : String} {T : u_T} {db : List Nat} {hlen : As.length = n2} (hY : Y[b]? = some (ci + 5, nb, db)) (hcl : vwCl[ci]? = some (C, T, N)) (hlk0 : Cond.methodLinkNest y.cls idx y2 host ∈ tables_1) (hins : Cond.instanceMethod y2 ∈ GW) (hsel : Cond.selects C y2 y2 ∈ GW) (hd : decode cc pc = .ok (.invokevirtual idx, 3)) (hcd : Cond.code y2 cc2 nL2 rt2 ∈ GW) (hini : Cond.initialized y2.cls ∈ GW) (hsd : (decide (y2.cls ≠ "java/lang/invoke/MethodHandle") && decide (y2.cls ≠ "java/lang/invoke/VarHandle") && (parseMethodDescriptor y2.desc).map (fun x => x.parameters.length) == some n2 && Nat.ble nL2 45) = true) (hd2 : d2 < d) (hrm : (st.map fun v => v.category).sum ≤ 8) (hem : ∀ x, (em2 x).toList.map (xv (fun k => k)) = (em2 x).toList ∧ ∀ r, (em2 x).toList.map (xv r) = (em2 x).toList) (hc : CF Y d2 y2 cc2 nL2 rt2 (.ref b :: As) u em2 o2) (hq : pc + 3 = q) (h : ∀ x, GF EX Y d y cc nL rt q lv ((em2 x.1).toList ++ st) x.2 em (f x)) : GF EX Y d y cc nL rt pc lv (As.reverse ++ .ref b :: st) u em (o2.bind f) := by
  subst hq
  intro z u' eo
  have hem := fun x => (hem x).2
  cases ho : o2 with
  | none => rw [ho] at eo; cases eo
  | some w =>
    obtain ⟨r2, u1⟩ := w
    rw [ho] at eo
    have eo : f (r2, u1) = some (z, u') := eo
    simp only [Bool.and_eq_true, decide_eq_true_eq, beq_iff_eq] at hsd
    obtain ⟨⟨⟨hs1, hs2⟩, hs3⟩, hs4⟩ := hsd
    have hs4 := Nat.le_of_ble_eq_true hs4
    intro p l e R s m args below meth c D ca r H H0 locs cells slots A Q ls hC hE hD hP hS hl kk
    obtain ⟨hx, hb, hml, hr, hlk, hown, hts, hnw, hK, hfr, hlo, hce, hsl⟩ := id hC
    have hem := fun x => hem x r
    have hM := hc r2 u1 ho l D ca r
    have hrun := va_runVN (g := F0 m pc ls ((As.reverse ++ .ref b :: st).map (xv r))) (b := r b) (C := C) (As := As.map (xv r)) (rest := st.map (xv r)) (locs := locs) (n := n2) (e := e) (R := R) (below := below) (meth := meth) (cells := cells) (slots := slots) (H := H) (Ts := GW) ⟨hx, hb, hml, hown, hts⟩ hM ⟨va_cnB n2 hts (gw_good hcd) rfl rfl rfl (hnw _ _ _ _ hlk0) (hts _ hini) ⟨hs1, hs2, hs3⟩ ⟨Nat.le_trans hd2 hfr, by show 8 + (nL2 + 11) + 64 * d2 ≤ R.locals; omega⟩, hts _ hins, hts _ hsel⟩ ⟨fun a U g mk q => by obtain ⟨q0, q1, q2, q3, q4⟩ := q; exact ⟨q0, q1.same rfl, va_K.moved (u := U) (U := U.calling g mk a) (Vm.Alike.refl U.vm) q2, q3, q4⟩, va_recv hK hP (ci := ci) (q0 := b) hcl (xw_obj hY), fun U hU hW => ⟨rfl, hnw.warm hW, va_K.moved hW.alike hK, hD.1, by rw [hU]; exact hP⟩⟩ rfl (by rw [List.length_map]; exact hlen) hl.1 (by show List.map _ _ = _; rw [List.map_append, List.map_reverse]; rfl) (lv_room (by rw [List.map_map]; simpa [Function.comp_def, xv_cat] using hrm)) hd ⟨hce, hsl⟩
    intro T hT X
    obtain ⟨v, st₀, t, T', L, h0, X', hL, e1, e2, ⟨hv, hP1, hF⟩, stp⟩ := hrun T hT X
    cases hv
    have hP1 : va_P D vwCl (xw r ca u1 0 Y) T'.heap := by rw [e1]; exact hP1
    have hS1 : va_S A H0 T'.heap (locs ++ L) := by
      refine ⟨Nat.le_trans hS.1 (by rw [e1, ← h0]; exact hF.1), fun q h1 h2 => ?_, fun q hq => ?_⟩
      · have hlt : q < H.size := Nat.lt_of_lt_of_le h1 hS.1
        have hn : ¬ xA Y r q := fun ⟨k, hk, e⟩ => h2 (by rw [e]; exact hD.2 k hk)
        rw [e1, hF.2 q (by rw [h0]; exact hlt) hn, h0]
        exact hS.2.1 q h1 h2
      · rcases List.mem_append.mp hq with h | h
        · exact hS.2.2 q h
        · obtain ⟨k, hk, e⟩ := hL q h
          rw [e]
          exact hD.2 k hk
    have hst : ((em2 r2).toList ++ st.map (xv r)) = ((em2 r2).toList ++ st).map (xv r) := by
      rw [List.map_append]
      congr 1
      rw [hem r2]
    have hW2 := h (r2, u1) z u' eo p l e R s m args below meth c D ca r T'.heap H0 (locs ++ L) cells slots A Q ls hC hE hD hP1 hS1 hl kk
    rw [← hst] at hW2
    obtain ⟨t2, a1, b1⟩ := hW2 T' rfl X'
    exact ⟨t2, stp t2 a1, b1⟩
theorem gf_copy {idx k1 k2 : Nat} {sp dp n : Int32} (hd : decode cc pc = .ok (.invokestatic idx, 3)) (hlk0 : Cond.methodLink y.cls idx arraycopyName ∈ GW) (hnat : Cond.native arraycopyName ∈ GW) (hstt : Cond.static arraycopyName ∈ GW) (hini : Cond.initialized "java/lang/System" ∈ GW) (hd1 : 0 < d) (hrm : (st.map fun v => v.category).sum ≤ 8) (hq : pc + 3 = q)
    (h : GF EX Y d y cc nL rt q lv st (wc u k1 sp.toNatClampNeg k2 dp.toNatClampNeg n.toNatClampNeg) em o) : GF EX Y d y cc nL rt pc lv (.int n :: .int dp :: .ref k2 :: .int sp :: .ref k1 :: st) u em ((alen Y 0 k1).bind (fun n1 => (alen Y 0 k2).bind (fun n2 => if 0 ≤ sp ∧ 0 ≤ dp ∧ 0 ≤ n ∧ sp.toNatClampNeg + n.toNatClampNeg ≤ n1 ∧ dp.toNatClampNeg + n.toNatClampNeg ≤ n2 then o else none))) := by
  subst hq
  cases h1 : alen Y 0 k1 with
  | none => exact gf_none
  | some n1 =>
  cases h2 : alen Y 0 k2 with
  | none => exact gf_none
  | some n2 =>
  obtain ⟨dd1, hY1⟩ := alen_spec h1
  obtain ⟨dd2, hY2⟩ := alen_spec h2
  show GF EX Y d y cc nL rt pc lv _ u em (if _ then o else none)
  by_cases hc : 0 ≤ sp ∧ 0 ≤ dp ∧ 0 ≤ n ∧ sp.toNatClampNeg + n.toNatClampNeg ≤ n1 ∧ dp.toNatClampNeg + n.toNatClampNeg ≤ n2
  · rw [if_pos hc]
    obtain ⟨c1, c2, c3, c4, c5⟩ := hc
    intro z u' eo
    intro p l e R s m args below meth c D ca r H H0 locs cells slots A Q ls hC hE hD hP hS hl kk
    obtain ⟨hx, hb, hml, hr, hlk, hown, hts, hnw, hK, hfr, hlo, hce, hsl⟩ := id hC
    refine va_copyi hx hb (hml.trans hl.1.symm) hown (hts _ hlk0) (hts _ hnat) (hts _ hstt) (hts _ hini) hK hP (hD.D ca u) hS k1 k2 0 0 (xw_arr (by decide) hY1) (xw_arr (by decide) hY2) rfl rfl rfl (Int32.not_lt.mpr c1) (Int32.not_lt.mpr c2) (Int32.not_lt.mpr c3) c4 c5 (fun i _ => rfl) (Nat.le_trans hd1 hfr) ?_ hd (fun H1 locs1 hP1 _ hS1 => ?_)
    · rw [List.map_map]
      have hrm2 : (List.map ((fun v => v.category) ∘ xv r) st).sum ≤ 8 := by simpa [Function.comp_def, xv_cat] using hrm
      have : nativeFrameWords "java/lang/System" "arraycopy" 5 + 11 ≤ 56 := by decide +kernel
      omega
    · rw [xw_set (u' := wc u k1 sp.toNatClampNeg k2 dp.toNatClampNeg n.toNatClampNeg) hY2 (by rw [xe, if_pos (show (0 : Nat) < 3 by decide), xmi_wc]) (fun a ha => xmi_wcne ha) (fun a ha => rfl)] at hP1
      exact h z u' eo p l e R s m args below meth c D ca r H1 H0 locs1 cells slots A Q ls hC hE hD hP1 hS1 hl kk
  · rw [if_neg hc]
    exact gf_none
end XCalls
/-- a switch over neighbours, as a value -/
def tsw {α : Type} (x : Int32) : Int → List α → α → α
  | _, [], z => z
  | k, a :: l, z => if x.toInt = k then a else tsw x (k + 1) l z
theorem tsw_out {α : Type} (x : Int32) (z : α) : ∀ (l : List α) (k : Int), x.toInt < k ∨ k + l.length ≤ x.toInt → tsw x k l z = z
  | [], _, _ => rfl
  | a :: l, k, h => by
    have hn : ¬ x.toInt = k := by
      rcases h with h | h
      · omega
      · simp only [List.length_cons] at h; omega
    show (if x.toInt = k then a else _) = z
    rw [if_neg hn]
    refine tsw_out x z l (k + 1) ?_
    rcases h with h | h
    · left; omega
    · right; simp only [List.length_cons] at h; omega
theorem tsw_in {α : Type} (x : Int32) (z : α) : ∀ (l : List α) (k : Int) (a : α), k ≤ x.toInt → l[(x.toInt - k).toNat]? = some a → tsw x k l z = a
  | [], _, _, _, h => by simp at h
  | b :: l, k, a, h0, h => by
    show (if x.toInt = k then b else _) = a
    by_cases hk : x.toInt = k
    · rw [if_pos hk]
      rw [show (x.toInt - k).toNat = 0 by omega] at h
      simpa using h
    · rw [if_neg hk]
      refine tsw_in x z l (k + 1) a (by omega) ?_
      rw [show (x.toInt - k).toNat = (x.toInt - (k + 1)).toNat + 1 by omega] at h
      simpa using h
section XSw
variable {EX : State → Heap → (Nat → Prop) → (Nat → Nat) → Prop} {Y : List XS} {d : Nat} {y : MethodName} {cc : ByteArray} {nL : Nat} {rt : Option FieldType} {pc q : Nat} {lv lv2 : List (Option Value)} {st : List Value} {u : XM} {τ : Type} {em : τ → Option Value} {o : Option (τ × XM)}
def xsw (EX : State → Heap → (Nat → Prop) → (Nat → Nat) → Prop) (Y : List XS) (d : Nat) (y : MethodName) (cc : ByteArray) (nL : Nat) (rt : Option FieldType) (lv : List (Option Value)) (st : List Value) (u : XM) {τ : Type} (em : τ → Option Value) : List Nat → List (Option (τ × XM)) → Prop
  | [], [] => True
  | t :: ts, o :: os => GF EX Y d y cc nL rt t lv st u em o ∧ xsw EX Y d y cc nL rt lv st u em ts os
  | _, _ => False
theorem xsw_n : xsw EX Y d y cc nL rt lv st u em [] [] := trivial
theorem xsw_c {t : Nat} {ts : List Nat} {os : List (Option (τ × XM))} (h1 : GF EX Y d y cc nL rt t lv st u em o) (h2 : xsw EX Y d y cc nL rt lv st u em ts os) : xsw EX Y d y cc nL rt lv st u em (t :: ts) (o :: os) := ⟨h1, h2⟩
theorem xsw_at : ∀ (ts : List Nat) (os : List (Option (τ × XM))) (i : Nat) (t : Nat), xsw EX Y d y cc nL rt lv st u em ts os → ts[i]? = some t → ∃ o, os[i]? = some o ∧ GF EX Y d y cc nL rt t lv st u em o
  | [], _, _, _, _, ht => by simp at ht
  | _ :: _, [], _, _, h, _ => h.elim
  | t0 :: ts, o0 :: os, 0, t, h, ht => by
    simp at ht
    subst ht
    exact ⟨o0, rfl, h.1⟩
  | t0 :: ts, o0 :: os, i + 1, t, h, ht => by
    obtain ⟨o, h1, h2⟩ := xsw_at ts os i t h.2 (by simpa using ht)
    exact ⟨o, by simpa using h1, h2⟩
theorem xsw_len : ∀ (ts : List Nat) (os : List (Option (τ × XM))), xsw EX Y d y cc nL rt lv st u em ts os → ts.length = os.length
  | [], [], _ => rfl
  | [], _ :: _, h => h.elim
  | _ :: _, [], h => h.elim
  | t :: ts, o :: os, h => by
    simp only [List.length_cons]
    rw [xsw_len ts os h.2]
theorem gf_tsw {dflt lo hi : Int} {offs : Array Int} {len : Nat} {x : Int32} {ts : List Nat} {os : List (Option (τ × XM))} {t0 : Nat} (hd : decode cc pc = .ok (.tableswitch dflt lo hi offs, len)) (hn : (offs.toList == ts.map (fun t : Nat => (t : Int) - (pc : Int)) && decide (lo + ts.length = hi + 1) && decide ((pc : Int) + dflt = (t0 : Int))) = true)
    (h1 : xsw EX Y d y cc nL rt lv st u em ts os) (h2 : GF EX Y d y cc nL rt t0 lv st u em o) : GF EX Y d y cc nL rt pc lv (.int x :: st) u em (tsw x lo os o) := by
  simp only [Bool.and_eq_true, beq_iff_eq, decide_eq_true_eq] at hn
  obtain ⟨⟨hn1, hn2⟩, hn3⟩ := hn
  have hlen := xsw_len ts os h1
  refine gf_tsw0 hd (fun g1 g2 => ?_) hn3 (fun hc => ?_)
  · have hi : (x.toInt - lo).toNat < ts.length := by omega
    obtain ⟨o', e1, e2⟩ := xsw_at ts os _ _ h1 (List.getElem?_eq_getElem hi)
    refine ⟨(ts[(x.toInt - lo).toNat] : Int) - pc, ts[(x.toInt - lo).toNat], ?_, by omega, ?_⟩
    · rw [← Array.getElem?_toList, hn1, List.getElem?_map, List.getElem?_eq_getElem hi]
      rfl
    · rw [tsw_in x o os lo o' (by omega) e1]
      exact e2
  · rw [tsw_out x o os lo (by rcases hc with h | h; · left; exact h
                              · right; omega)]
    exact h2
end XSw
theorem emI_ok : ∀ x, (emI x).toList.map (xv (fun k => k)) = (emI x).toList ∧ ∀ r, (emI x).toList.map (xv r) = (emI x).toList := fun _ => ⟨rfl, fun _ => rfl⟩
theorem emL_ok : ∀ x, (emL x).toList.map (xv (fun k => k)) = (emL x).toList ∧ ∀ r, (emL x).toList.map (xv r) = (emL x).toList := fun _ => ⟨rfl, fun _ => rfl⟩
theorem emV_ok : ∀ x, (emV x).toList.map (xv (fun k => k)) = (emV x).toList ∧ ∀ r, (emV x).toList.map (xv r) = (emV x).toList := fun _ => ⟨rfl, fun _ => rfl⟩
section XCor
variable {EX : State → Heap → (Nat → Prop) → (Nat → Nat) → Prop} {Y : List XS} {d : Nat} {y : MethodName} {cc : ByteArray} {nL : Nat} {rt : Option FieldType} {pc q : Nat} {lv lv2 : List (Option Value)} {st : List Value} {u : XM} {τ : Type} {em : τ → Option Value} {o : Option (τ × XM)}
theorem gf_callS_i {y2 : MethodName} {cc2 : ByteArray} {nL2 : Nat} {rt2 : Option FieldType} {d2 idx : Nat} {o2 : Option (Int32 × XM)} {f : Int32 × XM → Option (τ × XM)} {As : List Value} {n2 : Nat} {st0 : List Value} {hlen : As.length = n2} (hlk0 : Cond.methodLink y.cls idx y2 ∈ GW) (hstt : Cond.static y2 ∈ GW) (hd : decode cc pc = .ok (.invokestatic idx, 3)) (hcd : Cond.code y2 cc2 nL2 rt2 ∈ GW) (hini : Cond.initialized y2.cls ∈ GW) (hsd : (decide (y2.cls ≠ "java/lang/invoke/MethodHandle") && decide (y2.cls ≠ "java/lang/invoke/VarHandle") && (parseMethodDescriptor y2.desc).map (fun x => x.parameters.length) == some n2 && Nat.ble nL2 45) = true) (hd2 : d2 < d) (hrm : (st.map fun v => v.category).sum ≤ 8) (hc : CF Y d2 y2 cc2 nL2 rt2 (As) u emI o2) (hs0 : As.reverse ++ st = st0) (hq : pc + 3 = q) (h : ∀ x, GF EX Y d y cc nL rt q lv (.int x.1 :: st) x.2 em (f x)) : GF EX Y d y cc nL rt pc lv st0 u em (o2.bind f) := by
  subst hs0
  exact gf_callS (hlen := hlen) hlk0 hstt hd hcd hini hsd hd2 hrm emI_ok hc hq h
theorem gf_callSN_i {y2 : MethodName} {cc2 : ByteArray} {nL2 : Nat} {rt2 : Option FieldType} {d2 idx : Nat} {o2 : Option (Int32 × XM)} {f : Int32 × XM → Option (τ × XM)} {As : List Value} {n2 : Nat} {st0 : List Value} {host : String} {hlen : As.length = n2} (hlk0 : Cond.methodLinkNest y.cls idx y2 host ∈ tables_1) (hstt : Cond.static y2 ∈ GW) (hd : decode cc pc = .ok (.invokestatic idx, 3)) (hcd : Cond.code y2 cc2 nL2 rt2 ∈ GW) (hini : Cond.initialized y2.cls ∈ GW) (hsd : (decide (y2.cls ≠ "java/lang/invoke/MethodHandle") && decide (y2.cls ≠ "java/lang/invoke/VarHandle") && (parseMethodDescriptor y2.desc).map (fun x => x.parameters.length) == some n2 && Nat.ble nL2 45) = true) (hd2 : d2 < d) (hrm : (st.map fun v => v.category).sum ≤ 8) (hc : CF Y d2 y2 cc2 nL2 rt2 (As) u emI o2) (hs0 : As.reverse ++ st = st0) (hq : pc + 3 = q) (h : ∀ x, GF EX Y d y cc nL rt q lv (.int x.1 :: st) x.2 em (f x)) : GF EX Y d y cc nL rt pc lv st0 u em (o2.bind f) := by
  subst hs0
  exact gf_callSN (hlen := hlen) hlk0 hstt hd hcd hini hsd hd2 hrm emI_ok hc hq h
theorem gf_callV_i {y2 : MethodName} {cc2 : ByteArray} {nL2 : Nat} {rt2 : Option FieldType} {d2 idx : Nat} {o2 : Option (Int32 × XM)} {f : Int32 × XM → Option (τ × XM)} {As : List Value} {n2 : Nat} {st0 : List Value} {b ci nb N : Nat} {C : String} {T : u_T} {db : List Nat} {hlen : As.length = n2} (hY : Y[b]? = some (ci + 5, nb, db)) (hcl : vwCl[ci]? = some (C, T, N)) (hlk0 : Cond.methodLink y.cls idx y2 ∈ GW) (hins : Cond.instanceMethod y2 ∈ GW) (hsel : Cond.selects C y2 y2 ∈ GW) (hd : decode cc pc = .ok (.invokevirtual idx, 3)) (hcd : Cond.code y2 cc2 nL2 rt2 ∈ GW) (hini : Cond.initialized y2.cls ∈ GW) (hsd : (decide (y2.cls ≠ "java/lang/invoke/MethodHandle") && decide (y2.cls ≠ "java/lang/invoke/VarHandle") && (parseMethodDescriptor y2.desc).map (fun x => x.parameters.length) == some n2 && Nat.ble nL2 45) = true) (hd2 : d2 < d) (hrm : (st.map fun v => v.category).sum ≤ 8) (hc : CF Y d2 y2 cc2 nL2 rt2 (.ref b :: As) u emI o2) (hs0 : As.reverse ++ .ref b :: st = st0) (hq : pc + 3 = q) (h : ∀ x, GF EX Y d y cc nL rt q lv (.int x.1 :: st) x.2 em (f x)) : GF EX Y d y cc nL rt pc lv st0 u em (o2.bind f) := by
  subst hs0
  exact gf_callV (hlen := hlen) hY hcl hlk0 hins hsel hd hcd hini hsd hd2 hrm emI_ok hc hq h
theorem gf_callVN_i {y2 : MethodName} {cc2 : ByteArray} {nL2 : Nat} {rt2 : Option FieldType} {d2 idx : Nat} {o2 : Option (Int32 × XM)} {f : Int32 × XM → Option (τ × XM)} {As : List Value} {n2 : Nat} {st0 : List Value} {host : String} {b ci nb N : Nat} {C : String} {T : u_T} {db : List Nat} {hlen : As.length = n2} (hY : Y[b]? = some (ci + 5, nb, db)) (hcl : vwCl[ci]? = some (C, T, N)) (hlk0 : Cond.methodLinkNest y.cls idx y2 host ∈ tables_1) (hins : Cond.instanceMethod y2 ∈ GW) (hsel : Cond.selects C y2 y2 ∈ GW) (hd : decode cc pc = .ok (.invokevirtual idx, 3)) (hcd : Cond.code y2 cc2 nL2 rt2 ∈ GW) (hini : Cond.initialized y2.cls ∈ GW) (hsd : (decide (y2.cls ≠ "java/lang/invoke/MethodHandle") && decide (y2.cls ≠ "java/lang/invoke/VarHandle") && (parseMethodDescriptor y2.desc).map (fun x => x.parameters.length) == some n2 && Nat.ble nL2 45) = true) (hd2 : d2 < d) (hrm : (st.map fun v => v.category).sum ≤ 8) (hc : CF Y d2 y2 cc2 nL2 rt2 (.ref b :: As) u emI o2) (hs0 : As.reverse ++ .ref b :: st = st0) (hq : pc + 3 = q) (h : ∀ x, GF EX Y d y cc nL rt q lv (.int x.1 :: st) x.2 em (f x)) : GF EX Y d y cc nL rt pc lv st0 u em (o2.bind f) := by
  subst hs0
  exact gf_callVN (hlen := hlen) hY hcl hlk0 hins hsel hd hcd hini hsd hd2 hrm emI_ok hc hq h
theorem gf_callS_l {y2 : MethodName} {cc2 : ByteArray} {nL2 : Nat} {rt2 : Option FieldType} {d2 idx : Nat} {o2 : Option (Int64 × XM)} {f : Int64 × XM → Option (τ × XM)} {As : List Value} {n2 : Nat} {st0 : List Value} {hlen : As.length = n2} (hlk0 : Cond.methodLink y.cls idx y2 ∈ GW) (hstt : Cond.static y2 ∈ GW) (hd : decode cc pc = .ok (.invokestatic idx, 3)) (hcd : Cond.code y2 cc2 nL2 rt2 ∈ GW) (hini : Cond.initialized y2.cls ∈ GW) (hsd : (decide (y2.cls ≠ "java/lang/invoke/MethodHandle") && decide (y2.cls ≠ "java/lang/invoke/VarHandle") && (parseMethodDescriptor y2.desc).map (fun x => x.parameters.length) == some n2 && Nat.ble nL2 45) = true) (hd2 : d2 < d) (hrm : (st.map fun v => v.category).sum ≤ 8) (hc : CF Y d2 y2 cc2 nL2 rt2 (As) u emL o2) (hs0 : As.reverse ++ st = st0) (hq : pc + 3 = q) (h : ∀ x, GF EX Y d y cc nL rt q lv (.long x.1 :: st) x.2 em (f x)) : GF EX Y d y cc nL rt pc lv st0 u em (o2.bind f) := by
  subst hs0
  exact gf_callS (hlen := hlen) hlk0 hstt hd hcd hini hsd hd2 hrm emL_ok hc hq h
theorem gf_callSN_l {y2 : MethodName} {cc2 : ByteArray} {nL2 : Nat} {rt2 : Option FieldType} {d2 idx : Nat} {o2 : Option (Int64 × XM)} {f : Int64 × XM → Option (τ × XM)} {As : List Value} {n2 : Nat} {st0 : List Value} {host : String} {hlen : As.length = n2} (hlk0 : Cond.methodLinkNest y.cls idx y2 host ∈ tables_1) (hstt : Cond.static y2 ∈ GW) (hd : decode cc pc = .ok (.invokestatic idx, 3)) (hcd : Cond.code y2 cc2 nL2 rt2 ∈ GW) (hini : Cond.initialized y2.cls ∈ GW) (hsd : (decide (y2.cls ≠ "java/lang/invoke/MethodHandle") && decide (y2.cls ≠ "java/lang/invoke/VarHandle") && (parseMethodDescriptor y2.desc).map (fun x => x.parameters.length) == some n2 && Nat.ble nL2 45) = true) (hd2 : d2 < d) (hrm : (st.map fun v => v.category).sum ≤ 8) (hc : CF Y d2 y2 cc2 nL2 rt2 (As) u emL o2) (hs0 : As.reverse ++ st = st0) (hq : pc + 3 = q) (h : ∀ x, GF EX Y d y cc nL rt q lv (.long x.1 :: st) x.2 em (f x)) : GF EX Y d y cc nL rt pc lv st0 u em (o2.bind f) := by
  subst hs0
  exact gf_callSN (hlen := hlen) hlk0 hstt hd hcd hini hsd hd2 hrm emL_ok hc hq h
theorem gf_callV_l {y2 : MethodName} {cc2 : ByteArray} {nL2 : Nat} {rt2 : Option FieldType} {d2 idx : Nat} {o2 : Option (Int64 × XM)} {f : Int64 × XM → Option (τ × XM)} {As : List Value} {n2 : Nat} {st0 : List Value} {b ci nb N : Nat} {C : String} {T : u_T} {db : List Nat} {hlen : As.length = n2} (hY : Y[b]? = some (ci + 5, nb, db)) (hcl : vwCl[ci]? = some (C, T, N)) (hlk0 : Cond.methodLink y.cls idx y2 ∈ GW) (hins : Cond.instanceMethod y2 ∈ GW) (hsel : Cond.selects C y2 y2 ∈ GW) (hd : decode cc pc = .ok (.invokevirtual idx, 3)) (hcd : Cond.code y2 cc2 nL2 rt2 ∈ GW) (hini : Cond.initialized y2.cls ∈ GW) (hsd : (decide (y2.cls ≠ "java/lang/invoke/MethodHandle") && decide (y2.cls ≠ "java/lang/invoke/VarHandle") && (parseMethodDescriptor y2.desc).map (fun x => x.parameters.length) == some n2 && Nat.ble nL2 45) = true) (hd2 : d2 < d) (hrm : (st.map fun v => v.category).sum ≤ 8) (hc : CF Y d2 y2 cc2 nL2 rt2 (.ref b :: As) u emL o2) (hs0 : As.reverse ++ .ref b :: st = st0) (hq : pc + 3 = q) (h : ∀ x, GF EX Y d y cc nL rt q lv (.long x.1 :: st) x.2 em (f x)) : GF EX Y d y cc nL rt pc lv st0 u em (o2.bind f) := by
  subst hs0
  exact gf_callV (hlen := hlen) hY hcl hlk0 hins hsel hd hcd hini hsd hd2 hrm emL_ok hc hq h
theorem gf_callVN_l {y2 : MethodName} {cc2 : ByteArray} {nL2 : Nat} {rt2 : Option FieldType} {d2 idx : Nat} {o2 : Option (Int64 × XM)} {f : Int64 × XM → Option (τ × XM)} {As : List Value} {n2 : Nat} {st0 : List Value} {host : String} {b ci nb N : Nat} {C : String} {T : u_T} {db : List Nat} {hlen : As.length = n2} (hY : Y[b]? = some (ci + 5, nb, db)) (hcl : vwCl[ci]? = some (C, T, N)) (hlk0 : Cond.methodLinkNest y.cls idx y2 host ∈ tables_1) (hins : Cond.instanceMethod y2 ∈ GW) (hsel : Cond.selects C y2 y2 ∈ GW) (hd : decode cc pc = .ok (.invokevirtual idx, 3)) (hcd : Cond.code y2 cc2 nL2 rt2 ∈ GW) (hini : Cond.initialized y2.cls ∈ GW) (hsd : (decide (y2.cls ≠ "java/lang/invoke/MethodHandle") && decide (y2.cls ≠ "java/lang/invoke/VarHandle") && (parseMethodDescriptor y2.desc).map (fun x => x.parameters.length) == some n2 && Nat.ble nL2 45) = true) (hd2 : d2 < d) (hrm : (st.map fun v => v.category).sum ≤ 8) (hc : CF Y d2 y2 cc2 nL2 rt2 (.ref b :: As) u emL o2) (hs0 : As.reverse ++ .ref b :: st = st0) (hq : pc + 3 = q) (h : ∀ x, GF EX Y d y cc nL rt q lv (.long x.1 :: st) x.2 em (f x)) : GF EX Y d y cc nL rt pc lv st0 u em (o2.bind f) := by
  subst hs0
  exact gf_callVN (hlen := hlen) hY hcl hlk0 hins hsel hd hcd hini hsd hd2 hrm emL_ok hc hq h
theorem gf_callS_v {y2 : MethodName} {cc2 : ByteArray} {nL2 : Nat} {rt2 : Option FieldType} {d2 idx : Nat} {o2 : Option (Unit × XM)} {f : Unit × XM → Option (τ × XM)} {As : List Value} {n2 : Nat} {st0 : List Value} {hlen : As.length = n2} (hlk0 : Cond.methodLink y.cls idx y2 ∈ GW) (hstt : Cond.static y2 ∈ GW) (hd : decode cc pc = .ok (.invokestatic idx, 3)) (hcd : Cond.code y2 cc2 nL2 rt2 ∈ GW) (hini : Cond.initialized y2.cls ∈ GW) (hsd : (decide (y2.cls ≠ "java/lang/invoke/MethodHandle") && decide (y2.cls ≠ "java/lang/invoke/VarHandle") && (parseMethodDescriptor y2.desc).map (fun x => x.parameters.length) == some n2 && Nat.ble nL2 45) = true) (hd2 : d2 < d) (hrm : (st.map fun v => v.category).sum ≤ 8) (hc : CF Y d2 y2 cc2 nL2 rt2 (As) u emV o2) (hs0 : As.reverse ++ st = st0) (hq : pc + 3 = q) (h : ∀ x, GF EX Y d y cc nL rt q lv (st) x.2 em (f x)) : GF EX Y d y cc nL rt pc lv st0 u em (o2.bind f) := by
  subst hs0
  exact gf_callS (hlen := hlen) hlk0 hstt hd hcd hini hsd hd2 hrm emV_ok hc hq h
theorem gf_callSN_v {y2 : MethodName} {cc2 : ByteArray} {nL2 : Nat} {rt2 : Option FieldType} {d2 idx : Nat} {o2 : Option (Unit × XM)} {f : Unit × XM → Option (τ × XM)} {As : List Value} {n2 : Nat} {st0 : List Value} {host : String} {hlen : As.length = n2} (hlk0 : Cond.methodLinkNest y.cls idx y2 host ∈ tables_1) (hstt : Cond.static y2 ∈ GW) (hd : decode cc pc = .ok (.invokestatic idx, 3)) (hcd : Cond.code y2 cc2 nL2 rt2 ∈ GW) (hini : Cond.initialized y2.cls ∈ GW) (hsd : (decide (y2.cls ≠ "java/lang/invoke/MethodHandle") && decide (y2.cls ≠ "java/lang/invoke/VarHandle") && (parseMethodDescriptor y2.desc).map (fun x => x.parameters.length) == some n2 && Nat.ble nL2 45) = true) (hd2 : d2 < d) (hrm : (st.map fun v => v.category).sum ≤ 8) (hc : CF Y d2 y2 cc2 nL2 rt2 (As) u emV o2) (hs0 : As.reverse ++ st = st0) (hq : pc + 3 = q) (h : ∀ x, GF EX Y d y cc nL rt q lv (st) x.2 em (f x)) : GF EX Y d y cc nL rt pc lv st0 u em (o2.bind f) := by
  subst hs0
  exact gf_callSN (hlen := hlen) hlk0 hstt hd hcd hini hsd hd2 hrm emV_ok hc hq h
theorem gf_callV_v {y2 : MethodName} {cc2 : ByteArray} {nL2 : Nat} {rt2 : Option FieldType} {d2 idx : Nat} {o2 : Option (Unit × XM)} {f : Unit × XM → Option (τ × XM)} {As : List Value} {n2 : Nat} {st0 : List Value} {b ci nb N : Nat} {C : String} {T : u_T} {db : List Nat} {hlen : As.length = n2} (hY : Y[b]? = some (ci + 5, nb, db)) (hcl : vwCl[ci]? = some (C, T, N)) (hlk0 : Cond.methodLink y.cls idx y2 ∈ GW) (hins : Cond.instanceMethod y2 ∈ GW) (hsel : Cond.selects C y2 y2 ∈ GW) (hd : decode cc pc = .ok (.invokevirtual idx, 3)) (hcd : Cond.code y2 cc2 nL2 rt2 ∈ GW) (hini : Cond.initialized y2.cls ∈ GW) (hsd : (decide (y2.cls ≠ "java/lang/invoke/MethodHandle") && decide (y2.cls ≠ "java/lang/invoke/VarHandle") && (parseMethodDescriptor y2.desc).map (fun x => x.parameters.length) == some n2 && Nat.ble nL2 45) = true) (hd2 : d2 < d) (hrm : (st.map fun v => v.category).sum ≤ 8) (hc : CF Y d2 y2 cc2 nL2 rt2 (.ref b :: As) u emV o2) (hs0 : As.reverse ++ .ref b :: st = st0) (hq : pc + 3 = q) (h : ∀ x, GF EX Y d y cc nL rt q lv (st) x.2 em (f x)) : GF EX Y d y cc nL rt pc lv st0 u em (o2.bind f) := by
  subst hs0
  exact gf_callV (hlen := hlen) hY hcl hlk0 hins hsel hd hcd hini hsd hd2 hrm emV_ok hc hq h
theorem gf_callVN_v {y2 : MethodName} {cc2 : ByteArray} {nL2 : Nat} {rt2 : Option FieldType} {d2 idx : Nat} {o2 : Option (Unit × XM)} {f : Unit × XM → Option (τ × XM)} {As : List Value} {n2 : Nat} {st0 : List Value} {host : String} {b ci nb N : Nat} {C : String} {T : u_T} {db : List Nat} {hlen : As.length = n2} (hY : Y[b]? = some (ci + 5, nb, db)) (hcl : vwCl[ci]? = some (C, T, N)) (hlk0 : Cond.methodLinkNest y.cls idx y2 host ∈ tables_1) (hins : Cond.instanceMethod y2 ∈ GW) (hsel : Cond.selects C y2 y2 ∈ GW) (hd : decode cc pc = .ok (.invokevirtual idx, 3)) (hcd : Cond.code y2 cc2 nL2 rt2 ∈ GW) (hini : Cond.initialized y2.cls ∈ GW) (hsd : (decide (y2.cls ≠ "java/lang/invoke/MethodHandle") && decide (y2.cls ≠ "java/lang/invoke/VarHandle") && (parseMethodDescriptor y2.desc).map (fun x => x.parameters.length) == some n2 && Nat.ble nL2 45) = true) (hd2 : d2 < d) (hrm : (st.map fun v => v.category).sum ≤ 8) (hc : CF Y d2 y2 cc2 nL2 rt2 (.ref b :: As) u emV o2) (hs0 : As.reverse ++ .ref b :: st = st0) (hq : pc + 3 = q) (h : ∀ x, GF EX Y d y cc nL rt q lv (st) x.2 em (f x)) : GF EX Y d y cc nL rt pc lv st0 u em (o2.bind f) := by
  subst hs0
  exact gf_callVN (hlen := hlen) hY hcl hlk0 hins hsel hd hcd hini hsd hd2 hrm emV_ok hc hq h
end XCor
def FU : Nat := 1000
