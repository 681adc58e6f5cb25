/-! ===== the machine as a pure picture: cells of ints and longs, addresses by a table ===== -/
abbrev XM : Type := (Nat → Nat → Int32) × (Nat → Nat → Int64)
def mi (u : XM) (k j : Nat) : Int32 := u.1 k j
def ml (u : XM) (k j : Nat) : Int64 := u.2 k j
def wi (u : XM) (k j : Nat) (v : Int32) : XM := (fun a b => if a = k ∧ b = j then v else u.1 a b, u.2)
def wl (u : XM) (k j : Nat) (v : Int64) : XM := (u.1, fun a b => if a = k ∧ b = j then v else u.2 a b)
/-- n places of row k from sp on come to row k2 from dp on, as if taken ahead -/
def wc (u : XM) (k sp k2 dp n : Nat) : XM := (fun a b => if a = k2 ∧ dp ≤ b ∧ b < dp + n then u.1 k (sp + (b - dp)) else u.1 a b, u.2)
/-- a cell's shape: its tag (0 int[], 1 byte[], 2 boolean[], 3 int[][], 4 byte[][], 5 + c an object of class c), its length, its fields (0 int, 1 long, 2 null, t + 3 the cell t; of an array of rows: the first row's cell) -/
abbrev XS : Type := Nat × Nat × List Nat
def xv (r : Nat → Nat) : Value → Value
  | .ref k => .ref (r k)
  | v => v
def xf (r : Nat → Nat) (u : XM) (k j f : Nat) : Value := match f with
  | 0 => .int (mi u k j)
  | 1 => .long (ml u k j)
  | 2 => .null
  | t + 3 => .ref (r t)
def xfs (r : Nat → Nat) (u : XM) (k : Nat) : Nat → List Nat → List Value
  | _, [] => []
  | j, f :: l => xf r u k j f :: xfs r u k (j + 1) l
def xe (r : Nat → Nat) (ca : Nat → ClassId) (u : XM) (k : Nat) (sh : XS) : va_E :=
  if sh.1 < 3 then .inl (ca sh.1, sh.2.1, .inl (mi u k))
  else if sh.1 < 5 then .inl (ca sh.1, sh.2.1, .inr (.inr (.inr (.inr (fun i => if i < sh.2.1 then some (r (sh.2.2.headD 0 + i)) else none)))))
  else .inr (sh.1 - 5, xfs r u k 0 sh.2.2)
def xw (r : Nat → Nat) (ca : Nat → ClassId) (u : XM) : Nat → List XS → va_W
  | _, [] => []
  | k, sh :: l => (r k, xe r ca u k sh) :: xw r ca u (k + 1) l
theorem xw_get (r : Nat → Nat) (ca : Nat → ClassId) (u : XM) : ∀ (Y : List XS) (k i : Nat), (xw r ca u k Y)[i]? = Y[i]?.map (fun sh => (r (k + i), xe r ca u (k + i) sh))
  | [], _, _ => rfl
  | sh :: l, k, 0 => rfl
  | sh :: l, k, i + 1 => by
    show (xw r ca u (k + 1) l)[i]? = _
    rw [xw_get r ca u l (k + 1) i, show k + 1 + i = k + (i + 1) by omega]
    rfl
theorem xfs_get (r : Nat → Nat) (u : XM) (k : Nat) : ∀ (l : List Nat) (j i : Nat), (xfs r u k j l)[i]? = l[i]?.map (fun f => xf r u k (j + i) f)
  | [], _, _ => rfl
  | f :: l, j, 0 => rfl
  | f :: l, j, i + 1 => by
    show (xfs r u k (j + 1) l)[i]? = _
    rw [xfs_get r u k l (j + 1) i, show j + 1 + i = j + (i + 1) by omega]
    rfl
theorem xw_at {r : Nat → Nat} {ca : Nat → ClassId} {u : XM} {Y : List XS} {k : Nat} {sh : XS} (h : Y[k]? = some sh) : (xw r ca u 0 Y)[k]? = some (r k, xe r ca u k sh) := by
  rw [xw_get, h, Nat.zero_add]; rfl
theorem xw_arr {r : Nat → Nat} {ca : Nat → ClassId} {u : XM} {Y : List XS} {k t n : Nat} {dd : List Nat} (ht : t < 3) (h : Y[k]? = some (t, n, dd)) : (xw r ca u 0 Y)[k]? = some (r k, .inl (ca t, n, .inl (mi u k))) := by
  rw [xw_at h, xe, if_pos ht]
theorem xw_row {r : Nat → Nat} {ca : Nat → ClassId} {u : XM} {Y : List XS} {k t n b : Nat} (ht : ¬ t < 3) (ht5 : t < 5) (h : Y[k]? = some (t, n, [b])) : (xw r ca u 0 Y)[k]? = some (r k, .inl (ca t, n, .inr (.inr (.inr (.inr (fun i => if i < n then some (r (b + i)) else none)))))) := by
  rw [xw_at h, xe, if_neg ht, if_pos ht5]; rfl
theorem xw_obj {r : Nat → Nat} {ca : Nat → ClassId} {u : XM} {Y : List XS} {k c n : Nat} {dd : List Nat} (h : Y[k]? = some (c + 5, n, dd)) : (xw r ca u 0 Y)[k]? = some (r k, .inr (c, xfs r u k 0 dd)) := by
  rw [xw_at h, xe, if_neg (by simp only; omega), if_neg (by simp only; omega)]; rfl
theorem xmi_wi {u : XM} {k j : Nat} {v : Int32} : mi (wi u k j v) k = upd (mi u k) j v := by
  funext b
  simp only [mi, wi, upd]
  by_cases h : b = j <;> simp [h]
theorem xmi_ne {u : XM} {k j a : Nat} {v : Int32} (h : a ≠ k) : mi (wi u k j v) a = mi u a := by
  funext b
  simp [mi, wi, h]
theorem xml_wi {u : XM} {k j : Nat} {v : Int32} : ml (wi u k j v) = ml u := rfl
theorem xmi_wl {u : XM} {k j : Nat} {v : Int64} : mi (wl u k j v) = mi u := rfl
theorem xmi_wc {u : XM} {k sp k2 dp n : Nat} : mi (wc u k sp k2 dp n) k2 = va_cpy (mi u k) (mi u k2) sp dp n := by
  funext b
  simp only [mi, wc, va_cpy, true_and]
theorem xmi_wcne {u : XM} {k sp k2 dp n a : Nat} (h : a ≠ k2) : mi (wc u k sp k2 dp n) a = mi u a := by
  funext b
  simp [mi, wc, h]
theorem xfs_ne {r : Nat → Nat} {u u' : XM} {a : Nat} (hi : mi u' a = mi u a) (hl : ml u' a = ml u a) : ∀ (l : List Nat) (j : Nat), xfs r u' a j l = xfs r u a j l
  | [], _ => rfl
  | f :: l, j => by
    show xf r u' a j f :: _ = xf r u a j f :: _
    rw [xfs_ne hi hl l (j + 1)]
    congr 1
    match f with
    | 0 => show Value.int (mi u' a j) = _; rw [hi]; rfl
    | 1 => show Value.long (ml u' a j) = _; rw [hl]; rfl
    | 2 => rfl
    | t + 3 => rfl
theorem xe_ne {r : Nat → Nat} {ca : Nat → ClassId} {u u' : XM} {a : Nat} {sh : XS} (hi : mi u' a = mi u a) (hl : ml u' a = ml u a) : xe r ca u' a sh = xe r ca u a sh := by
  unfold xe
  rw [hi, xfs_ne hi hl]
/-- the picture behind a change of one cell -/
theorem xw_set {r : Nat → Nat} {ca : Nat → ClassId} {u u' : XM} {Y : List XS} {k : Nat} {sh : XS} {e : va_E} (h : Y[k]? = some sh) (he : e = xe r ca u' k sh) (hi : ∀ a, a ≠ k → mi u' a = mi u a) (hl : ∀ a, a ≠ k → ml u' a = ml u a) : (xw r ca u 0 Y).set k (r k, e) = xw r ca u' 0 Y := by
  apply List.ext_getElem?
  intro i
  by_cases hk : k = i
  · subst hk
    have hlt : k < (xw r ca u 0 Y).length := (List.getElem?_eq_some_iff.mp (xw_at (r := r) (ca := ca) (u := u) h)).1
    rw [List.getElem?_set_self hlt, xw_at h, he]
  · rw [List.getElem?_set_ne hk, xw_get, xw_get]
    cases Y[i]? with
    | none => rfl
    | some sh2 =>
      simp only [Option.map_some, Nat.zero_add]
      rw [xe_ne (hi i (fun q => hk q.symm)) (hl i (fun q => hk q.symm))]
theorem xfs_set {r : Nat → Nat} {u u' : XM} {k : Nat} {dd : List Nat} {j : Nat} {v : Value} {f : Nat} (hf : dd[j]? = some f) (hv : v = xf r u' k j f) (hi : ∀ b, b ≠ j → mi u' k b = mi u k b) (hl : ∀ b, b ≠ j → ml u' k b = ml u k b) : (xfs r u k 0 dd).set j v = xfs r u' k 0 dd := by
  apply List.ext_getElem?
  intro i
  by_cases hk : j = i
  · subst hk
    have hlt : j < (xfs r u k 0 dd).length := by
      have h1 : (xfs r u k 0 dd)[j]? = some (xf r u k (0 + j) f) := by rw [xfs_get, hf]; rfl
      exact (List.getElem?_eq_some_iff.mp h1).1
    rw [List.getElem?_set_self hlt, xfs_get, hf, hv, Nat.zero_add]; rfl
  · rw [List.getElem?_set_ne hk, xfs_get, xfs_get]
    cases dd[i]? with
    | none => rfl
    | some g =>
      simp only [Option.map_some, Nat.zero_add]
      congr 1
      match g with
      | 0 => show Value.int (mi u k i) = Value.int (mi u' k i); rw [hi i (fun q => hk q.symm)]
      | 1 => show Value.long (ml u k i) = Value.long (ml u' k i); rw [hl i (fun q => hk q.symm)]
      | 2 => rfl
      | t + 3 => rfl
/-- addresses: apart, of a kind -/
def XD (Y : List XS) (r : Nat → Nat) (A : Nat → Prop) : Prop := (∀ i j, i < Y.length → j < Y.length → r i = r j → i = j) ∧ ∀ k, k < Y.length → A (r k)
theorem XD.D {Y : List XS} {r : Nat → Nat} {A : Nat → Prop} (h : XD Y r A) (ca : Nat → ClassId) (u : XM) : va_D A (xw r ca u 0 Y) := by
  have key : ∀ (i : Nat) (p : Nat × va_E), (xw r ca u 0 Y)[i]? = some p → i < Y.length ∧ p.1 = r i := by
    intro i p hp
    rw [xw_get] at hp
    cases hY : Y[i]? with
    | none => rw [hY] at hp; cases hp
    | some sh =>
      rw [hY] at hp
      simp only [Option.map_some, Nat.zero_add, Option.some.injEq] at hp
      exact ⟨(List.getElem?_eq_some_iff.mp hY).1, by rw [← hp]⟩
  refine ⟨fun i j p q hi hj hpq => ?_, fun k q hk => ?_⟩
  · obtain ⟨h1, e1⟩ := key i p hi
    obtain ⟨h2, e2⟩ := key j q hj
    exact h.1 i j h1 h2 (by rw [← e1, ← e2, hpq])
  · obtain ⟨h1, e1⟩ := key k q hk
    rw [e1]
    exact h.2 k h1
def xA (Y : List XS) (r : Nat → Nat) : Nat → Prop := fun q => ∃ k, k < Y.length ∧ q = r k
def xt (ca : Nat → ClassId) : List (ClassId × FieldType) := [(ca 0, .int), (ca 1, .byte), (ca 2, .boolean), (ca 3, .array .int), (ca 4, .array .byte)]
/-- the locals: what the list says is held -/
def xL (r : Nat → Nat) (nL : Nat) (lv : List (Option Value)) (ls : Array Slot) : Prop := ls.size = nL ∧ lv_wf ls ∧ ∀ (i : Nat) (v : Value), lv[i]? = some (some v) → ls[i]? = some (.val (xv r v))
def xl (r : Nat → Nat) : Nat → List (Option Value) → List (Nat × Value)
  | _, [] => []
  | i, none :: l => xl r (i + 1) l
  | i, some v :: l => (i, xv r v) :: xl r (i + 1) l
theorem xl_mem {r : Nat → Nat} : ∀ (lv : List (Option Value)) (b i : Nat) (v : Value), lv[i]? = some (some v) → (b + i, xv r v) ∈ xl r b lv
  | [], _, _, _, h => by simp at h
  | none :: l, b, 0, v, h => by simp at h
  | some w :: l, b, 0, v, h => by
    simp at h
    subst h
    exact List.mem_cons_self
  | none :: l, b, i + 1, v, h => by
    have := xl_mem (r := r) l (b + 1) i v (by simpa using h)
    rw [show b + 1 + i = b + (i + 1) by omega] at this
    exact this
  | some w :: l, b, i + 1, v, h => by
    have := xl_mem (r := r) l (b + 1) i v (by simpa using h)
    rw [show b + 1 + i = b + (i + 1) by omega] at this
    exact List.mem_cons_of_mem _ this
theorem xl_in {r : Nat → Nat} : ∀ (lv : List (Option Value)) (b : Nat) (q : Nat × Value), q ∈ xl r b lv → ∃ i v, lv[i]? = some (some v) ∧ q = (b + i, xv r v)
  | [], _, _, h => by cases h
  | none :: l, b, q, h => by
    obtain ⟨i, v, h1, h2⟩ := xl_in l (b + 1) q h
    exact ⟨i + 1, v, by simpa using h1, by rw [h2, show b + 1 + i = b + (i + 1) by omega]⟩
  | some w :: l, b, q, h => by
    rcases List.mem_cons.mp h with h | h
    · exact ⟨0, w, rfl, h⟩
    · obtain ⟨i, v, h1, h2⟩ := xl_in l (b + 1) q h
      exact ⟨i + 1, v, by simpa using h1, by rw [h2, show b + 1 + i = b + (i + 1) by omega]⟩
theorem xL.has {r : Nat → Nat} {nL : Nat} {lv : List (Option Value)} {ls : Array Slot} (h : xL r nL lv ls) : lv_has ls nL (xl r 0 lv) := ⟨h.1, h.2.1, fun q hq => by
  obtain ⟨i, v, h1, h2⟩ := xl_in lv 0 q hq
  rw [h2, Nat.zero_add]
  exact h.2.2 i v h1⟩
/-- a store of one slot, of two -/
def xs1 (v : Value) (i : Nat) : List (Option Value) → List (Option Value)
  | [] => []
  | o :: l => match i with
    | 0 => some v :: l
    | 1 => (match o with | some (.long _) => none | some (.double _) => none | o => o) :: xs1 v 0 l
    | i + 2 => o :: xs1 v (i + 1) l
theorem xs1_get (v : Value) : ∀ (lv : List (Option Value)) (i j : Nat) (w : Value), (xs1 v i lv)[j]? = some (some w) → (j = i ∧ w = v) ∨ (j ≠ i ∧ lv[j]? = some (some w) ∧ (j + 1 = i → w.category ≠ 2))
  | [], _, _, _, h => by simp [xs1] at h
  | o :: l, 0, 0, w, h => by
    simp [xs1] at h
    exact Or.inl ⟨rfl, h.symm⟩
  | o :: l, 0, j + 1, w, h => by
    refine Or.inr ⟨by omega, by simpa [xs1] using h, by omega⟩
  | o :: l, 1, 0, w, h => by
    refine Or.inr ⟨by omega, ?_, fun _ => ?_⟩
    · cases o with
      | none => simp [xs1] at h
      | some x => cases x <;> simp [xs1] at h ⊢ <;> exact h
    · cases o with
      | none => simp [xs1] at h
      | some x => cases x <;> simp [xs1] at h <;> subst h <;> simp [Value.category]
  | o :: l, 1, j + 1, w, h => by
    have h2 : (xs1 v 0 l)[j]? = some (some w) := by simpa [xs1] using h
    rcases xs1_get v l 0 j w h2 with ⟨e1, e2⟩ | ⟨e1, e2, e3⟩
    · exact Or.inl ⟨by omega, e2⟩
    · exact Or.inr ⟨by omega, by simpa using e2, by omega⟩
  | o :: l, i + 2, 0, w, h => by
    refine Or.inr ⟨by omega, by simpa [xs1] using h, by omega⟩
  | o :: l, i + 2, j + 1, w, h => by
    have h2 : (xs1 v (i + 1) l)[j]? = some (some w) := by simpa [xs1] using h
    rcases xs1_get v l (i + 1) j w h2 with ⟨e1, e2⟩ | ⟨e1, e2, e3⟩
    · exact Or.inl ⟨by omega, e2⟩
    · exact Or.inr ⟨by omega, by simpa using e2, fun q => e3 (by omega)⟩
theorem xv_cat (r : Nat → Nat) (v : Value) : (xv r v).category = v.category := by cases v <;> rfl
theorem xs1_L {r : Nat → Nat} {nL i : Nat} {lv : List (Option Value)} {ls ls' : Array Slot} {v : Value} (h' : lv_has ls' nL ((i, xv r v) :: (xl r 0 lv).filter (fun q => !(q.1 == i) && !(q.1 + 1 == i && q.2.category == 2)))) : xL r nL (xs1 v i lv) ls' := by
  refine ⟨h'.1, h'.2.1, fun j w hw => ?_⟩
  rcases xs1_get v lv i j w hw with ⟨e1, e2⟩ | ⟨e1, e2, e3⟩
  · subst e1; subst e2
    exact h'.2.2 _ List.mem_cons_self
  · refine h'.2.2 (j, xv r w) (List.mem_cons_of_mem _ (List.mem_filter.mpr ⟨?_, ?_⟩))
    · have := xl_mem (r := r) lv 0 j w e2
      rwa [Nat.zero_add] at this
    · simp only [Bool.and_eq_true, Bool.not_eq_true', beq_eq_false_iff_ne, ne_eq, Bool.and_eq_false_iff, xv_cat]
      refine ⟨e1, ?_⟩
      by_cases q : j + 1 = i
      · exact Or.inr (e3 q)
      · exact Or.inl q
def xs2 (v : Value) (i : Nat) (lv : List (Option Value)) : List (Option Value) := (xs1 v i lv).set (i + 1) none
theorem xs2_L {r : Nat → Nat} {nL i : Nat} {lv : List (Option Value)} {ls ls' : Array Slot} {v : Value} (h' : lv_has ls' nL ((i, xv r v) :: (xl r 0 lv).filter (fun q => !(q.1 == i) && (!(q.1 == i + 1) && !(q.1 + 1 == i && q.2.category == 2))))) : xL r nL (xs2 v i lv) ls' := by
  refine ⟨h'.1, h'.2.1, fun j w hw => ?_⟩
  have hj : j ≠ i + 1 := by
    intro q
    subst q
    unfold xs2 at hw
    by_cases hl : i + 1 < (xs1 v i lv).length
    · rw [List.getElem?_set_self hl] at hw; cases hw
    · rw [List.getElem?_eq_none (by simpa using hl)] at hw; cases hw
  have hw2 : (xs1 v i lv)[j]? = some (some w) := by
    unfold xs2 at hw
    rwa [List.getElem?_set_ne (fun q => hj q.symm)] at hw
  rcases xs1_get v lv i j w hw2 with ⟨e1, e2⟩ | ⟨e1, e2, e3⟩
  · subst e1; subst e2
    exact h'.2.2 _ List.mem_cons_self
  · refine h'.2.2 (j, xv r w) (List.mem_cons_of_mem _ (List.mem_filter.mpr ⟨?_, ?_⟩))
    · have := xl_mem (r := r) lv 0 j w e2
      rwa [Nat.zero_add] at this
    · simp only [Bool.and_eq_true, Bool.not_eq_true', beq_eq_false_iff_ne, ne_eq, Bool.and_eq_false_iff, xv_cat]
      refine ⟨e1, hj, ?_⟩
      by_cases q : j + 1 = i
      · exact Or.inr (e3 q)
      · exact Or.inl q
/-- fewer locals known -/
def xms : List Bool → List (Option Value) → List (Option Value)
  | true :: b, o :: l => o :: xms b l
  | false :: b, _ :: l => none :: xms b l
  | _, _ => []
theorem xms_get : ∀ (b : List Bool) (lv : List (Option Value)) (j : Nat) (w : Value), (xms b lv)[j]? = some (some w) → lv[j]? = some (some w)
  | [], _, _, _, h => by simp [xms] at h
  | true :: b, [], _, _, h => by simp [xms] at h
  | false :: b, [], _, _, h => by simp [xms] at h
  | true :: b, o :: l, 0, w, h => by simpa [xms] using h
  | false :: b, o :: l, 0, w, h => by simp [xms] at h
  | true :: b, o :: l, j + 1, w, h => by simpa using xms_get b l j w (by simpa [xms] using h)
  | false :: b, o :: l, j + 1, w, h => by simpa using xms_get b l j w (by simpa [xms] using h)
/-- the tables' words that every method may use; the nest mates' -/
def GW : List Cond := lw_tbl.filter goodWord
theorem gw_in {w : Cond} (h : w ∈ lw_tbl) (hg : goodWord w = true) : w ∈ GW := List.mem_filter.mpr ⟨h, hg⟩
theorem gw_tb (i : Nat) {w : Cond} (h : tables_1[i]? = some w) (hg : goodWord w = true) : w ∈ GW := gw_in (List.mem_append_right _ (List.mem_of_getElem? h)) hg
theorem gw_pr (i : Nat) {w : Cond} (h : (k2_sels lw_privs)[i]? = some w) (hg : goodWord w = true) : w ∈ GW := gw_in (List.mem_append_left _ (List.mem_of_getElem? h)) hg
theorem gw_good {y : MethodName} {cc : ByteArray} {nL : Nat} {rt : Option FieldType} (h : Cond.code y cc nL rt ∈ GW) : GoodIn GW (Cond.code y cc nL rt :: GW) := fun w hw => by
  have hw : w ∈ GW := by
    rcases List.mem_cons.mp hw with q | q
    · rw [q]; exact h
    · exact q
  exact ⟨hw, good_of_word (List.mem_filter.mp hw).2⟩
def NW (s : State) : Prop := ∀ (a : String) (i : Nat) (x : MethodName) (h : String), Cond.methodLinkNest a i x h ∈ tables_1 → va_Nw (.methodLinkNest a i x h) s
theorem NW.warm {s U : State} (h : NW s) (hW : s.WarmedH U.vm) : NW U := fun a i x h9 hm => va_Nw.warmM hW (h a i x h9 hm)
theorem NW.same {s U : State} (h : NW s) (hv : s.vm = U.vm) : NW U := fun a i x h9 hm => va_tabs rfl hv (h a i x h9 hm)
def XC (p : Program) (R : Room) (s : State) (m : MethodId) (args : Array Value) (meth : Method) (c : Code) (y : MethodName) (cc : ByteArray) (nL : Nat) (rt : Option FieldType) (d : Nat) (D : va_G) (ca : Nat → ClassId) (cells slots : Nat) : Prop :=
  p.tables.exec = Jvm.exec ∧ c.code = cc ∧ c.maxLocals = nL ∧ meth.sig.returnType = rt ∧ meth.locks = false ∧ s.vm.findClass y.cls = some m.cls ∧ (∀ w ∈ GW, w.before args s = true) ∧ NW s ∧ va_K D vwCl (xt ca) s ∧ d ≤ R.frames ∧ 64 * d ≤ R.locals ∧ cells ≤ R.cells ∧ slots ≤ R.slots
def xR (cc : ByteArray) (pc : Nat) (rt : Option FieldType) (v : Option Value) : Prop := match v with
  | none => decode cc pc = .ok (.return_, 1) ∧ rt = none
  | some (.int x) => decode cc pc = .ok (.ireturn, 1) ∧ ∃ ty, rt = some ty ∧ narrow ty (.int x) = .int x
  | some (.long _) => decode cc pc = .ok (.lreturn, 1) ∧ rt = some .long
  | _ => False
/-- a frame comes to its return, with Post -/
def GO (EX : State → Heap → (Nat → Prop) → (Nat → Nat) → Prop) (Y : List XS) (d : Nat) (y : MethodName) (cc : ByteArray) (nL : Nat) (rt : Option FieldType) (pc : Nat) (lv : List (Option Value)) (st : List Value) (u : XM) (Post : Option Value → XM → Prop) : Prop :=
  ∀ (p : Program) (l : Launch) (e : Env) (R : Room) (s : State) (m : MethodId) (args : Array Value) (below : List Frame) (meth : Method) (c : Code) (D : va_G) (ca : Nat → ClassId) (r : Nat → Nat) (H H0 : Heap) (locs : List Loc) (cells slots : Nat) (A : Nat → Prop) (Q : State → Prop) (ls : Array Slot),
  XC p R s m args meth c y cc nL rt d D ca cells slots → EX s H0 A r → XD Y r A → va_P D vwCl (xw r ca u 0 Y) H → va_S A H0 H locs → xL r nL lv ls →
  (∀ (v : Option Value) (u' : XM) (H' : Heap) (locs' : List Loc) (pc' : Nat) (ls' : Array Slot), Post v u' → va_P D vwCl (xw r ca u' 0 Y) H' → va_S A H0 H' locs' → xR cc pc' rt v → W p l e R s m args below meth c H' locs' cells slots Q (F0 m pc' ls' v.toList)) →
  W p l e R s m args below meth c H locs cells slots Q (F0 m pc ls (st.map (xv r)))
/-- a frame computes what o says, where it says something -/
def GF (EX : State → Heap → (Nat → Prop) → (Nat → Nat) → Prop) (Y : List XS) (d : Nat) (y : MethodName) (cc : ByteArray) (nL : Nat) (rt : Option FieldType) (pc : Nat) (lv : List (Option Value)) (st : List Value) (u : XM) {τ : Type} (em : τ → Option Value) (o : Option (τ × XM)) : Prop :=
  ∀ (z : τ) (u' : XM), o = some (z, u') → GO EX Y d y cc nL rt pc lv st u (fun v w => v = em z ∧ w = u')
def emI (x : Int32) : Option Value := some (.int x)
def emL (x : Int64) : Option Value := some (.long x)
def emV (_ : Unit) : Option Value := none
def E0 : State → Heap → (Nat → Prop) → (Nat → Nat) → Prop := fun _ _ _ _ => True
/-- a method does what o says, where it says something -/
def CF (Y : List XS) (d : Nat) (y : MethodName) (cc : ByteArray) (nL : Nat) (rt : Option FieldType) (As : List Value) (u : XM) {τ : Type} (em : τ → Option Value) (o : Option (τ × XM)) : Prop :=
  ∀ (z : τ) (u' : XM), o = some (z, u') → ∀ (l : Launch) (D : va_G) (ca : Nat → ClassId) (r : Nat → Nat), Met l y (Cond.code y cc nL rt :: GW) { frames := d, cells := 0, slots := 0, locals := 64 * d }
    (va_Pc (As.map (xv r)) (fun U => NW U ∧ va_K D vwCl (xt ca) U ∧ (∀ i j, i < Y.length → j < Y.length → r i = r j → i = j) ∧ va_P D vwCl (xw r ca u 0 Y) U.heap))
    (fun _ st oc t => oc = .returned (em z) ∧ va_P D vwCl (xw r ca u' 0 Y) t.heap ∧ va_F (xA Y r) st t) 0 0 (xA Y r)
section XRows
variable {EX : State → Heap → (Nat → Prop) → (Nat → Nat) → Prop} {Y : List XS} {d : Nat} {y : MethodName} {cc : ByteArray} {nL : Nat} {rt : Option FieldType} {pc q : Nat} {lv lv2 : List (Option Value)} {st : List Value} {u : XM} {τ : Type} {em : τ → Option Value} {o : Option (τ × XM)}
theorem gf_iconst {n : Int} {v : Int32} (hd : decode cc pc = .ok (.iconst n, 1)) (hv : Int32.ofInt n = v) (hq : pc + 1 = q) (h : GF EX Y d y cc nL rt q lv (.int v :: st) u em o) : GF EX Y d y cc nL rt pc lv (st) u em o := by
  subst hq
  intro z u' eo
  intro p l e R s m args below meth c D ca r H H0 locs cells slots A Q ls hC hE hD hP hS hl kk
  obtain ⟨hx, hb, hml, hr, hlk, hown, hts, hnw, hK, hfr, hlo, hce, hsl⟩ := id hC
  exact lv_iconst hx hb hd hv (h z u' eo p l e R s m args below meth c D ca r H H0 locs cells slots A Q ls hC hE hD hP hS hl kk)
theorem gf_bipush {n : Int} {v : Int32} (hd : decode cc pc = .ok (.bipush n, 2)) (hv : (Int8.ofInt n).toInt32 = v) (hq : pc + 2 = q) (h : GF EX Y d y cc nL rt q lv (.int v :: st) u em o) : GF EX Y d y cc nL rt pc lv (st) u em o := by
  subst hq
  intro z u' eo
  intro p l e R s m args below meth c D ca r H H0 locs cells slots A Q ls hC hE hD hP hS hl kk
  obtain ⟨hx, hb, hml, hr, hlk, hown, hts, hnw, hK, hfr, hlo, hce, hsl⟩ := id hC
  exact lv_bipush hx hb hd hv (h z u' eo p l e R s m args below meth c D ca r H H0 locs cells slots A Q ls hC hE hD hP hS hl kk)
theorem gf_sipush {n : Int} {v : Int32} (hd : decode cc pc = .ok (.sipush n, 3)) (hv : (Int16.ofInt n).toInt32 = v) (hq : pc + 3 = q) (h : GF EX Y d y cc nL rt q lv (.int v :: st) u em o) : GF EX Y d y cc nL rt pc lv (st) u em o := by
  subst hq
  intro z u' eo
  intro p l e R s m args below meth c D ca r H H0 locs cells slots A Q ls hC hE hD hP hS hl kk
  obtain ⟨hx, hb, hml, hr, hlk, hown, hts, hnw, hK, hfr, hlo, hce, hsl⟩ := id hC
  exact lv_sipush hx hb hd hv (h z u' eo p l e R s m args below meth c D ca r H H0 locs cells slots A Q ls hC hE hD hP hS hl kk)
theorem gf_lconst {n : Fin 2} {v : Int64} (hd : decode cc pc = .ok (.lconst n, 1)) (hv : Int64.ofNat (n : Nat) = v) (hq : pc + 1 = q) (h : GF EX Y d y cc nL rt q lv (.long v :: st) u em o) : GF EX Y d y cc nL rt pc lv (st) u em o := by
  subst hq
  intro z u' eo
  intro p l e R s m args below meth c D ca r H H0 locs cells slots A Q ls hC hE hD hP hS hl kk
  obtain ⟨hx, hb, hml, hr, hlk, hown, hts, hnw, hK, hfr, hlo, hce, hsl⟩ := id hC
  exact lv_lconst hx hb hd hv (h z u' eo p l e R s m args below meth c D ca r H H0 locs cells slots A Q ls hC hE hD hP hS hl kk)
theorem gf_ldc {k : Nat} {v : Int32} (hd : decode cc pc = .ok (.ldc k, 2)) (hw : Cond.constant y.cls k v ∈ GW) (hq : pc + 2 = q) (h : GF EX Y d y cc nL rt q lv (.int v :: st) u em o) : GF EX Y d y cc nL rt pc lv (st) u em o := by
  subst hq
  intro z u' eo
  intro p l e R s m args below meth c D ca r H H0 locs cells slots A Q ls hC hE hD hP hS hl kk
  obtain ⟨hx, hb, hml, hr, hlk, hown, hts, hnw, hK, hfr, hlo, hce, hsl⟩ := id hC
  exact lv_ldc hx hb hown (hts _ hw) hd (h z u' eo p l e R s m args below meth c D ca r H H0 locs cells slots A Q ls hC hE hD hP hS hl kk)
theorem gf_ldcw {k : Nat} {v : Int32} (hd : decode cc pc = .ok (.ldc_w k, 3)) (hw : Cond.constant y.cls k v ∈ GW) (hq : pc + 3 = q) (h : GF EX Y d y cc nL rt q lv (.int v :: st) u em o) : GF EX Y d y cc nL rt pc lv (st) u em o := by
  subst hq
  intro z u' eo
  intro p l e R s m args below meth c D ca r H H0 locs cells slots A Q ls hC hE hD hP hS hl kk
  obtain ⟨hx, hb, hml, hr, hlk, hown, hts, hnw, hK, hfr, hlo, hce, hsl⟩ := id hC
  exact lv_ldcw hx hb hown (hts _ hw) hd (h z u' eo p l e R s m args below meth c D ca r H H0 locs cells slots A Q ls hC hE hD hP hS hl kk)
theorem gf_ldc2 {k : Nat} {v : Int64} (hd : decode cc pc = .ok (.ldc2_w k, 3)) (hw : Cond.constantLong y.cls k v ∈ GW) (hq : pc + 3 = q) (h : GF EX Y d y cc nL rt q lv (.long v :: st) u em o) : GF EX Y d y cc nL rt pc lv (st) u em o := by
  subst hq
  intro z u' eo
  intro p l e R s m args below meth c D ca r H H0 locs cells slots A Q ls hC hE hD hP hS hl kk
  obtain ⟨hx, hb, hml, hr, hlk, hown, hts, hnw, hK, hfr, hlo, hce, hsl⟩ := id hC
  exact lv_ldc2 hx hb hown (hts _ hw) hd (h z u' eo p l e R s m args below meth c D ca r H H0 locs cells slots A Q ls hC hE hD hP hS hl kk)
theorem gf_iload {i : Nat} {x : Int32} (hd : decode cc pc = .ok (.iload i, 2)) (hv : lv[i]? = some (some (.int x))) (hq : pc + 2 = q) (h : GF EX Y d y cc nL rt q lv (.int x :: st) u em o) : GF EX Y d y cc nL rt pc lv (st) u em o := by
  subst hq
  intro z u' eo
  intro p l e R s m args below meth c D ca r H H0 locs cells slots A Q ls hC hE hD hP hS hl kk
  obtain ⟨hx, hb, hml, hr, hlk, hown, hts, hnw, hK, hfr, hlo, hce, hsl⟩ := id hC
  exact lv_iload hx hb hd (hl.2.2 _ _ hv) (h z u' eo p l e R s m args below meth c D ca r H H0 locs cells slots A Q ls hC hE hD hP hS hl kk)
theorem gf_iload_n {k : Fin 4} {i : Nat} {x : Int32} (hd : decode cc pc = .ok (.iload_n k, 1)) (hi : (k : Nat) = i) (hv : lv[i]? = some (some (.int x))) (hq : pc + 1 = q) (h : GF EX Y d y cc nL rt q lv (.int x :: st) u em o) : GF EX Y d y cc nL rt pc lv (st) u em o := by
  subst hq
  intro z u' eo
  intro p l e R s m args below meth c D ca r H H0 locs cells slots A Q ls hC hE hD hP hS hl kk
  obtain ⟨hx, hb, hml, hr, hlk, hown, hts, hnw, hK, hfr, hlo, hce, hsl⟩ := id hC
  exact lv_iload_n hx hb hd hi (hl.2.2 _ _ hv) (h z u' eo p l e R s m args below meth c D ca r H H0 locs cells slots A Q ls hC hE hD hP hS hl kk)
theorem gf_lload {i : Nat} {x : Int64} (hd : decode cc pc = .ok (.lload i, 2)) (hv : lv[i]? = some (some (.long x))) (hq : pc + 2 = q) (h : GF EX Y d y cc nL rt q lv (.long x :: st) u em o) : GF EX Y d y cc nL rt pc lv (st) u em o := by
  subst hq
  intro z u' eo
  intro p l e R s m args below meth c D ca r H H0 locs cells slots A Q ls hC hE hD hP hS hl kk
  obtain ⟨hx, hb, hml, hr, hlk, hown, hts, hnw, hK, hfr, hlo, hce, hsl⟩ := id hC
  exact lv_lload hx hb hd (hl.2.2 _ _ hv) (h z u' eo p l e R s m args below meth c D ca r H H0 locs cells slots A Q ls hC hE hD hP hS hl kk)
theorem gf_lload_n {k : Fin 4} {i : Nat} {x : Int64} (hd : decode cc pc = .ok (.lload_n k, 1)) (hi : (k : Nat) = i) (hv : lv[i]? = some (some (.long x))) (hq : pc + 1 = q) (h : GF EX Y d y cc nL rt q lv (.long x :: st) u em o) : GF EX Y d y cc nL rt pc lv (st) u em o := by
  subst hq
  intro z u' eo
  intro p l e R s m args below meth c D ca r H H0 locs cells slots A Q ls hC hE hD hP hS hl kk
  obtain ⟨hx, hb, hml, hr, hlk, hown, hts, hnw, hK, hfr, hlo, hce, hsl⟩ := id hC
  exact lv_lload_n hx hb hd hi (hl.2.2 _ _ hv) (h z u' eo p l e R s m args below meth c D ca r H H0 locs cells slots A Q ls hC hE hD hP hS hl kk)
theorem gf_aload {i : Nat} {x : Nat} (hd : decode cc pc = .ok (.aload i, 2)) (hv : lv[i]? = some (some (.ref x))) (hq : pc + 2 = q) (h : GF EX Y d y cc nL rt q lv (.ref x :: st) u em o) : GF EX Y d y cc nL rt pc lv (st) u em o := by
  subst hq
  intro z u' eo
  intro p l e R s m args below meth c D ca r H H0 locs cells slots A Q ls hC hE hD hP hS hl kk
  obtain ⟨hx, hb, hml, hr, hlk, hown, hts, hnw, hK, hfr, hlo, hce, hsl⟩ := id hC
  exact lv_aload hx hb hd (hl.2.2 _ _ hv) (h z u' eo p l e R s m args below meth c D ca r H H0 locs cells slots A Q ls hC hE hD hP hS hl kk)
theorem gf_aload_n {k : Fin 4} {i : Nat} {x : Nat} (hd : decode cc pc = .ok (.aload_n k, 1)) (hi : (k : Nat) = i) (hv : lv[i]? = some (some (.ref x))) (hq : pc + 1 = q) (h : GF EX Y d y cc nL rt q lv (.ref x :: st) u em o) : GF EX Y d y cc nL rt pc lv (st) u em o := by
  subst hq
  intro z u' eo
  intro p l e R s m args below meth c D ca r H H0 locs cells slots A Q ls hC hE hD hP hS hl kk
  obtain ⟨hx, hb, hml, hr, hlk, hown, hts, hnw, hK, hfr, hlo, hce, hsl⟩ := id hC
  exact lv_aload_n hx hb hd hi (hl.2.2 _ _ hv) (h z u' eo p l e R s m args below meth c D ca r H H0 locs cells slots A Q ls hC hE hD hP hS hl kk)
theorem gf_istore {i : Nat} {x : Int32} (hd : decode cc pc = .ok (.istore i, 2)) (hn : i < nL) (hs : xs1 (.int x) i lv = lv2) (hq : pc + 2 = q) (h : GF EX Y d y cc nL rt q lv2 st u em o) : GF EX Y d y cc nL rt pc lv (.int x :: st) u em o := by
  subst hq; subst hs
  intro z u' eo
  intro p l e R s m args below meth c D ca r H H0 locs cells slots A Q ls hC hE hD hP hS hl kk
  obtain ⟨hx, hb, hml, hr, hlk, hown, hts, hnw, hK, hfr, hlo, hce, hsl⟩ := id hC
  exact lv_istore hx hb hd hl.has hn rfl (fun ls2 h2 => h z u' eo p l e R s m args below meth c D ca r H H0 locs cells slots A Q ls2 hC hE hD hP hS (xs1_L (ls := ls) h2) kk)
theorem gf_istore_n {k : Fin 4} {i : Nat} {x : Int32} (hd : decode cc pc = .ok (.istore_n k, 1)) (hi : (k : Nat) = i) (hn : i < nL) (hs : xs1 (.int x) i lv = lv2) (hq : pc + 1 = q) (h : GF EX Y d y cc nL rt q lv2 st u em o) : GF EX Y d y cc nL rt pc lv (.int x :: st) u em o := by
  subst hq; subst hs
  intro z u' eo
  intro p l e R s m args below meth c D ca r H H0 locs cells slots A Q ls hC hE hD hP hS hl kk
  obtain ⟨hx, hb, hml, hr, hlk, hown, hts, hnw, hK, hfr, hlo, hce, hsl⟩ := id hC
  exact lv_istore_n hx hb hd hi hl.has hn rfl (fun ls2 h2 => h z u' eo p l e R s m args below meth c D ca r H H0 locs cells slots A Q ls2 hC hE hD hP hS (xs1_L (ls := ls) h2) kk)
theorem gf_lstore {i : Nat} {x : Int64} (hd : decode cc pc = .ok (.lstore i, 2)) (hn : i + 1 < nL) (hs : xs2 (.long x) i lv = lv2) (hq : pc + 2 = q) (h : GF EX Y d y cc nL rt q lv2 st u em o) : GF EX Y d y cc nL rt pc lv (.long x :: st) u em o := by
  subst hq; subst hs
  intro z u' eo
  intro p l e R s m args below meth c D ca r H H0 locs cells slots A Q ls hC hE hD hP hS hl kk
  obtain ⟨hx, hb, hml, hr, hlk, hown, hts, hnw, hK, hfr, hlo, hce, hsl⟩ := id hC
  exact lv_lstore hx hb hd hl.has hn rfl (fun ls2 h2 => h z u' eo p l e R s m args below meth c D ca r H H0 locs cells slots A Q ls2 hC hE hD hP hS (xs2_L (ls := ls) h2) kk)
theorem gf_lstore_n {k : Fin 4} {i : Nat} {x : Int64} (hd : decode cc pc = .ok (.lstore_n k, 1)) (hi : (k : Nat) = i) (hn : i + 1 < nL) (hs : xs2 (.long x) i lv = lv2) (hq : pc + 1 = q) (h : GF EX Y d y cc nL rt q lv2 st u em o) : GF EX Y d y cc nL rt pc lv (.long x :: st) u em o := by
  subst hq; subst hs
  intro z u' eo
  intro p l e R s m args below meth c D ca r H H0 locs cells slots A Q ls hC hE hD hP hS hl kk
  obtain ⟨hx, hb, hml, hr, hlk, hown, hts, hnw, hK, hfr, hlo, hce, hsl⟩ := id hC
  exact lv_lstore_n hx hb hd hi hl.has hn rfl (fun ls2 h2 => h z u' eo p l e R s m args below meth c D ca r H H0 locs cells slots A Q ls2 hC hE hD hP hS (xs2_L (ls := ls) h2) kk)
theorem gf_astore {i : Nat} {x : Nat} (hd : decode cc pc = .ok (.astore i, 2)) (hn : i < nL) (hs : xs1 (.ref x) i lv = lv2) (hq : pc + 2 = q) (h : GF EX Y d y cc nL rt q lv2 st u em o) : GF EX Y d y cc nL rt pc lv (.ref x :: st) u em o := by
  subst hq; subst hs
  intro z u' eo
  intro p l e R s m args below meth c D ca r H H0 locs cells slots A Q ls hC hE hD hP hS hl kk
  obtain ⟨hx, hb, hml, hr, hlk, hown, hts, hnw, hK, hfr, hlo, hce, hsl⟩ := id hC
  exact lv_astore hx hb hd hl.has hn rfl (fun ls2 h2 => h z u' eo p l e R s m args below meth c D ca r H H0 locs cells slots A Q ls2 hC hE hD hP hS (xs1_L (ls := ls) h2) kk)
theorem gf_astore_n {k : Fin 4} {i : Nat} {x : Nat} (hd : decode cc pc = .ok (.astore_n k, 1)) (hi : (k : Nat) = i) (hn : i < nL) (hs : xs1 (.ref x) i lv = lv2) (hq : pc + 1 = q) (h : GF EX Y d y cc nL rt q lv2 st u em o) : GF EX Y d y cc nL rt pc lv (.ref x :: st) u em o := by
  subst hq; subst hs
  intro z u' eo
  intro p l e R s m args below meth c D ca r H H0 locs cells slots A Q ls hC hE hD hP hS hl kk
  obtain ⟨hx, hb, hml, hr, hlk, hown, hts, hnw, hK, hfr, hlo, hce, hsl⟩ := id hC
  exact lv_astore_n hx hb hd hi hl.has hn rfl (fun ls2 h2 => h z u' eo p l e R s m args below meth c D ca r H H0 locs cells slots A Q ls2 hC hE hD hP hS (xs1_L (ls := ls) h2) kk)
theorem gf_iinc {i : Nat} {n : Int} {x v : Int32} (hd : decode cc pc = .ok (.iinc i n, 3)) (hx0 : lv[i]? = some (some (.int x))) (hv : x + Int32.ofInt n = v) (hn : i < nL) (hs : xs1 (.int v) i lv = lv2) (hq : pc + 3 = q) (h : GF EX Y d y cc nL rt q lv2 st u em o) : GF EX Y d y cc nL rt pc lv st u em o := by
  subst hq; subst hs
  intro z u' eo
  intro p l e R s m args below meth c D ca r H H0 locs cells slots A Q ls hC hE hD hP hS hl kk
  obtain ⟨hx, hb, hml, hr, hlk, hown, hts, hnw, hK, hfr, hlo, hce, hsl⟩ := id hC
  obtain ⟨k, hk⟩ := List.getElem?_of_mem (xl_mem (r := r) lv 0 i _ hx0)
  rw [Nat.zero_add] at hk
  exact lv_iinc hx hb hd hl.has hk hv hn rfl (fun ls2 h2 => h z u' eo p l e R s m args below meth c D ca r H H0 locs cells slots A Q ls2 hC hE hD hP hS (xs1_L (v := .int v) (ls := ls) h2) kk)
theorem gf_iadd {x w : Int32} (hd : decode cc pc = .ok (.iadd, 1)) (hq : pc + 1 = q) (h : GF EX Y d y cc nL rt q lv (.int (x + w) :: st) u em o) : GF EX Y d y cc nL rt pc lv (.int w :: .int x :: st) u em o := by
  subst hq
  intro z u' eo
  intro p l e R s m args below meth c D ca r H H0 locs cells slots A Q ls hC hE hD hP hS hl kk
  obtain ⟨hx, hb, hml, hr, hlk, hown, hts, hnw, hK, hfr, hlo, hce, hsl⟩ := id hC
  exact lv_iadd hx hb hd (h z u' eo p l e R s m args below meth c D ca r H H0 locs cells slots A Q ls hC hE hD hP hS hl kk)
theorem gf_isub {x w : Int32} (hd : decode cc pc = .ok (.isub, 1)) (hq : pc + 1 = q) (h : GF EX Y d y cc nL rt q lv (.int (x - w) :: st) u em o) : GF EX Y d y cc nL rt pc lv (.int w :: .int x :: st) u em o := by
  subst hq
  intro z u' eo
  intro p l e R s m args below meth c D ca r H H0 locs cells slots A Q ls hC hE hD hP hS hl kk
  obtain ⟨hx, hb, hml, hr, hlk, hown, hts, hnw, hK, hfr, hlo, hce, hsl⟩ := id hC
  exact lv_isub hx hb hd (h z u' eo p l e R s m args below meth c D ca r H H0 locs cells slots A Q ls hC hE hD hP hS hl kk)
theorem gf_imul {x w : Int32} (hd : decode cc pc = .ok (.imul, 1)) (hq : pc + 1 = q) (h : GF EX Y d y cc nL rt q lv (.int (x * w) :: st) u em o) : GF EX Y d y cc nL rt pc lv (.int w :: .int x :: st) u em o := by
  subst hq
  intro z u' eo
  intro p l e R s m args below meth c D ca r H H0 locs cells slots A Q ls hC hE hD hP hS hl kk
  obtain ⟨hx, hb, hml, hr, hlk, hown, hts, hnw, hK, hfr, hlo, hce, hsl⟩ := id hC
  exact lv_imul hx hb hd (h z u' eo p l e R s m args below meth c D ca r H H0 locs cells slots A Q ls hC hE hD hP hS hl kk)
theorem gf_iand {x w : Int32} (hd : decode cc pc = .ok (.iand, 1)) (hq : pc + 1 = q) (h : GF EX Y d y cc nL rt q lv (.int (x &&& w) :: st) u em o) : GF EX Y d y cc nL rt pc lv (.int w :: .int x :: st) u em o := by
  subst hq
  intro z u' eo
  intro p l e R s m args below meth c D ca r H H0 locs cells slots A Q ls hC hE hD hP hS hl kk
  obtain ⟨hx, hb, hml, hr, hlk, hown, hts, hnw, hK, hfr, hlo, hce, hsl⟩ := id hC
  exact lv_iand hx hb hd (h z u' eo p l e R s m args below meth c D ca r H H0 locs cells slots A Q ls hC hE hD hP hS hl kk)
theorem gf_ior {x w : Int32} (hd : decode cc pc = .ok (.ior, 1)) (hq : pc + 1 = q) (h : GF EX Y d y cc nL rt q lv (.int (x ||| w) :: st) u em o) : GF EX Y d y cc nL rt pc lv (.int w :: .int x :: st) u em o := by
  subst hq
  intro z u' eo
  intro p l e R s m args below meth c D ca r H H0 locs cells slots A Q ls hC hE hD hP hS hl kk
  obtain ⟨hx, hb, hml, hr, hlk, hown, hts, hnw, hK, hfr, hlo, hce, hsl⟩ := id hC
  exact lv_ior hx hb hd (h z u' eo p l e R s m args below meth c D ca r H H0 locs cells slots A Q ls hC hE hD hP hS hl kk)
theorem gf_ixor {x w : Int32} (hd : decode cc pc = .ok (.ixor, 1)) (hq : pc + 1 = q) (h : GF EX Y d y cc nL rt q lv (.int (x ^^^ w) :: st) u em o) : GF EX Y d y cc nL rt pc lv (.int w :: .int x :: st) u em o := by
  subst hq
  intro z u' eo
  intro p l e R s m args below meth c D ca r H H0 locs cells slots A Q ls hC hE hD hP hS hl kk
  obtain ⟨hx, hb, hml, hr, hlk, hown, hts, hnw, hK, hfr, hlo, hce, hsl⟩ := id hC
  exact lv_ixor hx hb hd (h z u' eo p l e R s m args below meth c D ca r H H0 locs cells slots A Q ls hC hE hD hP hS hl kk)
theorem gf_ishl {x w : Int32} (hd : decode cc pc = .ok (.ishl, 1)) (hq : pc + 1 = q) (h : GF EX Y d y cc nL rt q lv (.int (x <<< (w &&& 31)) :: st) u em o) : GF EX Y d y cc nL rt pc lv (.int w :: .int x :: st) u em o := by
  subst hq
  intro z u' eo
  intro p l e R s m args below meth c D ca r H H0 locs cells slots A Q ls hC hE hD hP hS hl kk
  obtain ⟨hx, hb, hml, hr, hlk, hown, hts, hnw, hK, hfr, hlo, hce, hsl⟩ := id hC
  exact lv_ishl hx hb hd (h z u' eo p l e R s m args below meth c D ca r H H0 locs cells slots A Q ls hC hE hD hP hS hl kk)
theorem gf_ishr {x w : Int32} (hd : decode cc pc = .ok (.ishr, 1)) (hq : pc + 1 = q) (h : GF EX Y d y cc nL rt q lv (.int (x >>> (w &&& 31)) :: st) u em o) : GF EX Y d y cc nL rt pc lv (.int w :: .int x :: st) u em o := by
  subst hq
  intro z u' eo
  intro p l e R s m args below meth c D ca r H H0 locs cells slots A Q ls hC hE hD hP hS hl kk
  obtain ⟨hx, hb, hml, hr, hlk, hown, hts, hnw, hK, hfr, hlo, hce, hsl⟩ := id hC
  exact lv_ishr hx hb hd (h z u' eo p l e R s m args below meth c D ca r H H0 locs cells slots A Q ls hC hE hD hP hS hl kk)
theorem gf_iushr {x w : Int32} (hd : decode cc pc = .ok (.iushr, 1)) (hq : pc + 1 = q) (h : GF EX Y d y cc nL rt q lv (.int ((x.toUInt32 >>> (w.toUInt32 &&& Int32.toUInt32 31)).toInt32) :: st) u em o) : GF EX Y d y cc nL rt pc lv (.int w :: .int x :: st) u em o := by
  subst hq
  intro z u' eo
  intro p l e R s m args below meth c D ca r H H0 locs cells slots A Q ls hC hE hD hP hS hl kk
  obtain ⟨hx, hb, hml, hr, hlk, hown, hts, hnw, hK, hfr, hlo, hce, hsl⟩ := id hC
  exact lv_iushr hx hb hd rfl (h z u' eo p l e R s m args below meth c D ca r H H0 locs cells slots A Q ls hC hE hD hP hS hl kk)
theorem gf_idiv {x w : Int32} (hd : decode cc pc = .ok (.idiv, 1)) (hq : pc + 1 = q) (h : GF EX Y d y cc nL rt q lv (.int (x / w) :: st) u em o) : GF EX Y d y cc nL rt pc lv (.int w :: .int x :: st) u em (if w = 0 then none else o) := by
  subst hq
  intro z u' eo
  by_cases hne : w = 0
  · rw [if_pos hne] at eo; cases eo
  rw [if_neg hne] at eo
  intro p l e R s m args below meth c D ca r H H0 locs cells slots A Q ls hC hE hD hP hS hl kk
  obtain ⟨hx, hb, hml, hr, hlk, hown, hts, hnw, hK, hfr, hlo, hce, hsl⟩ := id hC
  exact lv_idiv hx hb hd hne (h z u' eo p l e R s m args below meth c D ca r H H0 locs cells slots A Q ls hC hE hD hP hS hl kk)
theorem gf_idiv_c {x w : Int32} (hd : decode cc pc = .ok (.idiv, 1)) (hne : ¬ w = 0) (hq : pc + 1 = q) (h : GF EX Y d y cc nL rt q lv (.int (x / w) :: st) u em o) : GF EX Y d y cc nL rt pc lv (.int w :: .int x :: st) u em o := by
  subst hq
  intro z u' eo
  intro p l e R s m args below meth c D ca r H H0 locs cells slots A Q ls hC hE hD hP hS hl kk
  obtain ⟨hx, hb, hml, hr, hlk, hown, hts, hnw, hK, hfr, hlo, hce, hsl⟩ := id hC
  exact lv_idiv hx hb hd hne (h z u' eo p l e R s m args below meth c D ca r H H0 locs cells slots A Q ls hC hE hD hP hS hl kk)
theorem gf_irem {x w : Int32} (hd : decode cc pc = .ok (.irem, 1)) (hq : pc + 1 = q) (h : GF EX Y d y cc nL rt q lv (.int (x - x / w * w) :: st) u em o) : GF EX Y d y cc nL rt pc lv (.int w :: .int x :: st) u em (if w = 0 then none else o) := by
  subst hq
  intro z u' eo
  by_cases hne : w = 0
  · rw [if_pos hne] at eo; cases eo
  rw [if_neg hne] at eo
  intro p l e R s m args below meth c D ca r H H0 locs cells slots A Q ls hC hE hD hP hS hl kk
  obtain ⟨hx, hb, hml, hr, hlk, hown, hts, hnw, hK, hfr, hlo, hce, hsl⟩ := id hC
  exact lv_irem hx hb hd hne (h z u' eo p l e R s m args below meth c D ca r H H0 locs cells slots A Q ls hC hE hD hP hS hl kk)
theorem gf_irem_c {x w : Int32} (hd : decode cc pc = .ok (.irem, 1)) (hne : ¬ w = 0) (hq : pc + 1 = q) (h : GF EX Y d y cc nL rt q lv (.int (x - x / w * w) :: st) u em o) : GF EX Y d y cc nL rt pc lv (.int w :: .int x :: st) u em o := by
  subst hq
  intro z u' eo
  intro p l e R s m args below meth c D ca r H H0 locs cells slots A Q ls hC hE hD hP hS hl kk
  obtain ⟨hx, hb, hml, hr, hlk, hown, hts, hnw, hK, hfr, hlo, hce, hsl⟩ := id hC
  exact lv_irem hx hb hd hne (h z u' eo p l e R s m args below meth c D ca r H H0 locs cells slots A Q ls hC hE hD hP hS hl kk)
theorem gf_ineg {x : Int32} (hd : decode cc pc = .ok (.ineg, 1)) (hq : pc + 1 = q) (h : GF EX Y d y cc nL rt q lv (.int (-x) :: st) u em o) : GF EX Y d y cc nL rt pc lv (.int x :: st) u em o := by
  subst hq
  intro z u' eo
  intro p l e R s m args below meth c D ca r H H0 locs cells slots A Q ls hC hE hD hP hS hl kk
  obtain ⟨hx, hb, hml, hr, hlk, hown, hts, hnw, hK, hfr, hlo, hce, hsl⟩ := id hC
  exact lv_ineg hx hb hd (h z u' eo p l e R s m args below meth c D ca r H H0 locs cells slots A Q ls hC hE hD hP hS hl kk)
theorem gf_ladd {x w : Int64} (hd : decode cc pc = .ok (.ladd, 1)) (hq : pc + 1 = q) (h : GF EX Y d y cc nL rt q lv (.long (x + w) :: st) u em o) : GF EX Y d y cc nL rt pc lv (.long w :: .long x :: st) u em o := by
  subst hq
  intro z u' eo
  intro p l e R s m args below meth c D ca r H H0 locs cells slots A Q ls hC hE hD hP hS hl kk
  obtain ⟨hx, hb, hml, hr, hlk, hown, hts, hnw, hK, hfr, hlo, hce, hsl⟩ := id hC
  exact lv_ladd hx hb hd (h z u' eo p l e R s m args below meth c D ca r H H0 locs cells slots A Q ls hC hE hD hP hS hl kk)
theorem gf_lsub {x w : Int64} (hd : decode cc pc = .ok (.lsub, 1)) (hq : pc + 1 = q) (h : GF EX Y d y cc nL rt q lv (.long (x - w) :: st) u em o) : GF EX Y d y cc nL rt pc lv (.long w :: .long x :: st) u em o := by
  subst hq
  intro z u' eo
  intro p l e R s m args below meth c D ca r H H0 locs cells slots A Q ls hC hE hD hP hS hl kk
  obtain ⟨hx, hb, hml, hr, hlk, hown, hts, hnw, hK, hfr, hlo, hce, hsl⟩ := id hC
  exact lv_lsub hx hb hd (h z u' eo p l e R s m args below meth c D ca r H H0 locs cells slots A Q ls hC hE hD hP hS hl kk)
theorem gf_lmul {x w : Int64} (hd : decode cc pc = .ok (.lmul, 1)) (hq : pc + 1 = q) (h : GF EX Y d y cc nL rt q lv (.long (x * w) :: st) u em o) : GF EX Y d y cc nL rt pc lv (.long w :: .long x :: st) u em o := by
  subst hq
  intro z u' eo
  intro p l e R s m args below meth c D ca r H H0 locs cells slots A Q ls hC hE hD hP hS hl kk
  obtain ⟨hx, hb, hml, hr, hlk, hown, hts, hnw, hK, hfr, hlo, hce, hsl⟩ := id hC
  exact lv_lmul hx hb hd (h z u' eo p l e R s m args below meth c D ca r H H0 locs cells slots A Q ls hC hE hD hP hS hl kk)
theorem gf_ldiv {x w : Int64} (hd : decode cc pc = .ok (.ldiv, 1)) (hq : pc + 1 = q) (h : GF EX Y d y cc nL rt q lv (.long (x / w) :: st) u em o) : GF EX Y d y cc nL rt pc lv (.long w :: .long x :: st) u em (if w = 0 then none else o) := by
  subst hq
  intro z u' eo
  by_cases hne : w = 0
  · rw [if_pos hne] at eo; cases eo
  rw [if_neg hne] at eo
  intro p l e R s m args below meth c D ca r H H0 locs cells slots A Q ls hC hE hD hP hS hl kk
  obtain ⟨hx, hb, hml, hr, hlk, hown, hts, hnw, hK, hfr, hlo, hce, hsl⟩ := id hC
  exact lv_ldiv hx hb hd hne (h z u' eo p l e R s m args below meth c D ca r H H0 locs cells slots A Q ls hC hE hD hP hS hl kk)
theorem gf_ldiv_c {x w : Int64} (hd : decode cc pc = .ok (.ldiv, 1)) (hne : ¬ w = 0) (hq : pc + 1 = q) (h : GF EX Y d y cc nL rt q lv (.long (x / w) :: st) u em o) : GF EX Y d y cc nL rt pc lv (.long w :: .long x :: st) u em o := by
  subst hq
  intro z u' eo
  intro p l e R s m args below meth c D ca r H H0 locs cells slots A Q ls hC hE hD hP hS hl kk
  obtain ⟨hx, hb, hml, hr, hlk, hown, hts, hnw, hK, hfr, hlo, hce, hsl⟩ := id hC
  exact lv_ldiv hx hb hd hne (h z u' eo p l e R s m args below meth c D ca r H H0 locs cells slots A Q ls hC hE hD hP hS hl kk)
theorem gf_lrem {x w : Int64} (hd : decode cc pc = .ok (.lrem, 1)) (hq : pc + 1 = q) (h : GF EX Y d y cc nL rt q lv (.long (x - x / w * w) :: st) u em o) : GF EX Y d y cc nL rt pc lv (.long w :: .long x :: st) u em (if w = 0 then none else o) := by
  subst hq
  intro z u' eo
  by_cases hne : w = 0
  · rw [if_pos hne] at eo; cases eo
  rw [if_neg hne] at eo
  intro p l e R s m args below meth c D ca r H H0 locs cells slots A Q ls hC hE hD hP hS hl kk
  obtain ⟨hx, hb, hml, hr, hlk, hown, hts, hnw, hK, hfr, hlo, hce, hsl⟩ := id hC
  exact lv_lrem hx hb hd hne (h z u' eo p l e R s m args below meth c D ca r H H0 locs cells slots A Q ls hC hE hD hP hS hl kk)
theorem gf_lrem_c {x w : Int64} (hd : decode cc pc = .ok (.lrem, 1)) (hne : ¬ w = 0) (hq : pc + 1 = q) (h : GF EX Y d y cc nL rt q lv (.long (x - x / w * w) :: st) u em o) : GF EX Y d y cc nL rt pc lv (.long w :: .long x :: st) u em o := by
  subst hq
  intro z u' eo
  intro p l e R s m args below meth c D ca r H H0 locs cells slots A Q ls hC hE hD hP hS hl kk
  obtain ⟨hx, hb, hml, hr, hlk, hown, hts, hnw, hK, hfr, hlo, hce, hsl⟩ := id hC
  exact lv_lrem hx hb hd hne (h z u' eo p l e R s m args below meth c D ca r H H0 locs cells slots A Q ls hC hE hD hP hS hl kk)
theorem gf_i2l {x : Int32} (hd : decode cc pc = .ok (.i2l, 1)) (hq : pc + 1 = q) (h : GF EX Y d y cc nL rt q lv (.long x.toInt64 :: st) u em o) : GF EX Y d y cc nL rt pc lv (.int x :: st) u em o := by
  subst hq
  intro z u' eo
  intro p l e R s m args below meth c D ca r H H0 locs cells slots A Q ls hC hE hD hP hS hl kk
  obtain ⟨hx, hb, hml, hr, hlk, hown, hts, hnw, hK, hfr, hlo, hce, hsl⟩ := id hC
  exact lv_i2l hx hb hd rfl (h z u' eo p l e R s m args below meth c D ca r H H0 locs cells slots A Q ls hC hE hD hP hS hl kk)
theorem gf_l2i {x : Int64} (hd : decode cc pc = .ok (.l2i, 1)) (hq : pc + 1 = q) (h : GF EX Y d y cc nL rt q lv (.int x.toInt32 :: st) u em o) : GF EX Y d y cc nL rt pc lv (.long x :: st) u em o := by
  subst hq
  intro z u' eo
  intro p l e R s m args below meth c D ca r H H0 locs cells slots A Q ls hC hE hD hP hS hl kk
  obtain ⟨hx, hb, hml, hr, hlk, hown, hts, hnw, hK, hfr, hlo, hce, hsl⟩ := id hC
  exact lv_l2i hx hb hd rfl (h z u' eo p l e R s m args below meth c D ca r H H0 locs cells slots A Q ls hC hE hD hP hS hl kk)
theorem gf_i2b {x : Int32} (hd : decode cc pc = .ok (.i2b, 1)) (hq : pc + 1 = q) (h : GF EX Y d y cc nL rt q lv (.int x.toInt8.toInt32 :: st) u em o) : GF EX Y d y cc nL rt pc lv (.int x :: st) u em o := by
  subst hq
  intro z u' eo
  intro p l e R s m args below meth c D ca r H H0 locs cells slots A Q ls hC hE hD hP hS hl kk
  obtain ⟨hx, hb, hml, hr, hlk, hown, hts, hnw, hK, hfr, hlo, hce, hsl⟩ := id hC
  exact lv_i2b hx hb hd rfl (h z u' eo p l e R s m args below meth c D ca r H H0 locs cells slots A Q ls hC hE hD hP hS hl kk)
theorem gf_lcmp {x w : Int64} (hd : decode cc pc = .ok (.lcmp, 1)) (hq : pc + 1 = q) (h : GF EX Y d y cc nL rt q lv (.int (lg_cmp x w) :: st) u em o) : GF EX Y d y cc nL rt pc lv (.long w :: .long x :: st) u em o := by
  subst hq
  intro z u' eo
  intro p l e R s m args below meth c D ca r H H0 locs cells slots A Q ls hC hE hD hP hS hl kk
  obtain ⟨hx, hb, hml, hr, hlk, hown, hts, hnw, hK, hfr, hlo, hce, hsl⟩ := id hC
  exact W.lcmp hx hb hd (h z u' eo p l e R s m args below meth c D ca r H H0 locs cells slots A Q ls hC hE hD hP hS hl kk)
theorem gf_dup {va : Value} (hd : decode cc pc = .ok (.dup, 1)) (hva : va.category = 1) (hq : pc + 1 = q) (h : GF EX Y d y cc nL rt q lv (va :: va :: st) u em o) : GF EX Y d y cc nL rt pc lv (va :: st) u em o := by
  subst hq
  intro z u' eo
  intro p l e R s m args below meth c D ca r H H0 locs cells slots A Q ls hC hE hD hP hS hl kk
  obtain ⟨hx, hb, hml, hr, hlk, hown, hts, hnw, hK, hfr, hlo, hce, hsl⟩ := id hC
  exact lv_dup hx hb hd (by rw [xv_cat]; exact hva) (h z u' eo p l e R s m args below meth c D ca r H H0 locs cells slots A Q ls hC hE hD hP hS hl kk)
theorem gf_pop {va : Value} (hd : decode cc pc = .ok (.pop, 1)) (hva : va.category = 1) (hq : pc + 1 = q) (h : GF EX Y d y cc nL rt q lv (st) u em o) : GF EX Y d y cc nL rt pc lv (va :: st) u em o := by
  subst hq
  intro z u' eo
  intro p l e R s m args below meth c D ca r H H0 locs cells slots A Q ls hC hE hD hP hS hl kk
  obtain ⟨hx, hb, hml, hr, hlk, hown, hts, hnw, hK, hfr, hlo, hce, hsl⟩ := id hC
  exact lv_pop hx hb hd (by rw [xv_cat]; exact hva) (h z u' eo p l e R s m args below meth c D ca r H H0 locs cells slots A Q ls hC hE hD hP hS hl kk)
theorem gf_dup2 {va vb : Value} (hd : decode cc pc = .ok (.dup2, 1)) (hva : va.category = 1) (hvb : vb.category = 1) (hq : pc + 1 = q) (h : GF EX Y d y cc nL rt q lv (va :: vb :: va :: vb :: st) u em o) : GF EX Y d y cc nL rt pc lv (va :: vb :: st) u em o := by
  subst hq
  intro z u' eo
  intro p l e R s m args below meth c D ca r H H0 locs cells slots A Q ls hC hE hD hP hS hl kk
  obtain ⟨hx, hb, hml, hr, hlk, hown, hts, hnw, hK, hfr, hlo, hce, hsl⟩ := id hC
  exact lv_dup2_11 hx hb hd (by rw [xv_cat]; exact hva) (by rw [xv_cat]; exact hvb) (h z u' eo p l e R s m args below meth c D ca r H H0 locs cells slots A Q ls hC hE hD hP hS hl kk)
theorem gf_goto {off : Int} (hd : decode cc pc = .ok (.goto off, 3)) (hq : (pc : Int) + off = (q : Int)) (h : GF EX Y d y cc nL rt q lv st u em o) : GF EX Y d y cc nL rt pc lv st u em o := by
  intro z u' eo
  intro p l e R s m args below meth c D ca r H H0 locs cells slots A Q ls hC hE hD hP hS hl kk
  obtain ⟨hx, hb, hml, hr, hlk, hown, hts, hnw, hK, hfr, hlo, hce, hsl⟩ := id hC
  exact lv_goto hx hb hd hq (h z u' eo p l e R s m args below meth c D ca r H H0 locs cells slots A Q ls hC hE hD hP hS hl kk)
theorem gf_if_eq {x : Int32} {off : Int} {t : Nat} {o1 o2 : Option (τ × XM)} (hd : decode cc pc = .ok (.ifCond .eq off, 3)) (ht : (pc : Int) + off = (t : Int)) (hq : pc + 3 = q) (h1 : GF EX Y d y cc nL rt t lv st u em o1) (h2 : GF EX Y d y cc nL rt q lv st u em o2) : GF EX Y d y cc nL rt pc lv (.int x :: st) u em (if x = 0 then o1 else o2) := by
  subst hq
  intro z u' eo
  by_cases hc : x = 0
  · rw [if_pos hc] at eo
    intro p l e R s m args below meth c D ca r H H0 locs cells slots A Q ls hC hE hD hP hS hl kk
    obtain ⟨hx, hb, hml, hr, hlk, hown, hts, hnw, hK, hfr, hlo, hce, hsl⟩ := id hC
    exact lv_if_eq hx hb hd ht (fun _ => (h1 z u' eo p l e R s m args below meth c D ca r H H0 locs cells slots A Q ls hC hE hD hP hS hl kk)) (fun q => absurd hc q)
  · rw [if_neg hc] at eo
    intro p l e R s m args below meth c D ca r H H0 locs cells slots A Q ls hC hE hD hP hS hl kk
    obtain ⟨hx, hb, hml, hr, hlk, hown, hts, hnw, hK, hfr, hlo, hce, hsl⟩ := id hC
    exact lv_if_eq hx hb hd ht (fun q => absurd q hc) (fun _ => (h2 z u' eo p l e R s m args below meth c D ca r H H0 locs cells slots A Q ls hC hE hD hP hS hl kk))
theorem gf_icmp_eq {x w : Int32} {off : Int} {t : Nat} {o1 o2 : Option (τ × XM)} (hd : decode cc pc = .ok (.if_icmp .eq off, 3)) (ht : (pc : Int) + off = (t : Int)) (hq : pc + 3 = q) (h1 : GF EX Y d y cc nL rt t lv st u em o1) (h2 : GF EX Y d y cc nL rt q lv st u em o2) : GF EX Y d y cc nL rt pc lv (.int w :: .int x :: st) u em (if x = w then o1 else o2) := by
  subst hq
  intro z u' eo
  by_cases hc : x = w
  · rw [if_pos hc] at eo
    intro p l e R s m args below meth c D ca r H H0 locs cells slots A Q ls hC hE hD hP hS hl kk
    obtain ⟨hx, hb, hml, hr, hlk, hown, hts, hnw, hK, hfr, hlo, hce, hsl⟩ := id hC
    exact lv_icmp_eq hx hb hd ht (fun _ => (h1 z u' eo p l e R s m args below meth c D ca r H H0 locs cells slots A Q ls hC hE hD hP hS hl kk)) (fun q => absurd hc q)
  · rw [if_neg hc] at eo
    intro p l e R s m args below meth c D ca r H H0 locs cells slots A Q ls hC hE hD hP hS hl kk
    obtain ⟨hx, hb, hml, hr, hlk, hown, hts, hnw, hK, hfr, hlo, hce, hsl⟩ := id hC
    exact lv_icmp_eq hx hb hd ht (fun q => absurd q hc) (fun _ => (h2 z u' eo p l e R s m args below meth c D ca r H H0 locs cells slots A Q ls hC hE hD hP hS hl kk))
theorem gf_if_ne {x : Int32} {off : Int} {t : Nat} {o1 o2 : Option (τ × XM)} (hd : decode cc pc = .ok (.ifCond .ne off, 3)) (ht : (pc : Int) + off = (t : Int)) (hq : pc + 3 = q) (h1 : GF EX Y d y cc nL rt q lv st u em o1) (h2 : GF EX Y d y cc nL rt t lv st u em o2) : GF EX Y d y cc nL rt pc lv (.int x :: st) u em (if x = 0 then o1 else o2) := by
  subst hq
  intro z u' eo
  by_cases hc : x = 0
  · rw [if_pos hc] at eo
    intro p l e R s m args below meth c D ca r H H0 locs cells slots A Q ls hC hE hD hP hS hl kk
    obtain ⟨hx, hb, hml, hr, hlk, hown, hts, hnw, hK, hfr, hlo, hce, hsl⟩ := id hC
    exact lv_if_ne hx hb hd ht (fun q => absurd hc q) (fun _ => (h1 z u' eo p l e R s m args below meth c D ca r H H0 locs cells slots A Q ls hC hE hD hP hS hl kk))
  · rw [if_neg hc] at eo
    intro p l e R s m args below meth c D ca r H H0 locs cells slots A Q ls hC hE hD hP hS hl kk
    obtain ⟨hx, hb, hml, hr, hlk, hown, hts, hnw, hK, hfr, hlo, hce, hsl⟩ := id hC
    exact lv_if_ne hx hb hd ht (fun _ => (h2 z u' eo p l e R s m args below meth c D ca r H H0 locs cells slots A Q ls hC hE hD hP hS hl kk)) (fun q => absurd q hc)
theorem gf_icmp_ne {x w : Int32} {off : Int} {t : Nat} {o1 o2 : Option (τ × XM)} (hd : decode cc pc = .ok (.if_icmp .ne off, 3)) (ht : (pc : Int) + off = (t : Int)) (hq : pc + 3 = q) (h1 : GF EX Y d y cc nL rt q lv st u em o1) (h2 : GF EX Y d y cc nL rt t lv st u em o2) : GF EX Y d y cc nL rt pc lv (.int w :: .int x :: st) u em (if x = w then o1 else o2) := by
  subst hq
  intro z u' eo
  by_cases hc : x = w
  · rw [if_pos hc] at eo
    intro p l e R s m args below meth c D ca r H H0 locs cells slots A Q ls hC hE hD hP hS hl kk
    obtain ⟨hx, hb, hml, hr, hlk, hown, hts, hnw, hK, hfr, hlo, hce, hsl⟩ := id hC
    exact lv_icmp_ne hx hb hd ht (fun q => absurd hc q) (fun _ => (h1 z u' eo p l e R s m args below meth c D ca r H H0 locs cells slots A Q ls hC hE hD hP hS hl kk))
  · rw [if_neg hc] at eo
    intro p l e R s m args below meth c D ca r H H0 locs cells slots A Q ls hC hE hD hP hS hl kk
    obtain ⟨hx, hb, hml, hr, hlk, hown, hts, hnw, hK, hfr, hlo, hce, hsl⟩ := id hC
    exact lv_icmp_ne hx hb hd ht (fun _ => (h2 z u' eo p l e R s m args below meth c D ca r H H0 locs cells slots A Q ls hC hE hD hP hS hl kk)) (fun q => absurd q hc)
theorem gf_if_lt {x : Int32} {off : Int} {t : Nat} {o1 o2 : Option (τ × XM)} (hd : decode cc pc = .ok (.ifCond .lt off, 3)) (ht : (pc : Int) + off = (t : Int)) (hq : pc + 3 = q) (h1 : GF EX Y d y cc nL rt t lv st u em o1) (h2 : GF EX Y d y cc nL rt q lv st u em o2) : GF EX Y d y cc nL rt pc lv (.int x :: st) u em (if x < 0 then o1 else o2) := by
  subst hq
  intro z u' eo
  by_cases hc : x < 0
  · rw [if_pos hc] at eo
    intro p l e R s m args below meth c D ca r H H0 locs cells slots A Q ls hC hE hD hP hS hl kk
    obtain ⟨hx, hb, hml, hr, hlk, hown, hts, hnw, hK, hfr, hlo, hce, hsl⟩ := id hC
    exact lv_if_lt hx hb hd ht (fun _ => (h1 z u' eo p l e R s m args below meth c D ca r H H0 locs cells slots A Q ls hC hE hD hP hS hl kk)) (fun q => absurd hc q)
  · rw [if_neg hc] at eo
    intro p l e R s m args below meth c D ca r H H0 locs cells slots A Q ls hC hE hD hP hS hl kk
    obtain ⟨hx, hb, hml, hr, hlk, hown, hts, hnw, hK, hfr, hlo, hce, hsl⟩ := id hC
    exact lv_if_lt hx hb hd ht (fun q => absurd q hc) (fun _ => (h2 z u' eo p l e R s m args below meth c D ca r H H0 locs cells slots A Q ls hC hE hD hP hS hl kk))
theorem gf_icmp_lt {x w : Int32} {off : Int} {t : Nat} {o1 o2 : Option (τ × XM)} (hd : decode cc pc = .ok (.if_icmp .lt off, 3)) (ht : (pc : Int) + off = (t : Int)) (hq : pc + 3 = q) (h1 : GF EX Y d y cc nL rt t lv st u em o1) (h2 : GF EX Y d y cc nL rt q lv st u em o2) : GF EX Y d y cc nL rt pc lv (.int w :: .int x :: st) u em (if x < w then o1 else o2) := by
  subst hq
  intro z u' eo
  by_cases hc : x < w
  · rw [if_pos hc] at eo
    intro p l e R s m args below meth c D ca r H H0 locs cells slots A Q ls hC hE hD hP hS hl kk
    obtain ⟨hx, hb, hml, hr, hlk, hown, hts, hnw, hK, hfr, hlo, hce, hsl⟩ := id hC
    exact lv_icmp_lt hx hb hd ht (fun _ => (h1 z u' eo p l e R s m args below meth c D ca r H H0 locs cells slots A Q ls hC hE hD hP hS hl kk)) (fun q => absurd hc q)
  · rw [if_neg hc] at eo
    intro p l e R s m args below meth c D ca r H H0 locs cells slots A Q ls hC hE hD hP hS hl kk
    obtain ⟨hx, hb, hml, hr, hlk, hown, hts, hnw, hK, hfr, hlo, hce, hsl⟩ := id hC
    exact lv_icmp_lt hx hb hd ht (fun q => absurd q hc) (fun _ => (h2 z u' eo p l e R s m args below meth c D ca r H H0 locs cells slots A Q ls hC hE hD hP hS hl kk))
theorem gf_if_ge {x : Int32} {off : Int} {t : Nat} {o1 o2 : Option (τ × XM)} (hd : decode cc pc = .ok (.ifCond .ge off, 3)) (ht : (pc : Int) + off = (t : Int)) (hq : pc + 3 = q) (h1 : GF EX Y d y cc nL rt t lv st u em o1) (h2 : GF EX Y d y cc nL rt q lv st u em o2) : GF EX Y d y cc nL rt pc lv (.int x :: st) u em (if 0 ≤ x then o1 else o2) := by
  subst hq
  intro z u' eo
  by_cases hc : 0 ≤ x
  · rw [if_pos hc] at eo
    intro p l e R s m args below meth c D ca r H H0 locs cells slots A Q ls hC hE hD hP hS hl kk
    obtain ⟨hx, hb, hml, hr, hlk, hown, hts, hnw, hK, hfr, hlo, hce, hsl⟩ := id hC
    exact lv_if_ge hx hb hd ht (fun _ => (h1 z u' eo p l e R s m args below meth c D ca r H H0 locs cells slots A Q ls hC hE hD hP hS hl kk)) (fun q => absurd hc q)
  · rw [if_neg hc] at eo
    intro p l e R s m args below meth c D ca r H H0 locs cells slots A Q ls hC hE hD hP hS hl kk
    obtain ⟨hx, hb, hml, hr, hlk, hown, hts, hnw, hK, hfr, hlo, hce, hsl⟩ := id hC
    exact lv_if_ge hx hb hd ht (fun q => absurd q hc) (fun _ => (h2 z u' eo p l e R s m args below meth c D ca r H H0 locs cells slots A Q ls hC hE hD hP hS hl kk))
theorem gf_icmp_ge {x w : Int32} {off : Int} {t : Nat} {o1 o2 : Option (τ × XM)} (hd : decode cc pc = .ok (.if_icmp .ge off, 3)) (ht : (pc : Int) + off = (t : Int)) (hq : pc + 3 = q) (h1 : GF EX Y d y cc nL rt t lv st u em o1) (h2 : GF EX Y d y cc nL rt q lv st u em o2) : GF EX Y d y cc nL rt pc lv (.int w :: .int x :: st) u em (if w ≤ x then o1 else o2) := by
  subst hq
  intro z u' eo
  by_cases hc : w ≤ x
  · rw [if_pos hc] at eo
    intro p l e R s m args below meth c D ca r H H0 locs cells slots A Q ls hC hE hD hP hS hl kk
    obtain ⟨hx, hb, hml, hr, hlk, hown, hts, hnw, hK, hfr, hlo, hce, hsl⟩ := id hC
    exact lv_icmp_ge hx hb hd ht (fun _ => (h1 z u' eo p l e R s m args below meth c D ca r H H0 locs cells slots A Q ls hC hE hD hP hS hl kk)) (fun q => absurd hc q)
  · rw [if_neg hc] at eo
    intro p l e R s m args below meth c D ca r H H0 locs cells slots A Q ls hC hE hD hP hS hl kk
    obtain ⟨hx, hb, hml, hr, hlk, hown, hts, hnw, hK, hfr, hlo, hce, hsl⟩ := id hC
    exact lv_icmp_ge hx hb hd ht (fun q => absurd q hc) (fun _ => (h2 z u' eo p l e R s m args below meth c D ca r H H0 locs cells slots A Q ls hC hE hD hP hS hl kk))
theorem gf_if_gt {x : Int32} {off : Int} {t : Nat} {o1 o2 : Option (τ × XM)} (hd : decode cc pc = .ok (.ifCond .gt off, 3)) (ht : (pc : Int) + off = (t : Int)) (hq : pc + 3 = q) (h1 : GF EX Y d y cc nL rt t lv st u em o1) (h2 : GF EX Y d y cc nL rt q lv st u em o2) : GF EX Y d y cc nL rt pc lv (.int x :: st) u em (if 0 < x then o1 else o2) := by
  subst hq
  intro z u' eo
  by_cases hc : 0 < x
  · rw [if_pos hc] at eo
    intro p l e R s m args below meth c D ca r H H0 locs cells slots A Q ls hC hE hD hP hS hl kk
    obtain ⟨hx, hb, hml, hr, hlk, hown, hts, hnw, hK, hfr, hlo, hce, hsl⟩ := id hC
    exact lv_if_gt hx hb hd ht (fun _ => (h1 z u' eo p l e R s m args below meth c D ca r H H0 locs cells slots A Q ls hC hE hD hP hS hl kk)) (fun q => absurd hc q)
  · rw [if_neg hc] at eo
    intro p l e R s m args below meth c D ca r H H0 locs cells slots A Q ls hC hE hD hP hS hl kk
    obtain ⟨hx, hb, hml, hr, hlk, hown, hts, hnw, hK, hfr, hlo, hce, hsl⟩ := id hC
    exact lv_if_gt hx hb hd ht (fun q => absurd q hc) (fun _ => (h2 z u' eo p l e R s m args below meth c D ca r H H0 locs cells slots A Q ls hC hE hD hP hS hl kk))
theorem gf_icmp_gt {x w : Int32} {off : Int} {t : Nat} {o1 o2 : Option (τ × XM)} (hd : decode cc pc = .ok (.if_icmp .gt off, 3)) (ht : (pc : Int) + off = (t : Int)) (hq : pc + 3 = q) (h1 : GF EX Y d y cc nL rt t lv st u em o1) (h2 : GF EX Y d y cc nL rt q lv st u em o2) : GF EX Y d y cc nL rt pc lv (.int w :: .int x :: st) u em (if w < x then o1 else o2) := by
  subst hq
  intro z u' eo
  by_cases hc : w < x
  · rw [if_pos hc] at eo
    intro p l e R s m args below meth c D ca r H H0 locs cells slots A Q ls hC hE hD hP hS hl kk
    obtain ⟨hx, hb, hml, hr, hlk, hown, hts, hnw, hK, hfr, hlo, hce, hsl⟩ := id hC
    exact lv_icmp_gt hx hb hd ht (fun _ => (h1 z u' eo p l e R s m args below meth c D ca r H H0 locs cells slots A Q ls hC hE hD hP hS hl kk)) (fun q => absurd hc q)
  · rw [if_neg hc] at eo
    intro p l e R s m args below meth c D ca r H H0 locs cells slots A Q ls hC hE hD hP hS hl kk
    obtain ⟨hx, hb, hml, hr, hlk, hown, hts, hnw, hK, hfr, hlo, hce, hsl⟩ := id hC
    exact lv_icmp_gt hx hb hd ht (fun q => absurd q hc) (fun _ => (h2 z u' eo p l e R s m args below meth c D ca r H H0 locs cells slots A Q ls hC hE hD hP hS hl kk))
theorem gf_if_le {x : Int32} {off : Int} {t : Nat} {o1 o2 : Option (τ × XM)} (hd : decode cc pc = .ok (.ifCond .le off, 3)) (ht : (pc : Int) + off = (t : Int)) (hq : pc + 3 = q) (h1 : GF EX Y d y cc nL rt t lv st u em o1) (h2 : GF EX Y d y cc nL rt q lv st u em o2) : GF EX Y d y cc nL rt pc lv (.int x :: st) u em (if x ≤ 0 then o1 else o2) := by
  subst hq
  intro z u' eo
  by_cases hc : x ≤ 0
  · rw [if_pos hc] at eo
    intro p l e R s m args below meth c D ca r H H0 locs cells slots A Q ls hC hE hD hP hS hl kk
    obtain ⟨hx, hb, hml, hr, hlk, hown, hts, hnw, hK, hfr, hlo, hce, hsl⟩ := id hC
    exact lv_if_le hx hb hd ht (fun _ => (h1 z u' eo p l e R s m args below meth c D ca r H H0 locs cells slots A Q ls hC hE hD hP hS hl kk)) (fun q => absurd hc q)
  · rw [if_neg hc] at eo
    intro p l e R s m args below meth c D ca r H H0 locs cells slots A Q ls hC hE hD hP hS hl kk
    obtain ⟨hx, hb, hml, hr, hlk, hown, hts, hnw, hK, hfr, hlo, hce, hsl⟩ := id hC
    exact lv_if_le hx hb hd ht (fun q => absurd q hc) (fun _ => (h2 z u' eo p l e R s m args below meth c D ca r H H0 locs cells slots A Q ls hC hE hD hP hS hl kk))
theorem gf_icmp_le {x w : Int32} {off : Int} {t : Nat} {o1 o2 : Option (τ × XM)} (hd : decode cc pc = .ok (.if_icmp .le off, 3)) (ht : (pc : Int) + off = (t : Int)) (hq : pc + 3 = q) (h1 : GF EX Y d y cc nL rt t lv st u em o1) (h2 : GF EX Y d y cc nL rt q lv st u em o2) : GF EX Y d y cc nL rt pc lv (.int w :: .int x :: st) u em (if x ≤ w then o1 else o2) := by
  subst hq
  intro z u' eo
  by_cases hc : x ≤ w
  · rw [if_pos hc] at eo
    intro p l e R s m args below meth c D ca r H H0 locs cells slots A Q ls hC hE hD hP hS hl kk
    obtain ⟨hx, hb, hml, hr, hlk, hown, hts, hnw, hK, hfr, hlo, hce, hsl⟩ := id hC
    exact lv_icmp_le hx hb hd ht (fun _ => (h1 z u' eo p l e R s m args below meth c D ca r H H0 locs cells slots A Q ls hC hE hD hP hS hl kk)) (fun q => absurd hc q)
  · rw [if_neg hc] at eo
    intro p l e R s m args below meth c D ca r H H0 locs cells slots A Q ls hC hE hD hP hS hl kk
    obtain ⟨hx, hb, hml, hr, hlk, hown, hts, hnw, hK, hfr, hlo, hce, hsl⟩ := id hC
    exact lv_icmp_le hx hb hd ht (fun q => absurd q hc) (fun _ => (h2 z u' eo p l e R s m args below meth c D ca r H H0 locs cells slots A Q ls hC hE hD hP hS hl kk))
theorem gf_getI {C : String} {T : u_T} {N ci k j n idx : Nat} {dd : List Nat} (hd : decode cc pc = .ok (.getfield idx, 3)) (hY : Y[k]? = some (ci + 5, n, dd)) (hc : vwCl[ci]? = some (C, T, N)) (hin : ∀ w ∈ u_ws C T N, w ∈ GW) (hj : j < N) (hlk0 : Cond.fieldLink y.cls idx (T j).1 (T j).2.1 (T j).2.2.1 ∈ GW) (hf : dd[j]? = some 0) (hq : pc + 3 = q) (h : GF EX Y d y cc nL rt q lv (.int (mi u k j) :: st) u em o) : GF EX Y d y cc nL rt pc lv (.ref k :: st) u em o := by
  subst hq
  intro z u' eo
  intro p l e R s m args below meth c D ca r H H0 locs cells slots A Q ls hC hE hD hP hS hl kk
  obtain ⟨hx, hb, hml, hr, hlk, hown, hts, hnw, hK, hfr, hlo, hce, hsl⟩ := id hC
  exact va_get (v := .int (mi u k j)) hx hb hts hin hown hK hP k (xw_obj hY) hc j hj (hts _ hlk0) (fun _ h9 => h9) (by rw [xfs_get, hf, Nat.zero_add]; rfl) hd (h z u' eo p l e R s m args below meth c D ca r H H0 locs cells slots A Q ls hC hE hD hP hS hl kk)
theorem gf_getL {C : String} {T : u_T} {N ci k j n idx : Nat} {dd : List Nat} (hd : decode cc pc = .ok (.getfield idx, 3)) (hY : Y[k]? = some (ci + 5, n, dd)) (hc : vwCl[ci]? = some (C, T, N)) (hin : ∀ w ∈ u_ws C T N, w ∈ GW) (hj : j < N) (hlk0 : Cond.fieldLink y.cls idx (T j).1 (T j).2.1 (T j).2.2.1 ∈ GW) (hf : dd[j]? = some 1) (hq : pc + 3 = q) (h : GF EX Y d y cc nL rt q lv (.long (ml u k j) :: st) u em o) : GF EX Y d y cc nL rt pc lv (.ref k :: st) u em o := by
  subst hq
  intro z u' eo
  intro p l e R s m args below meth c D ca r H H0 locs cells slots A Q ls hC hE hD hP hS hl kk
  obtain ⟨hx, hb, hml, hr, hlk, hown, hts, hnw, hK, hfr, hlo, hce, hsl⟩ := id hC
  exact va_get (v := .long (ml u k j)) hx hb hts hin hown hK hP k (xw_obj hY) hc j hj (hts _ hlk0) (fun _ h9 => h9) (by rw [xfs_get, hf, Nat.zero_add]; rfl) hd (h z u' eo p l e R s m args below meth c D ca r H H0 locs cells slots A Q ls hC hE hD hP hS hl kk)
theorem gf_getA {C : String} {T : u_T} {N ci k j n idx t : Nat} {dd : List Nat} (hd : decode cc pc = .ok (.getfield idx, 3)) (hY : Y[k]? = some (ci + 5, n, dd)) (hc : vwCl[ci]? = some (C, T, N)) (hin : ∀ w ∈ u_ws C T N, w ∈ GW) (hj : j < N) (hlk0 : Cond.fieldLink y.cls idx (T j).1 (T j).2.1 (T j).2.2.1 ∈ GW) (hf : dd[j]? = some (t + 3)) (hq : pc + 3 = q) (h : GF EX Y d y cc nL rt q lv (.ref t :: st) u em o) : GF EX Y d y cc nL rt pc lv (.ref k :: st) u em o := by
  subst hq
  intro z u' eo
  intro p l e R s m args below meth c D ca r H H0 locs cells slots A Q ls hC hE hD hP hS hl kk
  obtain ⟨hx, hb, hml, hr, hlk, hown, hts, hnw, hK, hfr, hlo, hce, hsl⟩ := id hC
  exact va_get (v := .ref (r t)) hx hb hts hin hown hK hP k (xw_obj hY) hc j hj (hts _ hlk0) (fun _ h9 => h9) (by rw [xfs_get, hf, Nat.zero_add]; rfl) hd (h z u' eo p l e R s m args below meth c D ca r H H0 locs cells slots A Q ls hC hE hD hP hS hl kk)
theorem gf_putI {C : String} {T : u_T} {N ci k j n idx : Nat} {dd : List Nat} {x : Int32} (hd : decode cc pc = .ok (.putfield idx, 3)) (hY : Y[k]? = some (ci + 5, n, dd)) (hc : vwCl[ci]? = some (C, T, N)) (hin : ∀ w ∈ u_ws C T N, w ∈ GW) (ty0 : Nat → FieldType) (hty : ∀ k, k < N → parseFieldDescriptor (T k).2.2.1 = some (ty0 k)) (hnm : ∀ a, a < N → ∀ b, b < N → a ≠ b → (T a).2.1 ≠ (T b).2.1) (hj : j < N) (hlk0 : Cond.fieldLink y.cls idx (T j).1 (T j).2.1 (T j).2.2.1 ∈ GW) (hfin : (T j).2.2.2 = false) (hpd : parseFieldDescriptor (T j).2.2.1 = some .int) (hf : dd[j]? = some 0) (hq : pc + 3 = q) (h : GF EX Y d y cc nL rt q lv st (wi u k j x) em o) : GF EX Y d y cc nL rt pc lv (.int x :: .ref k :: st) u em o := by
  subst hq
  intro z u' eo
  intro p l e R s m args below meth c D ca r H H0 locs cells slots A Q ls hC hE hD hP hS hl kk
  obtain ⟨hx, hb, hml, hr, hlk, hown, hts, hnw, hK, hfr, hlo, hce, hsl⟩ := id hC
  have hlen : j < (xfs r u k 0 dd).length := by
    have h1 : (xfs r u k 0 dd)[j]? = some (xf r u k (0 + j) 0) := by rw [xfs_get, hf]; rfl
    exact (List.getElem?_eq_some_iff.mp h1).1
  refine va_put (v := .int x) hx hb hts hin ty0 hty hnm hown hK hP (hD.D ca u) hS k (xw_obj hY) hc j hj (hts _ hlk0) (fun _ h9 => h9) hfin hpd rfl rfl hlen hd (fun H1 locs1 hP1 _ hS1 => ?_)
  have e1 : (xfs r u k 0 dd).set j (.int x) = xfs r (wi u k j x) k 0 dd := xfs_set hf (by show Value.int x = Value.int _; simp [mi, ml, wi, wl]) (fun b hb => by simp [mi, wi, wl, hb]) (fun b hb => by simp [ml, wi, wl, hb])
  rw [e1, xw_set (u' := wi u k j x) hY (by rw [xe, if_neg (by simp only; omega), if_neg (by simp only; omega)]; rfl) (fun a ha => by funext b; simp [mi, wi, wl, ha]) (fun a ha => by funext b; simp [ml, wi, wl, ha])] at hP1
  exact h z u' eo p l e R s m args below meth c D ca r H1 H0 locs1 cells slots A Q ls hC hE hD hP1 hS1 hl kk
theorem gf_putL {C : String} {T : u_T} {N ci k j n idx : Nat} {dd : List Nat} {x : Int64} (hd : decode cc pc = .ok (.putfield idx, 3)) (hY : Y[k]? = some (ci + 5, n, dd)) (hc : vwCl[ci]? = some (C, T, N)) (hin : ∀ w ∈ u_ws C T N, w ∈ GW) (ty0 : Nat → FieldType) (hty : ∀ k, k < N → parseFieldDescriptor (T k).2.2.1 = some (ty0 k)) (hnm : ∀ a, a < N → ∀ b, b < N → a ≠ b → (T a).2.1 ≠ (T b).2.1) (hj : j < N) (hlk0 : Cond.fieldLink y.cls idx (T j).1 (T j).2.1 (T j).2.2.1 ∈ GW) (hfin : (T j).2.2.2 = false) (hpd : parseFieldDescriptor (T j).2.2.1 = some .long) (hf : dd[j]? = some 1) (hq : pc + 3 = q) (h : GF EX Y d y cc nL rt q lv st (wl u k j x) em o) : GF EX Y d y cc nL rt pc lv (.long x :: .ref k :: st) u em o := by
  subst hq
  intro z u' eo
  intro p l e R s m args below meth c D ca r H H0 locs cells slots A Q ls hC hE hD hP hS hl kk
  obtain ⟨hx, hb, hml, hr, hlk, hown, hts, hnw, hK, hfr, hlo, hce, hsl⟩ := id hC
  have hlen : j < (xfs r u k 0 dd).length := by
    have h1 : (xfs r u k 0 dd)[j]? = some (xf r u k (0 + j) 1) := by rw [xfs_get, hf]; rfl
    exact (List.getElem?_eq_some_iff.mp h1).1
  refine va_put (v := .long x) hx hb hts hin ty0 hty hnm hown hK hP (hD.D ca u) hS k (xw_obj hY) hc j hj (hts _ hlk0) (fun _ h9 => h9) hfin hpd rfl rfl hlen hd (fun H1 locs1 hP1 _ hS1 => ?_)
  have e1 : (xfs r u k 0 dd).set j (.long x) = xfs r (wl u k j x) k 0 dd := xfs_set hf (by show Value.long x = Value.long _; simp [mi, ml, wi, wl]) (fun b hb => by simp [mi, wi, wl, hb]) (fun b hb => by simp [ml, wi, wl, hb])
  rw [e1, xw_set (u' := wl u k j x) hY (by rw [xe, if_neg (by simp only; omega), if_neg (by simp only; omega)]; rfl) (fun a ha => by funext b; simp [mi, wi, wl, ha]) (fun a ha => by funext b; simp [ml, wi, wl, ha])] at hP1
  exact h z u' eo p l e R s m args below meth c D ca r H1 H0 locs1 cells slots A Q ls hC hE hD hP1 hS1 hl kk
end XRows
/-- the cell is an array of tag t, and i is one of its places -/
def ain (Y : List XS) (t k : Nat) (i : Int32) : Bool := match Y[k]? with
  | some (t', n, _) => t' == t && decide (0 ≤ i) && decide (i.toNatClampNeg < n)
  | none => false
def alen (Y : List XS) (t k : Nat) : Option Nat := match Y[k]? with
  | some (t', n, _) => if t' = t then some n else none
  | none => none
theorem ain_spec {Y : List XS} {t k : Nat} {i : Int32} (h : ain Y t k i = true) : ∃ (n : Nat) (dd : List Nat), Y[k]? = some (t, n, dd) ∧ vp_in i n := by
  unfold ain at h
  cases hY : Y[k]? with
  | none => rw [hY] at h; cases h
  | some sh =>
    obtain ⟨t', n, dd⟩ := sh
    rw [hY] at h
    simp only [Bool.and_eq_true, beq_iff_eq, decide_eq_true_eq] at h
    obtain ⟨⟨h1, h2⟩, h3⟩ := h
    subst h1
    exact ⟨n, dd, rfl, fun q => q.elim (fun q => by have := Int32.not_le.mpr q; exact this h2) (fun q => by omega)⟩
theorem alen_spec {Y : List XS} {t k n : Nat} (h : alen Y t k = some n) : ∃ (dd : List Nat), Y[k]? = some (t, n, dd) := by
  unfold alen at h
  cases hY : Y[k]? with
  | none => rw [hY] at h; cases h
  | some sh =>
    obtain ⟨t', n', dd⟩ := sh
    rw [hY] at h
    by_cases ht : t' = t
    · subst ht
      simp at h
      subst h
      exact ⟨dd, rfl⟩
    · simp [ht] at h
section XRows2
variable {EX : State → Heap → (Nat → Prop) → (Nat → Nat) → Prop} {Y : List XS} {d : Nat} {y : MethodName} {cc : ByteArray} {nL : Nat} {rt : Option FieldType} {pc q : Nat} {lv lv2 : List (Option Value)} {st : List Value} {u : XM} {τ : Type} {em : τ → Option Value} {o : Option (τ × XM)}
theorem gf_iald {k : Nat} {i : Int32} (hd : decode cc pc = .ok (.iaload, 1)) (hq : pc + 1 = q) (h : GF EX Y d y cc nL rt q lv (.int (mi u k i.toNatClampNeg) :: st) u em o) : GF EX Y d y cc nL rt pc lv (.int i :: .ref k :: st) u em (if ain Y 0 k i = true then o else none) := by
  subst hq
  intro z u' eo
  by_cases hc : ain Y 0 k i = true
  · rw [if_pos hc] at eo
    obtain ⟨n, dd, hY, hin⟩ := ain_spec hc
    intro p l e R s m args below meth c D ca r H H0 locs cells slots A Q ls hC hE hD hP hS hl kk
    obtain ⟨hx, hb, hml, hr, hlk, hown, hts, hnw, hK, hfr, hlo, hce, hsl⟩ := id hC
    exact va_iald hx hb hK hP k 0 (xw_arr (by decide) hY) rfl hin hd (h z u' eo p l e R s m args below meth c D ca r H H0 locs cells slots A Q ls hC hE hD hP hS hl kk)
  · rw [if_neg hc] at eo; cases eo
theorem gf_bald {k : Nat} {i : Int32} (hd : decode cc pc = .ok (.baload, 1)) (hq : pc + 1 = q) (h : GF EX Y d y cc nL rt q lv (.int (mi u k i.toNatClampNeg) :: st) u em o) : GF EX Y d y cc nL rt pc lv (.int i :: .ref k :: st) u em (if ain Y 1 k i = true then o else none) := by
  subst hq
  intro z u' eo
  by_cases hc : ain Y 1 k i = true
  · rw [if_pos hc] at eo
    obtain ⟨n, dd, hY, hin⟩ := ain_spec hc
    intro p l e R s m args below meth c D ca r H H0 locs cells slots A Q ls hC hE hD hP hS hl kk
    obtain ⟨hx, hb, hml, hr, hlk, hown, hts, hnw, hK, hfr, hlo, hce, hsl⟩ := id hC
    exact va_bald hx hb hK hP k 1 (xw_arr (by decide) hY) rfl hin hd (h z u' eo p l e R s m args below meth c D ca r H H0 locs cells slots A Q ls hC hE hD hP hS hl kk)
  · rw [if_neg hc] at eo; cases eo
theorem gf_zald {k : Nat} {i : Int32} (hd : decode cc pc = .ok (.baload, 1)) (hq : pc + 1 = q) (h : GF EX Y d y cc nL rt q lv (.int (mi u k i.toNatClampNeg) :: st) u em o) : GF EX Y d y cc nL rt pc lv (.int i :: .ref k :: st) u em (if ain Y 2 k i = true then o else none) := by
  subst hq
  intro z u' eo
  by_cases hc : ain Y 2 k i = true
  · rw [if_pos hc] at eo
    obtain ⟨n, dd, hY, hin⟩ := ain_spec hc
    intro p l e R s m args below meth c D ca r H H0 locs cells slots A Q ls hC hE hD hP hS hl kk
    obtain ⟨hx, hb, hml, hr, hlk, hown, hts, hnw, hK, hfr, hlo, hce, hsl⟩ := id hC
    exact va_zald hx hb hK hP k 2 (xw_arr (by decide) hY) rfl hin hd (h z u' eo p l e R s m args below meth c D ca r H H0 locs cells slots A Q ls hC hE hD hP hS hl kk)
  · rw [if_neg hc] at eo; cases eo
theorem gf_iast {k : Nat} {i x : Int32} (hd : decode cc pc = .ok (.iastore, 1)) (hq : pc + 1 = q) (h : GF EX Y d y cc nL rt q lv st (wi u k i.toNatClampNeg x) em o) : GF EX Y d y cc nL rt pc lv (.int x :: .int i :: .ref k :: st) u em (if ain Y 0 k i = true then o else none) := by
  subst hq
  intro z u' eo
  by_cases hc : ain Y 0 k i = true
  · rw [if_pos hc] at eo
    obtain ⟨n, dd, hY, hin⟩ := ain_spec hc
    intro p l e R s m args below meth c D ca r H H0 locs cells slots A Q ls hC hE hD hP hS hl kk
    obtain ⟨hx, hb, hml, hr, hlk, hown, hts, hnw, hK, hfr, hlo, hce, hsl⟩ := id hC
    refine va_iast hx hb hK hP (hD.D ca u) hS k 0 (xw_arr (by decide) hY) rfl hin hd (fun H1 locs1 hP1 _ hS1 => ?_)
    rw [xw_set (u' := wi u k i.toNatClampNeg x) hY (by rw [xe, if_pos (show (0 : Nat) < 3 by decide), xmi_wi]) (fun a ha => xmi_ne ha) (fun a ha => rfl)] at hP1
    exact h z u' eo p l e R s m args below meth c D ca r H1 H0 locs1 cells slots A Q ls hC hE hD hP1 hS1 hl kk
  · rw [if_neg hc] at eo; cases eo
theorem gf_bast {k : Nat} {i x : Int32} (hd : decode cc pc = .ok (.bastore, 1)) (hq : pc + 1 = q) (h : GF EX Y d y cc nL rt q lv st (wi u k i.toNatClampNeg (vp_nar .byte x)) em o) : GF EX Y d y cc nL rt pc lv (.int x :: .int i :: .ref k :: st) u em (if ain Y 1 k i = true then o else none) := by
  subst hq
  intro z u' eo
  by_cases hc : ain Y 1 k i = true
  · rw [if_pos hc] at eo
    obtain ⟨n, dd, hY, hin⟩ := ain_spec hc
    intro p l e R s m args below meth c D ca r H H0 locs cells slots A Q ls hC hE hD hP hS hl kk
    obtain ⟨hx, hb, hml, hr, hlk, hown, hts, hnw, hK, hfr, hlo, hce, hsl⟩ := id hC
    refine va_bast hx hb hK hP (hD.D ca u) hS k 1 (xw_arr (by decide) hY) rfl hin hd (fun H1 locs1 hP1 _ hS1 => ?_)
    rw [xw_set (u' := wi u k i.toNatClampNeg (vp_nar .byte x)) hY (by rw [xe, if_pos (show (1 : Nat) < 3 by decide), xmi_wi]) (fun a ha => xmi_ne ha) (fun a ha => rfl)] at hP1
    exact h z u' eo p l e R s m args below meth c D ca r H1 H0 locs1 cells slots A Q ls hC hE hD hP1 hS1 hl kk
  · rw [if_neg hc] at eo; cases eo
theorem gf_zast {k : Nat} {i x : Int32} (hd : decode cc pc = .ok (.bastore, 1)) (hq : pc + 1 = q) (h : GF EX Y d y cc nL rt q lv st (wi u k i.toNatClampNeg (vp_nar .boolean x)) em o) : GF EX Y d y cc nL rt pc lv (.int x :: .int i :: .ref k :: st) u em (if ain Y 2 k i = true then o else none) := by
  subst hq
  intro z u' eo
  by_cases hc : ain Y 2 k i = true
  · rw [if_pos hc] at eo
    obtain ⟨n, dd, hY, hin⟩ := ain_spec hc
    intro p l e R s m args below meth c D ca r H H0 locs cells slots A Q ls hC hE hD hP hS hl kk
    obtain ⟨hx, hb, hml, hr, hlk, hown, hts, hnw, hK, hfr, hlo, hce, hsl⟩ := id hC
    refine va_zast hx hb hK hP (hD.D ca u) hS k 2 (xw_arr (by decide) hY) rfl hin hd (fun H1 locs1 hP1 _ hS1 => ?_)
    rw [xw_set (u' := wi u k i.toNatClampNeg (vp_nar .boolean x)) hY (by rw [xe, if_pos (show (2 : Nat) < 3 by decide), xmi_wi]) (fun a ha => xmi_ne ha) (fun a ha => rfl)] at hP1
    exact h z u' eo p l e R s m args below meth c D ca r H1 H0 locs1 cells slots A Q ls hC hE hD hP1 hS1 hl kk
  · rw [if_neg hc] at eo; cases eo
theorem gf_aald3 {k n b : Nat} {i : Int32} (hd : decode cc pc = .ok (.aaload, 1)) (hY : Y[k]? = some (3, n, [b])) (hq : pc + 1 = q) (h : GF EX Y d y cc nL rt q lv (.ref (b + i.toNatClampNeg) :: st) u em o) : GF EX Y d y cc nL rt pc lv (.int i :: .ref k :: st) u em (if ain Y 3 k i = true then o else none) := by
  subst hq
  intro z u' eo
  by_cases hc : ain Y 3 k i = true
  · rw [if_pos hc] at eo
    obtain ⟨n', dd, hY', hin⟩ := ain_spec hc
    rw [hY] at hY'
    cases hY'
    intro p l e R s m args below meth c D ca r H H0 locs cells slots A Q ls hC hE hD hP hS hl kk
    obtain ⟨hx, hb, hml, hr, hlk, hown, hts, hnw, hK, hfr, hlo, hce, hsl⟩ := id hC
    have hlt : i.toNatClampNeg < n := Nat.not_le.mp fun q => hin (Or.inr q)
    refine W.aald (v := .ref (r (b + i.toNatClampNeg))) (ty := .array .int) hx hb (hP k _ (xw_row (by decide) (by decide) hY)) ((hK.2 3 _ rfl).1 n (fun j => va_rf (if j < n then some (r (b + j)) else none))) rfl (fun q => by cases q) (by show ¬ (i < 0 ∨ (arrV _ _ _).slots.size ≤ _); rw [arrV_size]; exact hin) (by show (arrV _ _ _).slots[_]? = _; rw [arrV_read _ _ hlt]; simp [hlt, va_rf]) rfl rfl hd (h z u' eo p l e R s m args below meth c D ca r H H0 locs cells slots A Q ls hC hE hD hP hS hl kk)
  · rw [if_neg hc] at eo; cases eo
theorem gf_aald4 {k n b : Nat} {i : Int32} (hd : decode cc pc = .ok (.aaload, 1)) (hY : Y[k]? = some (4, n, [b])) (hq : pc + 1 = q) (h : GF EX Y d y cc nL rt q lv (.ref (b + i.toNatClampNeg) :: st) u em o) : GF EX Y d y cc nL rt pc lv (.int i :: .ref k :: st) u em (if ain Y 4 k i = true then o else none) := by
  subst hq
  intro z u' eo
  by_cases hc : ain Y 4 k i = true
  · rw [if_pos hc] at eo
    obtain ⟨n', dd, hY', hin⟩ := ain_spec hc
    rw [hY] at hY'
    cases hY'
    intro p l e R s m args below meth c D ca r H H0 locs cells slots A Q ls hC hE hD hP hS hl kk
    obtain ⟨hx, hb, hml, hr, hlk, hown, hts, hnw, hK, hfr, hlo, hce, hsl⟩ := id hC
    have hlt : i.toNatClampNeg < n := Nat.not_le.mp fun q => hin (Or.inr q)
    refine W.aald (v := .ref (r (b + i.toNatClampNeg))) (ty := .array .byte) hx hb (hP k _ (xw_row (by decide) (by decide) hY)) ((hK.2 4 _ rfl).1 n (fun j => va_rf (if j < n then some (r (b + j)) else none))) rfl (fun q => by cases q) (by show ¬ (i < 0 ∨ (arrV _ _ _).slots.size ≤ _); rw [arrV_size]; exact hin) (by show (arrV _ _ _).slots[_]? = _; rw [arrV_read _ _ hlt]; simp [hlt, va_rf]) rfl rfl hd (h z u' eo p l e R s m args below meth c D ca r H H0 locs cells slots A Q ls hC hE hD hP hS hl kk)
  · rw [if_neg hc] at eo; cases eo
theorem gf_alen0 {k n : Nat} {dd : List Nat} (hd : decode cc pc = .ok (.arraylength, 1)) (hY : Y[k]? = some (0, n, dd)) {v : Int32} (hv : Int32.ofNat n = v) (hq : pc + 1 = q) (h : GF EX Y d y cc nL rt q lv (.int v :: st) u em o) : GF EX Y d y cc nL rt pc lv (.ref k :: st) u em o := by
  subst hq
  intro z u' eo
  intro p l e R s m args below meth c D ca r H H0 locs cells slots A Q ls hC hE hD hP hS hl kk
  obtain ⟨hx, hb, hml, hr, hlk, hown, hts, hnw, hK, hfr, hlo, hce, hsl⟩ := id hC
  exact va_alen hx hb hK hP k 0 (xw_arr (by decide) hY) rfl hv hd (h z u' eo p l e R s m args below meth c D ca r H H0 locs cells slots A Q ls hC hE hD hP hS hl kk)
theorem gf_alenS0 {k : Nat} {f : Nat → Option (τ × XM)} (hd : decode cc pc = .ok (.arraylength, 1)) (hq : pc + 1 = q) (h : ∀ n : Nat, GF EX Y d y cc nL rt q lv (.int (nI n) :: st) u em (f n)) : GF EX Y d y cc nL rt pc lv (.ref k :: st) u em ((alen Y 0 k).bind f) := by
  cases ha : alen Y 0 k with
  | none => intro z u' eo; cases eo
  | some n =>
    obtain ⟨dd, hY⟩ := alen_spec ha
    exact gf_alen0 hd hY rfl hq (h n)
theorem gf_alen1 {k n : Nat} {dd : List Nat} (hd : decode cc pc = .ok (.arraylength, 1)) (hY : Y[k]? = some (1, n, dd)) {v : Int32} (hv : Int32.ofNat n = v) (hq : pc + 1 = q) (h : GF EX Y d y cc nL rt q lv (.int v :: st) u em o) : GF EX Y d y cc nL rt pc lv (.ref k :: st) u em o := by
  subst hq
  intro z u' eo
  intro p l e R s m args below meth c D ca r H H0 locs cells slots A Q ls hC hE hD hP hS hl kk
  obtain ⟨hx, hb, hml, hr, hlk, hown, hts, hnw, hK, hfr, hlo, hce, hsl⟩ := id hC
  exact va_alen hx hb hK hP k 1 (xw_arr (by decide) hY) rfl hv hd (h z u' eo p l e R s m args below meth c D ca r H H0 locs cells slots A Q ls hC hE hD hP hS hl kk)
theorem gf_alenS1 {k : Nat} {f : Nat → Option (τ × XM)} (hd : decode cc pc = .ok (.arraylength, 1)) (hq : pc + 1 = q) (h : ∀ n : Nat, GF EX Y d y cc nL rt q lv (.int (nI n) :: st) u em (f n)) : GF EX Y d y cc nL rt pc lv (.ref k :: st) u em ((alen Y 1 k).bind f) := by
  cases ha : alen Y 1 k with
  | none => intro z u' eo; cases eo
  | some n =>
    obtain ⟨dd, hY⟩ := alen_spec ha
    exact gf_alen1 hd hY rfl hq (h n)
/-- fewer locals known -/
theorem gf_mask {b : List Bool} (hs : xms b lv = lv2) (h : GF EX Y d y cc nL rt pc lv2 st u em o) : GF EX Y d y cc nL rt pc lv st u em o := by
  subst hs
  intro z u' eo
  intro p l e R s m args below meth c D ca r H H0 locs cells slots A Q ls hC hE hD hP hS hl kk
  obtain ⟨hx, hb, hml, hr, hlk, hown, hts, hnw, hK, hfr, hlo, hce, hsl⟩ := id hC
  exact h z u' eo p l e R s m args below meth c D ca r H H0 locs cells slots A Q ls hC hE hD hP hS ⟨hl.1, hl.2.1, fun i v hv => hl.2.2 i v (xms_get _ _ _ _ hv)⟩ kk
theorem gf_none : GF EX Y d y cc nL rt pc lv st u em none := fun _ _ eo => by cases eo
theorem gf_eq {o2 : Option (τ × XM)} (ho : o2 = o) (h : GF EX Y d y cc nL rt pc lv st u em o) : GF EX Y d y cc nL rt pc lv st u em o2 := ho ▸ h
theorem gf_reti {x : Int32} (hd : decode cc pc = .ok (.ireturn, 1)) (hrt : rt = some .int) : GF EX Y d y cc nL rt pc lv [.int x] u emI (some (x, u)) := by
  intro z u' eo
  cases eo
  intro p l e R s m args below meth c D ca r H H0 locs cells slots A Q ls hC hE hD hP hS hl kk
  obtain ⟨hx, hb, hml, hr, hlk, hown, hts, hnw, hK, hfr, hlo, hce, hsl⟩ := id hC
  exact kk (some (.int x)) u H locs pc ls ⟨rfl, rfl⟩ hP hS ⟨hd, .int, hrt, rfl⟩
theorem gf_retz {x : Int32} (hd : decode cc pc = .ok (.ireturn, 1)) (hrt : rt = some .boolean) (hz : narrow .boolean (.int x) = .int x) : GF EX Y d y cc nL rt pc lv [.int x] u emI (some (x, u)) := by
  intro z u' eo
  cases eo
  intro p l e R s m args below meth c D ca r H H0 locs cells slots A Q ls hC hE hD hP hS hl kk
  obtain ⟨hx, hb, hml, hr, hlk, hown, hts, hnw, hK, hfr, hlo, hce, hsl⟩ := id hC
  exact kk (some (.int x)) u H locs pc ls ⟨rfl, rfl⟩ hP hS ⟨hd, .boolean, hrt, hz⟩
theorem gf_retb {x : Int32} (hd : decode cc pc = .ok (.ireturn, 1)) (hrt : rt = some .boolean) : GF EX Y d y cc nL rt pc lv [.int x] u emI (if vp_nar .boolean x = x then some (x, u) else none) := by
  by_cases hz : vp_nar .boolean x = x
  · rw [if_pos hz]
    exact gf_retz hd hrt (by
      show Value.int (vp_nar .boolean x) = _
      rw [hz])
  · rw [if_neg hz]
    exact gf_none
theorem gf_retl {x : Int64} (hd : decode cc pc = .ok (.lreturn, 1)) (hrt : rt = some .long) : GF EX Y d y cc nL rt pc lv [.long x] u emL (some (x, u)) := by
  intro z u' eo
  cases eo
  intro p l e R s m args below meth c D ca r H H0 locs cells slots A Q ls hC hE hD hP hS hl kk
  obtain ⟨hx, hb, hml, hr, hlk, hown, hts, hnw, hK, hfr, hlo, hce, hsl⟩ := id hC
  exact kk (some (.long x)) u H locs pc ls ⟨rfl, rfl⟩ hP hS ⟨hd, hrt⟩
theorem gf_retv (hd : decode cc pc = .ok (.return_, 1)) (hrt : rt = none) : GF EX Y d y cc nL rt pc lv [] u emV (some ((), u)) := by
  intro z u' eo
  cases eo
  intro p l e R s m args below meth c D ca r H H0 locs cells slots A Q ls hC hE hD hP hS hl kk
  obtain ⟨hx, hb, hml, hr, hlk, hown, hts, hnw, hK, hfr, hlo, hce, hsl⟩ := id hC
  exact kk none u H locs pc ls ⟨rfl, rfl⟩ hP hS ⟨hd, hrt⟩
/-- a switch over neighbours -/
theorem gf_tsw0 {dflt lo hi : Int} {offs : Array Int} {len : Nat} {x : Int32} (hd : decode cc pc = .ok (.tableswitch dflt lo hi offs, len))
    (h1 : ¬ x.toInt < lo → ¬ hi < x.toInt → ∃ off t, offs[(x.toInt - lo).toNat]? = some off ∧ (pc : Int) + off = ((t : Nat) : Int) ∧ GF EX Y d y cc nL rt t lv st u em o)
    {t0 : Nat} (ht0 : (pc : Int) + dflt = (t0 : Int)) (h2 : x.toInt < lo ∨ hi < x.toInt → GF EX Y d y cc nL rt t0 lv st u em o) : GF EX Y d y cc nL rt pc lv (.int x :: st) u em o := by
  by_cases hc : x.toInt < lo ∨ hi < x.toInt
  · have h := h2 hc
    intro z u' eo
    intro p l e R s m args below meth c D ca r H H0 locs cells slots A Q ls hC hE hD hP hS hl kk
    obtain ⟨hx, hb, hml, hr, hlk, hown, hts, hnw, hK, hfr, hlo, hce, hsl⟩ := id hC
    exact lv_tableOut hx hb hd hc ht0 (h z u' eo p l e R s m args below meth c D ca r H H0 locs cells slots A Q ls hC hE hD hP hS hl kk)
  · have g1 : ¬ x.toInt < lo := fun q => hc (Or.inl q)
    have g2 : ¬ hi < x.toInt := fun q => hc (Or.inr q)
    obtain ⟨off, t, e1, e2, h⟩ := h1 g1 g2
    intro z u' eo
    intro p l e R s m args below meth c D ca r H H0 locs cells slots A Q ls hC hE hD hP hS hl kk
    obtain ⟨hx, hb, hml, hr, hlk, hown, hts, hnw, hK, hfr, hlo, hce, hsl⟩ := id hC
    exact lv_tableIn hx hb hd g1 g2 e1 e2 (h z u' eo p l e R s m args below meth c D ca r H H0 locs cells slots A Q ls hC hE hD hP hS hl kk)
end XRows2
