/-! the world: an integer memory over 196 cells whose references never change (0..10 companies, 11.. their rows of friends, 22.. of gifts, 33.. friends (7 each, the last stands in), 110.. gifts (5 each), 165 the object, 166 refusals, 167 past, 168 its row, 169 letters, 170 its row, 171 numbers, 172 its row, 173 mind, 174, 175 its rows, 176 the reference, 177.. its rows) -/
abbrev Mm : Type := Nat → Nat → Int32
def mU (σ : Mm) (o k : Nat) (v : Int32) : Mm := fun q => if q = o then upd (σ o) k v else σ q
theorem mU_at (σ : Mm) (o k : Nat) (v : Int32) : mU σ o k v o = upd (σ o) k v := if_pos rfl
theorem mU_off (σ : Mm) (o k : Nat) (v : Int32) {q : Nat} (h : q ≠ o) : mU σ o k v q = σ q := if_neg h
theorem mU_get (σ : Mm) (o k : Nat) (v : Int32) (q j : Nat) : mU σ o k v q j = if q = o ∧ j = k then v else σ q j := by
  by_cases h : q = o
  · subst h
    rw [mU_at]
    by_cases h2 : j = k
    · subst h2; simp [upd]
    · simp [upd, h2]
  · rw [mU_off _ _ _ _ h]; simp [h]
abbrev Cy : Type := ClassId × ClassId × ClassId × ClassId
def aL (o : Nat) : Nat := match o with
  | 166 => 7 | 170 => 96 | 172 => 12 | 174 => 4 | 175 => 4 | 177 => 7
  | 178 => 6 | 179 => 6 | 180 => 6 | 181 => 6 | 182 => 4 | 183 => 4 | 184 => 4 | 185 => 4 | 186 => 4 | 187 => 4
  | 188 => 6 | 189 => 96 | 190 => 48 | 191 => 48 | 192 => 144 | 193 => 561 | 194 => 12 | 195 => 8 | _ => 0
abbrev iA (o : Nat) : Prop := o = 166 ∨ o = 170 ∨ o = 172 ∨ o = 174 ∨ o = 175 ∨ (177 ≤ o ∧ o < 196)
abbrev iC (o : Nat) : Prop := o < 11
abbrev iF (o : Nat) : Prop := 33 ≤ o ∧ o < 110
abbrev iG (o : Nat) : Prop := 110 ≤ o ∧ o < 165
def wE (cy : Cy) (ad : Nat → Nat) (r : Nat → Int32) (o : Nat) : va_E :=
  if o < 11 then .inr (0, [.ref (ad (11 + o)), .ref (ad (22 + o)), .ref (ad (39 + 7 * o)), .ref (ad (114 + 5 * o)), .int (r 4), .int (r 5), .int (r 6)])
  else if o < 22 then .inl (cy.2.1, 6, .inr (.inr (.inr (.inr (fun k => some (ad (33 + 7 * (o - 11) + k)))))))
  else if o < 33 then .inl (cy.2.2.1, 4, .inr (.inr (.inr (.inr (fun k => some (ad (110 + 5 * (o - 22) + k)))))))
  else if o < 110 then .inr (1, [.int (r 0), .int (r 1), .int (r 2), .int (r 3), .int (r 4), .int (r 5), .int (r 6), .int (r 7), .int (r 8)])
  else if o < 165 then .inr (2, [.int (r 0), .int (r 1), .int (r 2), .int (r 3), .int (r 4), .int (r 5)])
  else if o = 165 then .inr (7, [.ref (ad 0), .ref (ad 1), .ref (ad 167), .ref (ad 169), .ref (ad 171), .ref (ad 173), .ref (ad 166), .int (r 7)])
  else if o = 167 then .inr (6, [.ref (ad 168), .int (r 1), .int (r 2)])
  else if o = 168 then .inl (cy.2.2.2, 8, .inr (.inr (.inr (.inr (fun k => some (ad (3 + k)))))))
  else if o = 169 then .inr (3, [.ref (ad 170), .int (r 1)])
  else if o = 171 then .inr (5, [.ref (ad 172), .int (r 1)])
  else if o = 173 then .inr (4, [.ref (ad 0), .ref (ad 171), .ref (ad 2), .ref (ad 174), .ref (ad 175)])
  else if o = 176 then .inr (8, [.ref (ad 177), .ref (ad 178), .ref (ad 179), .ref (ad 180), .ref (ad 181), .ref (ad 182), .ref (ad 183), .ref (ad 184), .ref (ad 185), .ref (ad 186), .ref (ad 187), .int (r 11), .int (r 12), .int (r 13), .int (r 14), .ref (ad 188), .ref (ad 189), .ref (ad 190), .ref (ad 191), .ref (ad 192), .int (r 20), .int (r 21), .int (r 22), .ref (ad 193), .int (r 24), .int (r 25), .int (r 26), .int (r 27), .ref (ad 194), .int (r 29), .ref (ad 195), .int (r 31)])
  else .inl (cy.1, aL o, .inl r)
theorem wE_C {cy : Cy} {ad : Nat → Nat} {r : Nat → Int32} {o : Nat} (h : iC o) : wE cy ad r o = .inr (0, [.ref (ad (11 + o)), .ref (ad (22 + o)), .ref (ad (39 + 7 * o)), .ref (ad (114 + 5 * o)), .int (r 4), .int (r 5), .int (r 6)]) := if_pos h
theorem wE_FR {cy : Cy} {ad : Nat → Nat} {r : Nat → Int32} {o : Nat} (h : iC o) : wE cy ad r (11 + o) = .inl (cy.2.1, 6, .inr (.inr (.inr (.inr (fun k => some (ad (33 + 7 * o + k))))))) := by
  have h : o < 11 := h
  unfold wE
  rw [if_neg (by omega), if_pos (by omega), show 11 + o - 11 = o by omega]
theorem wE_GR {cy : Cy} {ad : Nat → Nat} {r : Nat → Int32} {o : Nat} (h : iC o) : wE cy ad r (22 + o) = .inl (cy.2.2.1, 4, .inr (.inr (.inr (.inr (fun k => some (ad (110 + 5 * o + k))))))) := by
  have h : o < 11 := h
  unfold wE
  rw [if_neg (by omega), if_neg (by omega), if_pos (by omega), show 22 + o - 22 = o by omega]
theorem wE_F {cy : Cy} {ad : Nat → Nat} {r : Nat → Int32} {o : Nat} (h : iF o) : wE cy ad r o = .inr (1, [.int (r 0), .int (r 1), .int (r 2), .int (r 3), .int (r 4), .int (r 5), .int (r 6), .int (r 7), .int (r 8)]) := by
  have h1 := h.1
  have h2 := h.2
  unfold wE
  rw [if_neg (by omega), if_neg (by omega), if_neg (by omega), if_pos (by omega)]
theorem wE_G {cy : Cy} {ad : Nat → Nat} {r : Nat → Int32} {o : Nat} (h : iG o) : wE cy ad r o = .inr (2, [.int (r 0), .int (r 1), .int (r 2), .int (r 3), .int (r 4), .int (r 5)]) := by
  have h1 := h.1
  have h2 := h.2
  unfold wE
  rw [if_neg (by omega), if_neg (by omega), if_neg (by omega), if_neg (by omega), if_pos (by omega)]
theorem wE_A {cy : Cy} {ad : Nat → Nat} {r : Nat → Int32} {o : Nat} (h : iA o) : wE cy ad r o = .inl (cy.1, aL o, .inl r) := by
  have h : o = 166 ∨ o = 170 ∨ o = 172 ∨ o = 174 ∨ o = 175 ∨ (177 ≤ o ∧ o < 196) := h
  unfold wE
  rw [if_neg (by omega), if_neg (by omega), if_neg (by omega), if_neg (by omega), if_neg (by omega), if_neg (by omega), if_neg (by omega), if_neg (by omega), if_neg (by omega), if_neg (by omega), if_neg (by omega), if_neg (by omega)]
theorem iA_lt {o : Nat} (h : iA o) : o < 196 := by
  have h : o = 166 ∨ o = 170 ∨ o = 172 ∨ o = 174 ∨ o = 175 ∨ (177 ≤ o ∧ o < 196) := h
  omega
def wl (cy : Cy) (ad : Nat → Nat) (σ : Mm) : va_W := (List.range 196).map (fun o => (ad o, wE cy ad (σ o) o))
theorem wl_at {cy : Cy} {ad : Nat → Nat} {σ : Mm} {o : Nat} (h : o < 196) : (wl cy ad σ)[o]? = some (ad o, wE cy ad (σ o) o) := by
  unfold wl
  rw [List.getElem?_map, List.getElem?_range h]
  rfl
theorem wl_len (cy : Cy) (ad : Nat → Nat) (σ : Mm) : (wl cy ad σ).length = 196 := by unfold wl; simp
theorem wl_set {cy : Cy} {ad : Nat → Nat} {σ : Mm} {o k : Nat} {v : Int32} {e : va_E} (h : o < 196) (he : wE cy ad (upd (σ o) k v) o = e) : (wl cy ad σ).set o (ad o, e) = wl cy ad (mU σ o k v) := by
  apply List.ext_getElem?
  intro j
  by_cases hj : j < 196
  · by_cases e1 : j = o
    · subst e1
      rw [List.getElem?_set_self (by rw [wl_len]; exact hj), wl_at hj, mU_at, he]
    · rw [List.getElem?_set_ne (Ne.symm e1), wl_at hj, wl_at hj, mU_off _ _ _ _ e1]
  · rw [List.getElem?_eq_none (by rw [List.length_set, wl_len]; omega), List.getElem?_eq_none (by rw [wl_len]; omega)]
abbrev AdI (ad : Nat → Nat) : Prop := ∀ i j : Nat, i < 196 → j < 196 → ad i = ad j → i = j
def Aad (ad : Nat → Nat) : Nat → Prop := fun q => ∃ i : Nat, i < 196 ∧ q = ad i
theorem wl_D {cy : Cy} {ad : Nat → Nat} {σ : Mm} {A : Nat → Prop} (h : AdI ad) (hA : ∀ q, Aad ad q → A q) : va_D A (wl cy ad σ) := by
  have key : ∀ (i : Nat) (p : Nat × va_E), (wl cy ad σ)[i]? = some p → i < 196 ∧ p.1 = ad i := by
    intro i p hp
    have hi : i < 196 := by
      have := (List.getElem?_eq_some_iff.mp hp).1
      rw [wl_len] at this
      exact this
    rw [wl_at hi] at hp
    cases hp
    exact ⟨hi, rfl⟩
  refine ⟨fun i j p q hi hj hpq => ?_, fun k q hk => ?_⟩
  · obtain ⟨h1, h2⟩ := key i p hi
    obtain ⟨h3, h4⟩ := key j q hj
    exact h i j h1 h3 (by rw [← h2, ← h4]; exact hpq)
  · obtain ⟨h1, h2⟩ := key k q hk
    exact hA _ ⟨k, h1, h2⟩
def vc (ad : Nat → Nat) : Value → Value
  | .ref a => .ref (ad a)
  | v => v
theorem vc_cat (ad : Nat → Nat) (v : Value) : (vc ad v).category = v.category := by cases v <;> rfl
theorem vc_cats (ad : Nat → Nat) (st : List Value) : ((st.map (vc ad)).map fun v => v.category).sum = (st.map fun v => v.category).sum := by
  rw [List.map_map]
  congr 1
  exact List.map_congr_left fun v _ => vc_cat ad v
def lc (ad : Nat → Nat) (L : List (Nat × Value)) : List (Nat × Value) := L.map fun q => (q.1, vc ad q.2)
theorem lc_args (ad : Nat → Nat) (as : List Value) : ∀ i, lc ad (lv_args i as) = lv_args i (as.map (vc ad)) := by
  induction as with
  | nil => intro i; rfl
  | cons v vs ih =>
    intro i
    show (i, vc ad v) :: lc ad (lv_args (if v.category = 2 then i + 2 else i + 1) vs) = (i, vc ad v) :: lv_args (if (vc ad v).category = 2 then i + 2 else i + 1) (vs.map (vc ad))
    rw [ih, vc_cat]
theorem lc_at {ad : Nat → Nat} {L : List (Nat × Value)} {j i : Nat} {v : Value} (h : L[j]? = some (i, v)) : (lc ad L)[j]? = some (i, vc ad v) := by
  unfold lc
  rw [List.getElem?_map, h]
  rfl
def stA (L : List (Nat × Value)) (i : Nat) (v : Value) : List (Nat × Value) := (i, v) :: L.filter (fun q => !(q.1 == i) && !(q.1 + 1 == i && q.2.category == 2))
def stB (L : List (Nat × Value)) (i : Nat) (v : Value) : List (Nat × Value) := (i, v) :: L.filter (fun q => !(q.1 == i) && (!(q.1 == i + 1) && !(q.1 + 1 == i && q.2.category == 2)))
theorem lc_stA {ad : Nat → Nat} {L : List (Nat × Value)} {i : Nat} {v : Value} : (i, vc ad v) :: (lc ad L).filter (fun q => !(q.1 == i) && !(q.1 + 1 == i && q.2.category == 2)) = lc ad (stA L i v) := by
  unfold stA lc
  rw [List.map_cons, List.filter_map]
  congr 2
  apply List.filter_congr
  intro q _
  simp [vc_cat]
theorem lc_stB {ad : Nat → Nat} {L : List (Nat × Value)} {i : Nat} {v : Value} : (i, vc ad v) :: (lc ad L).filter (fun q => !(q.1 == i) && (!(q.1 == i + 1) && !(q.1 + 1 == i && q.2.category == 2))) = lc ad (stB L i v) := by
  unfold stB lc
  rw [List.map_cons, List.filter_map]
  congr 2
  apply List.filter_congr
  intro q _
  simp [vc_cat]
def tyz (cy : Cy) : List (ClassId × FieldType) := [(cy.1, .int), (cy.2.1, .object R_F), (cy.2.2.1, .object R_G), (cy.2.2.2, .object R_C)]
/-! nest words -/
def nw_0 : Cond := (Jvm.Cond.methodLinkNest "PassedOnAndBetter$Letters" (19 : Nat) ({ cls := "PassedOnAndBetter", name := "setCell", desc := "([III)V" } : Jvm.MethodName) "PassedOnAndBetter")
def nw_1 : Cond := (Jvm.Cond.methodLinkNest "PassedOnAndBetter$Letters" (38 : Nat) ({ cls := "PassedOnAndBetter", name := "cellOf", desc := "([II)I" } : Jvm.MethodName) "PassedOnAndBetter")
def nw_2 : Cond := (Jvm.Cond.methodLinkNest "PassedOnAndBetter$Company" (62 : Nat) ({ cls := "PassedOnAndBetter$Gift", name := "begin", desc := "(III)V" } : Jvm.MethodName) "PassedOnAndBetter")
def nw_3 : Cond := (Jvm.Cond.methodLinkNest "PassedOnAndBetter$Numbers" (23 : Nat) ({ cls := "PassedOnAndBetter", name := "cellOf", desc := "([II)I" } : Jvm.MethodName) "PassedOnAndBetter")
def nw_4 : Cond := (Jvm.Cond.methodLinkNest "PassedOnAndBetter$Mind" (161 : Nat) ({ cls := "PassedOnAndBetter", name := "setCell", desc := "([III)V" } : Jvm.MethodName) "PassedOnAndBetter")
def nw_5 : Cond := (Jvm.Cond.methodLinkNest "PassedOnAndBetter$Mind" (165 : Nat) ({ cls := "PassedOnAndBetter", name := "cellOf", desc := "([II)I" } : Jvm.MethodName) "PassedOnAndBetter")
def nw_6 : Cond := (Jvm.Cond.methodLinkNest "PassedOnAndBetter$Mind" (176 : Nat) ({ cls := "PassedOnAndBetter", name := "power", desc := "(II)J" } : Jvm.MethodName) "PassedOnAndBetter")
def nw_7 : Cond := (Jvm.Cond.methodLinkNest "PassedOnAndBetter$Numbers" (17 : Nat) ({ cls := "PassedOnAndBetter", name := "setCell", desc := "([III)V" } : Jvm.MethodName) "PassedOnAndBetter")
def KU (D : va_G) (cy : Cy) (s : State) : Prop := va_K D wCls (tyz cy) s ∧ va_Nw nw_0 s ∧ va_Nw nw_1 s ∧ va_Nw nw_2 s ∧ va_Nw nw_3 s ∧ va_Nw nw_4 s ∧ va_Nw nw_5 s ∧ va_Nw nw_6 s ∧ va_Nw nw_7 s
theorem KU.warm {D : va_G} {cy : Cy} {s U : State} (hW : s.WarmedH U.vm) (h : KU D cy s) : KU D cy U := by
  obtain ⟨hk, h0, h1, h2, h3, h4, h5, h6, h7⟩ := h
  exact ⟨va_K.moved hW.alike hk, va_Nw.warmM hW h0, va_Nw.warmM hW h1, va_Nw.warmM hW h2, va_Nw.warmM hW h3, va_Nw.warmM hW h4, va_Nw.warmM hW h5, va_Nw.warmM hW h6, va_Nw.warmM hW h7⟩
theorem KU.blind {D : va_G} {cy : Cy} {s U : State} (hv : s.vm = U.vm) (h : KU D cy s) : KU D cy U := by
  obtain ⟨hk, h0, h1, h2, h3, h4, h5, h6, h7⟩ := h
  exact ⟨va_K.moved (u := s) (U := U) (by rw [hv]; exact Vm.Alike.refl U.vm) hk, va_Nw.same rfl hv h0, va_Nw.same rfl hv h1, va_Nw.same rfl hv h2, va_Nw.same rfl hv h3, va_Nw.same rfl hv h4, va_Nw.same rfl hv h5, va_Nw.same rfl hv h6, va_Nw.same rfl hv h7⟩
