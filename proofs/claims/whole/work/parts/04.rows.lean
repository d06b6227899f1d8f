/-! the judgement G: the machine at an instruction, the memory as a function; a row an instruction -/
abbrev Zt : Type := Program × Env × Room × State × MethodId × Array Value × List Frame × Method × Code × (State → Prop) × va_G × Cy × (Nat → Nat) × (Nat → Prop) × Nat × Nat
def G (l : Launch) (z : Zt) (cc : ByteArray) (nL pc : Nat) (L : List (Nat × Value)) (st : List Value) (σ : Mm) : Prop := match z with
  | (p, e, R, s, m, args, below, meth, c, Q, D, cy, ad, A, k, n) => ∀ (ls : Array Slot) (H : Heap) (locs : List Loc), lv_has ls nL (lc ad L) → va_P D wCls (wl cy ad σ) H → va_S A s.heap H locs → W p l e R s m args below meth c H locs k n Q (F0 m pc ls (st.map (vc ad)))
def ZOk (z : Zt) (cc : ByteArray) (nL : Nat) (own : String) (fr lo : Nat) : Prop := match z with
  | (p, _, R, s, m, args, _, meth, c, _, D, cy, ad, A, k, n) => p.tables.exec = Jvm.exec ∧ c.code = cc ∧ c.maxLocals = nL ∧ s.vm.findClass own = some m.cls ∧ (∀ w ∈ tbG, w.before args s = true) ∧ meth.locks = false ∧ R.frames = fr ∧ R.locals = lo ∧ (k ≤ R.cells ∧ n ≤ R.slots) ∧ KU D cy s ∧ AdI ad ∧ ∀ q, Aad ad q → A q
/-- a method's end -/
def mQ (D : va_G) (cy : Cy) (ad : Nat → Nat) (σ : Mm) (r : Option Value) : Array Value → State → Outcome → State → Prop := fun _ st oc t => (oc = .returned (r.map (vc ad)) ∧ va_P D wCls (wl cy ad σ) t.heap) ∧ va_F (Aad ad) st t
def ZR (z : Zt) (ret : Option FieldType) (σ : Mm) (r : Option Value) : Prop := match z with
  | (_, _, _, s, _, args, below, meth, _, Q, D, cy, ad, A, k, n) => meth.sig.returnType = ret ∧ A = Aad ad ∧ Q = MQ below (mQ D cy ad σ r) args s k n A
def Cm (l : Launch) (y : MethodName) (cc : ByteArray) (maxL : Nat) (ret : Option FieldType) (fr lo : Nat) (as : List Value) (σ σ' : Mm) (r : Option Value) : Prop :=
  ∀ (D : va_G) (cy : Cy) (ad : Nat → Nat), AdI ad → Met l y (.code y cc maxL ret :: tbG) ({ frames := fr, cells := 0, slots := 0, locals := lo }) (va_Pc (as.map (vc ad)) (fun U => va_P D wCls (wl cy ad σ) U.heap ∧ KU D cy U)) (mQ D cy ad σ' r) 0 0 (Aad ad)
theorem Cm.of {l : Launch} {y : MethodName} {cc : ByteArray} {maxL : Nat} {ret : Option FieldType} {fr lo : Nat} {as : List Value} {σ σ' : Mm} {r : Option Value} {own : String} (hy : plainName y.cls = true) (ho : y.cls = own) (hn : ∀ ad, (lg_sl (as.map (vc ad))).length ≤ maxL)
    (body : ∀ z : Zt, ZOk z cc maxL own fr lo → ZR z ret σ' r → G l z cc maxL 0 (lv_args 0 as) [] σ) : Cm l y cc maxL ret fr lo as σ σ' r := by
  intro D cy ad hI
  refine Met.ofW (cc := cc) (maxL := maxL) (ret := ret) hy rfl ?_
  intro p e s m args below meth c s₁ B hml hv
  obtain ⟨rfl, hP, hK⟩ := hv
  have hts := atoms_spec (ws := .code y cc maxL ret :: tbG) B.pre
  have hown : s.vm.findClass own = some m.cls := ho ▸ findClass_of_methodNamed B.named
  have hb := body (p, e, (headSpec (.code y cc maxL ret :: tbG) ({ frames := fr, cells := 0, slots := 0, locals := lo })).room, s, m, (as.map (vc ad)).toArray, below, meth, c, MQ below (mQ D cy ad σ' r) (as.map (vc ad)).toArray s 0 0 (Aad ad), D, cy, ad, Aad ad, 0, 0)
    ⟨B.exec, B.bytes, hml, hown, fun w hw => hts w (List.mem_cons_of_mem _ hw), B.notSynchronized, rfl, rfl, ⟨Nat.le_refl _, Nat.le_refl _⟩, hK, hI, fun q h => h⟩ ⟨B.returns, rfl, rfl⟩
  have hl := lv_entry (as.map (vc ad)) (n := maxL) (hn ad)
  rw [lg_entry_eq]
  generalize (lg_sl (as.map (vc ad)) ++ List.replicate (maxL - (lg_sl (as.map (vc ad))).length) Slot.unset).toArray = ls at hl ⊢
  rw [← lc_args] at hl
  exact hb ls s.heap [] hl hP va_S.rf
section ROWS
variable {l : Launch} {z : Zt} {cc : ByteArray} {nL pc fr lo : Nat} {own : String} {L : List (Nat × Value)} {st : List Value} {σ : Mm}
/-- fewer locals, in another order -/
theorem g_sub {L' : List (Nat × Value)} (ks : List Nat) (h : lv_pick L ks = L') (k : G l z cc nL pc L' st σ) : G l z cc nL pc L st σ := by
  obtain ⟨p, e, R, s, m, args, below, meth, c, Q, D, cy, ad, A, kc, ks'⟩ := z
  intro ls H locs hl hP hS
  refine k ls H locs ?_ hP hS
  refine lv_sub hl ks ?_
  rw [← h]
  clear h
  unfold lv_pick lc
  induction ks with
  | nil => rfl
  | cons i ks ih =>
    simp only [List.filterMap_cons, List.getElem?_map]
    simp only [List.getElem?_map] at ih
    cases L[i]? <;> simp [ih]
theorem g_goto (hz : ZOk z cc nL own fr lo) {off : Int} {tgt : Nat} (d : decode cc pc = .ok (.goto off, 3)) (ht : (pc : Int) + off = (tgt : Int)) (k : G l z cc nL tgt L st σ) : G l z cc nL pc L st σ := by
  obtain ⟨p, e, R, s, m, args, below, meth, c, Q, D, cy, ad, A, kc, ks'⟩ := z
  exact fun ls H locs hl hP hS => lv_goto hz.1 hz.2.1 d ht (k ls H locs hl hP hS)
theorem g_iconst (hz : ZOk z cc nL own fr lo) {n : Int} {v : Int32} (d : decode cc pc = .ok (.iconst n, 1)) (hv : Int32.ofInt n = v) (k : G l z cc nL (pc + 1) L (.int v :: st) σ) : G l z cc nL pc L st σ := by
  obtain ⟨p, e, R, s, m, args, below, meth, c, Q, D, cy, ad, A, kc, ks'⟩ := z
  exact fun ls H locs hl hP hS => lv_iconst hz.1 hz.2.1 d hv (k ls H locs hl hP hS)
theorem g_bipush (hz : ZOk z cc nL own fr lo) {n : Int} {v : Int32} (d : decode cc pc = .ok (.bipush n, 2)) (hv : (Int8.ofInt n).toInt32 = v) (k : G l z cc nL (pc + 2) L (.int v :: st) σ) : G l z cc nL pc L st σ := by
  obtain ⟨p, e, R, s, m, args, below, meth, c, Q, D, cy, ad, A, kc, ks'⟩ := z
  exact fun ls H locs hl hP hS => lv_bipush hz.1 hz.2.1 d hv (k ls H locs hl hP hS)
theorem g_sipush (hz : ZOk z cc nL own fr lo) {n : Int} {v : Int32} (d : decode cc pc = .ok (.sipush n, 3)) (hv : (Int16.ofInt n).toInt32 = v) (k : G l z cc nL (pc + 3) L (.int v :: st) σ) : G l z cc nL pc L st σ := by
  obtain ⟨p, e, R, s, m, args, below, meth, c, Q, D, cy, ad, A, kc, ks'⟩ := z
  exact fun ls H locs hl hP hS => lv_sipush hz.1 hz.2.1 d hv (k ls H locs hl hP hS)
theorem g_ldc (hz : ZOk z cc nL own fr lo) {ix : Nat} {v : Int32} (lk : Cond.constant own ix v ∈ tbG) (d : decode cc pc = .ok (.ldc ix, 2)) (k : G l z cc nL (pc + 2) L (.int v :: st) σ) : G l z cc nL pc L st σ := by
  obtain ⟨p, e, R, s, m, args, below, meth, c, Q, D, cy, ad, A, kc, ks'⟩ := z
  exact fun ls H locs hl hP hS => lv_ldc hz.1 hz.2.1 hz.2.2.2.1 (hz.2.2.2.2.1 _ lk) d (k ls H locs hl hP hS)
theorem g_ldcw (hz : ZOk z cc nL own fr lo) {ix : Nat} {v : Int32} (lk : Cond.constant own ix v ∈ tbG) (d : decode cc pc = .ok (.ldc_w ix, 3)) (k : G l z cc nL (pc + 3) L (.int v :: st) σ) : G l z cc nL pc L st σ := by
  obtain ⟨p, e, R, s, m, args, below, meth, c, Q, D, cy, ad, A, kc, ks'⟩ := z
  exact fun ls H locs hl hP hS => lv_ldcw hz.1 hz.2.1 hz.2.2.2.1 (hz.2.2.2.2.1 _ lk) d (k ls H locs hl hP hS)
theorem g_ldc2 (hz : ZOk z cc nL own fr lo) {ix : Nat} {v : Int64} (lk : Cond.constantLong own ix v ∈ tbG) (d : decode cc pc = .ok (.ldc2_w ix, 3)) (k : G l z cc nL (pc + 3) L (.long v :: st) σ) : G l z cc nL pc L st σ := by
  obtain ⟨p, e, R, s, m, args, below, meth, c, Q, D, cy, ad, A, kc, ks'⟩ := z
  exact fun ls H locs hl hP hS => lv_ldc2 hz.1 hz.2.1 hz.2.2.2.1 (hz.2.2.2.2.1 _ lk) d (k ls H locs hl hP hS)
theorem g_lconst (hz : ZOk z cc nL own fr lo) {n : Fin 2} {v : Int64} (d : decode cc pc = .ok (.lconst n, 1)) (hv : Int64.ofNat (n : Nat) = v) (k : G l z cc nL (pc + 1) L (.long v :: st) σ) : G l z cc nL pc L st σ := by
  obtain ⟨p, e, R, s, m, args, below, meth, c, Q, D, cy, ad, A, kc, ks'⟩ := z
  exact fun ls H locs hl hP hS => lv_lconst hz.1 hz.2.1 d hv (k ls H locs hl hP hS)
theorem g_iload_n (hz : ZOk z cc nL own fr lo) {i : Fin 4} {j : Nat} {x : Int32} (q : Nat) (d : decode cc pc = .ok (.iload_n i, 1)) (hj : L[q]? = some (j, .int x)) (hi : (i : Nat) = j) (k : G l z cc nL (pc + 1) L (.int x :: st) σ) : G l z cc nL pc L st σ := by
  obtain ⟨p, e, R, s, m, args, below, meth, c, Q, D, cy, ad, A, kc, ks'⟩ := z
  exact fun ls H locs hl hP hS => lv_iload_n hz.1 hz.2.1 d hi (lv_at hl q (lc_at hj)) (k ls H locs hl hP hS)
theorem g_iload (hz : ZOk z cc nL own fr lo) {i : Nat} {x : Int32} (q : Nat) (d : decode cc pc = .ok (.iload i, 2)) (hj : L[q]? = some (i, .int x)) (k : G l z cc nL (pc + 2) L (.int x :: st) σ) : G l z cc nL pc L st σ := by
  obtain ⟨p, e, R, s, m, args, below, meth, c, Q, D, cy, ad, A, kc, ks'⟩ := z
  exact fun ls H locs hl hP hS => lv_iload hz.1 hz.2.1 d (lv_at hl q (lc_at hj)) (k ls H locs hl hP hS)
theorem g_lload_n (hz : ZOk z cc nL own fr lo) {i : Fin 4} {j : Nat} {x : Int64} (q : Nat) (d : decode cc pc = .ok (.lload_n i, 1)) (hj : L[q]? = some (j, .long x)) (hi : (i : Nat) = j) (k : G l z cc nL (pc + 1) L (.long x :: st) σ) : G l z cc nL pc L st σ := by
  obtain ⟨p, e, R, s, m, args, below, meth, c, Q, D, cy, ad, A, kc, ks'⟩ := z
  exact fun ls H locs hl hP hS => lv_lload_n hz.1 hz.2.1 d hi (lv_at hl q (lc_at hj)) (k ls H locs hl hP hS)
theorem g_lload (hz : ZOk z cc nL own fr lo) {i : Nat} {x : Int64} (q : Nat) (d : decode cc pc = .ok (.lload i, 2)) (hj : L[q]? = some (i, .long x)) (k : G l z cc nL (pc + 2) L (.long x :: st) σ) : G l z cc nL pc L st σ := by
  obtain ⟨p, e, R, s, m, args, below, meth, c, Q, D, cy, ad, A, kc, ks'⟩ := z
  exact fun ls H locs hl hP hS => lv_lload hz.1 hz.2.1 d (lv_at hl q (lc_at hj)) (k ls H locs hl hP hS)
theorem g_aload_n (hz : ZOk z cc nL own fr lo) {i : Fin 4} {j x : Nat} (q : Nat) (d : decode cc pc = .ok (.aload_n i, 1)) (hj : L[q]? = some (j, .ref x)) (hi : (i : Nat) = j) (k : G l z cc nL (pc + 1) L (.ref x :: st) σ) : G l z cc nL pc L st σ := by
  obtain ⟨p, e, R, s, m, args, below, meth, c, Q, D, cy, ad, A, kc, ks'⟩ := z
  exact fun ls H locs hl hP hS => lv_aload_n hz.1 hz.2.1 d hi (lv_at hl q (lc_at hj)) (k ls H locs hl hP hS)
theorem g_aload (hz : ZOk z cc nL own fr lo) {i x : Nat} (q : Nat) (d : decode cc pc = .ok (.aload i, 2)) (hj : L[q]? = some (i, .ref x)) (k : G l z cc nL (pc + 2) L (.ref x :: st) σ) : G l z cc nL pc L st σ := by
  obtain ⟨p, e, R, s, m, args, below, meth, c, Q, D, cy, ad, A, kc, ks'⟩ := z
  exact fun ls H locs hl hP hS => lv_aload hz.1 hz.2.1 d (lv_at hl q (lc_at hj)) (k ls H locs hl hP hS)
theorem g_istore_n (hz : ZOk z cc nL own fr lo) {i : Fin 4} {j : Nat} {x : Int32} {L' : List (Nat × Value)} (d : decode cc pc = .ok (.istore_n i, 1)) (hi : (i : Nat) = j) (hn : j < nL) (h : stA L j (.int x) = L') (k : G l z cc nL (pc + 1) L' st σ) : G l z cc nL pc L (.int x :: st) σ := by
  obtain ⟨p, e, R, s, m, args, below, meth, c, Q, D, cy, ad, A, kc, ks'⟩ := z
  subst h
  exact fun ls H locs hl hP hS => lv_istore_n hz.1 hz.2.1 d hi hl hn (lc_stA (v := .int x)) (fun ls' hl' => k ls' H locs hl' hP hS)
theorem g_istore (hz : ZOk z cc nL own fr lo) {i : Nat} {x : Int32} {L' : List (Nat × Value)} (d : decode cc pc = .ok (.istore i, 2)) (hn : i < nL) (h : stA L i (.int x) = L') (k : G l z cc nL (pc + 2) L' st σ) : G l z cc nL pc L (.int x :: st) σ := by
  obtain ⟨p, e, R, s, m, args, below, meth, c, Q, D, cy, ad, A, kc, ks'⟩ := z
  subst h
  exact fun ls H locs hl hP hS => lv_istore hz.1 hz.2.1 d hl hn (lc_stA (v := .int x)) (fun ls' hl' => k ls' H locs hl' hP hS)
theorem g_lstore_n (hz : ZOk z cc nL own fr lo) {i : Fin 4} {j : Nat} {x : Int64} {L' : List (Nat × Value)} (d : decode cc pc = .ok (.lstore_n i, 1)) (hi : (i : Nat) = j) (hn : j + 1 < nL) (h : stB L j (.long x) = L') (k : G l z cc nL (pc + 1) L' st σ) : G l z cc nL pc L (.long x :: st) σ := by
  obtain ⟨p, e, R, s, m, args, below, meth, c, Q, D, cy, ad, A, kc, ks'⟩ := z
  subst h
  exact fun ls H locs hl hP hS => lv_lstore_n hz.1 hz.2.1 d hi hl hn (lc_stB (v := .long x)) (fun ls' hl' => k ls' H locs hl' hP hS)
theorem g_lstore (hz : ZOk z cc nL own fr lo) {i : Nat} {x : Int64} {L' : List (Nat × Value)} (d : decode cc pc = .ok (.lstore i, 2)) (hn : i + 1 < nL) (h : stB L i (.long x) = L') (k : G l z cc nL (pc + 2) L' st σ) : G l z cc nL pc L (.long x :: st) σ := by
  obtain ⟨p, e, R, s, m, args, below, meth, c, Q, D, cy, ad, A, kc, ks'⟩ := z
  subst h
  exact fun ls H locs hl hP hS => lv_lstore hz.1 hz.2.1 d hl hn (lc_stB (v := .long x)) (fun ls' hl' => k ls' H locs hl' hP hS)
theorem g_astore_n (hz : ZOk z cc nL own fr lo) {i : Fin 4} {j x : Nat} {L' : List (Nat × Value)} (d : decode cc pc = .ok (.astore_n i, 1)) (hi : (i : Nat) = j) (hn : j < nL) (h : stA L j (.ref x) = L') (k : G l z cc nL (pc + 1) L' st σ) : G l z cc nL pc L (.ref x :: st) σ := by
  obtain ⟨p, e, R, s, m, args, below, meth, c, Q, D, cy, ad, A, kc, ks'⟩ := z
  subst h
  exact fun ls H locs hl hP hS => lv_astore_n hz.1 hz.2.1 d hi hl hn (lc_stA (v := .ref x)) (fun ls' hl' => k ls' H locs hl' hP hS)
theorem g_astore (hz : ZOk z cc nL own fr lo) {i x : Nat} {L' : List (Nat × Value)} (d : decode cc pc = .ok (.astore i, 2)) (hn : i < nL) (h : stA L i (.ref x) = L') (k : G l z cc nL (pc + 2) L' st σ) : G l z cc nL pc L (.ref x :: st) σ := by
  obtain ⟨p, e, R, s, m, args, below, meth, c, Q, D, cy, ad, A, kc, ks'⟩ := z
  subst h
  exact fun ls H locs hl hP hS => lv_astore hz.1 hz.2.1 d hl hn (lc_stA (v := .ref x)) (fun ls' hl' => k ls' H locs hl' hP hS)
theorem g_iinc (hz : ZOk z cc nL own fr lo) {i : Nat} {n : Int} {x v : Int32} {L' : List (Nat × Value)} (q : Nat) (d : decode cc pc = .ok (.iinc i n, 3)) (hj : L[q]? = some (i, .int x)) (hv : x + Int32.ofInt n = v) (hn : i < nL) (h : stA L i (.int v) = L') (k : G l z cc nL (pc + 3) L' st σ) : G l z cc nL pc L st σ := by
  obtain ⟨p, e, R, s, m, args, below, meth, c, Q, D, cy, ad, A, kc, ks'⟩ := z
  subst h
  exact fun ls H locs hl hP hS => lv_iinc hz.1 hz.2.1 d hl (lc_at hj) hv hn (lc_stA (v := .int v)) (fun ls' hl' => k ls' H locs hl' hP hS)
theorem g_iadd (hz : ZOk z cc nL own fr lo) {x y : Int32} (d : decode cc pc = .ok (.iadd, 1)) (k : G l z cc nL (pc + 1) L (.int (x + y) :: st) σ) : G l z cc nL pc L (.int y :: .int x :: st) σ := by
  obtain ⟨p, e, R, s, m, args, below, meth, c, Q, D, cy, ad, A, kc, ks'⟩ := z
  exact fun ls H locs hl hP hS => lv_iadd hz.1 hz.2.1 d (k ls H locs hl hP hS)
theorem g_isub (hz : ZOk z cc nL own fr lo) {x y : Int32} (d : decode cc pc = .ok (.isub, 1)) (k : G l z cc nL (pc + 1) L (.int (x - y) :: st) σ) : G l z cc nL pc L (.int y :: .int x :: st) σ := by
  obtain ⟨p, e, R, s, m, args, below, meth, c, Q, D, cy, ad, A, kc, ks'⟩ := z
  exact fun ls H locs hl hP hS => lv_isub hz.1 hz.2.1 d (k ls H locs hl hP hS)
theorem g_imul (hz : ZOk z cc nL own fr lo) {x y : Int32} (d : decode cc pc = .ok (.imul, 1)) (k : G l z cc nL (pc + 1) L (.int (x * y) :: st) σ) : G l z cc nL pc L (.int y :: .int x :: st) σ := by
  obtain ⟨p, e, R, s, m, args, below, meth, c, Q, D, cy, ad, A, kc, ks'⟩ := z
  exact fun ls H locs hl hP hS => lv_imul hz.1 hz.2.1 d (k ls H locs hl hP hS)
theorem g_iand (hz : ZOk z cc nL own fr lo) {x y : Int32} (d : decode cc pc = .ok (.iand, 1)) (k : G l z cc nL (pc + 1) L (.int (x &&& y) :: st) σ) : G l z cc nL pc L (.int y :: .int x :: st) σ := by
  obtain ⟨p, e, R, s, m, args, below, meth, c, Q, D, cy, ad, A, kc, ks'⟩ := z
  exact fun ls H locs hl hP hS => lv_iand hz.1 hz.2.1 d (k ls H locs hl hP hS)
theorem g_ior (hz : ZOk z cc nL own fr lo) {x y : Int32} (d : decode cc pc = .ok (.ior, 1)) (k : G l z cc nL (pc + 1) L (.int (x ||| y) :: st) σ) : G l z cc nL pc L (.int y :: .int x :: st) σ := by
  obtain ⟨p, e, R, s, m, args, below, meth, c, Q, D, cy, ad, A, kc, ks'⟩ := z
  exact fun ls H locs hl hP hS => lv_ior hz.1 hz.2.1 d (k ls H locs hl hP hS)
theorem g_ixor (hz : ZOk z cc nL own fr lo) {x y : Int32} (d : decode cc pc = .ok (.ixor, 1)) (k : G l z cc nL (pc + 1) L (.int (x ^^^ y) :: st) σ) : G l z cc nL pc L (.int y :: .int x :: st) σ := by
  obtain ⟨p, e, R, s, m, args, below, meth, c, Q, D, cy, ad, A, kc, ks'⟩ := z
  exact fun ls H locs hl hP hS => lv_ixor hz.1 hz.2.1 d (k ls H locs hl hP hS)
theorem g_ishl (hz : ZOk z cc nL own fr lo) {x y : Int32} (d : decode cc pc = .ok (.ishl, 1)) (k : G l z cc nL (pc + 1) L (.int (x <<< (y &&& 31)) :: st) σ) : G l z cc nL pc L (.int y :: .int x :: st) σ := by
  obtain ⟨p, e, R, s, m, args, below, meth, c, Q, D, cy, ad, A, kc, ks'⟩ := z
  exact fun ls H locs hl hP hS => lv_ishl hz.1 hz.2.1 d (k ls H locs hl hP hS)
theorem g_ishr (hz : ZOk z cc nL own fr lo) {x y : Int32} (d : decode cc pc = .ok (.ishr, 1)) (k : G l z cc nL (pc + 1) L (.int (x >>> (y &&& 31)) :: st) σ) : G l z cc nL pc L (.int y :: .int x :: st) σ := by
  obtain ⟨p, e, R, s, m, args, below, meth, c, Q, D, cy, ad, A, kc, ks'⟩ := z
  exact fun ls H locs hl hP hS => lv_ishr hz.1 hz.2.1 d (k ls H locs hl hP hS)
theorem g_idiv (hz : ZOk z cc nL own fr lo) {x y : Int32} (d : decode cc pc = .ok (.idiv, 1)) (hne : ¬ y = 0) (k : G l z cc nL (pc + 1) L (.int (x / y) :: st) σ) : G l z cc nL pc L (.int y :: .int x :: st) σ := by
  obtain ⟨p, e, R, s, m, args, below, meth, c, Q, D, cy, ad, A, kc, ks'⟩ := z
  exact fun ls H locs hl hP hS => lv_idiv hz.1 hz.2.1 d hne (k ls H locs hl hP hS)
theorem g_ineg (hz : ZOk z cc nL own fr lo) {x : Int32} (d : decode cc pc = .ok (.ineg, 1)) (k : G l z cc nL (pc + 1) L (.int (-x) :: st) σ) : G l z cc nL pc L (.int x :: st) σ := by
  obtain ⟨p, e, R, s, m, args, below, meth, c, Q, D, cy, ad, A, kc, ks'⟩ := z
  exact fun ls H locs hl hP hS => lv_ineg hz.1 hz.2.1 d (k ls H locs hl hP hS)
theorem g_ladd (hz : ZOk z cc nL own fr lo) {x y : Int64} (d : decode cc pc = .ok (.ladd, 1)) (k : G l z cc nL (pc + 1) L (.long (x + y) :: st) σ) : G l z cc nL pc L (.long y :: .long x :: st) σ := by
  obtain ⟨p, e, R, s, m, args, below, meth, c, Q, D, cy, ad, A, kc, ks'⟩ := z
  exact fun ls H locs hl hP hS => lv_ladd hz.1 hz.2.1 d (k ls H locs hl hP hS)
theorem g_lsub (hz : ZOk z cc nL own fr lo) {x y : Int64} (d : decode cc pc = .ok (.lsub, 1)) (k : G l z cc nL (pc + 1) L (.long (x - y) :: st) σ) : G l z cc nL pc L (.long y :: .long x :: st) σ := by
  obtain ⟨p, e, R, s, m, args, below, meth, c, Q, D, cy, ad, A, kc, ks'⟩ := z
  exact fun ls H locs hl hP hS => lv_lsub hz.1 hz.2.1 d (k ls H locs hl hP hS)
theorem g_lmul (hz : ZOk z cc nL own fr lo) {x y : Int64} (d : decode cc pc = .ok (.lmul, 1)) (k : G l z cc nL (pc + 1) L (.long (x * y) :: st) σ) : G l z cc nL pc L (.long y :: .long x :: st) σ := by
  obtain ⟨p, e, R, s, m, args, below, meth, c, Q, D, cy, ad, A, kc, ks'⟩ := z
  exact fun ls H locs hl hP hS => lv_lmul hz.1 hz.2.1 d (k ls H locs hl hP hS)
theorem g_ldiv (hz : ZOk z cc nL own fr lo) {x y : Int64} (d : decode cc pc = .ok (.ldiv, 1)) (hne : ¬ y = 0) (k : G l z cc nL (pc + 1) L (.long (x / y) :: st) σ) : G l z cc nL pc L (.long y :: .long x :: st) σ := by
  obtain ⟨p, e, R, s, m, args, below, meth, c, Q, D, cy, ad, A, kc, ks'⟩ := z
  exact fun ls H locs hl hP hS => lv_ldiv hz.1 hz.2.1 d hne (k ls H locs hl hP hS)
theorem g_irem (hz : ZOk z cc nL own fr lo) {x y : Int32} (d : decode cc pc = .ok (.irem, 1)) (hne : ¬ y = 0) (k : G l z cc nL (pc + 1) L (.int (x - x / y * y) :: st) σ) : G l z cc nL pc L (.int y :: .int x :: st) σ := by
  obtain ⟨p, e, R, s, m, args, below, meth, c, Q, D, cy, ad, A, kc, ks'⟩ := z
  exact fun ls H locs hl hP hS => lv_irem hz.1 hz.2.1 d hne (k ls H locs hl hP hS)
theorem g_lrem (hz : ZOk z cc nL own fr lo) {x y : Int64} (d : decode cc pc = .ok (.lrem, 1)) (hne : ¬ y = 0) (k : G l z cc nL (pc + 1) L (.long (x - x / y * y) :: st) σ) : G l z cc nL pc L (.long y :: .long x :: st) σ := by
  obtain ⟨p, e, R, s, m, args, below, meth, c, Q, D, cy, ad, A, kc, ks'⟩ := z
  exact fun ls H locs hl hP hS => lv_lrem hz.1 hz.2.1 d hne (k ls H locs hl hP hS)
theorem g_iushr (hz : ZOk z cc nL own fr lo) {x y : Int32} (d : decode cc pc = .ok (.iushr, 1)) (k : G l z cc nL (pc + 1) L (.int ((x.toUInt32 >>> (y.toUInt32 &&& Int32.toUInt32 31)).toInt32) :: st) σ) : G l z cc nL pc L (.int y :: .int x :: st) σ := by
  obtain ⟨p, e, R, s, m, args, below, meth, c, Q, D, cy, ad, A, kc, ks'⟩ := z
  exact fun ls H locs hl hP hS => lv_iushr hz.1 hz.2.1 d rfl (k ls H locs hl hP hS)
theorem g_i2l (hz : ZOk z cc nL own fr lo) {x : Int32} (d : decode cc pc = .ok (.i2l, 1)) (k : G l z cc nL (pc + 1) L (.long x.toInt64 :: st) σ) : G l z cc nL pc L (.int x :: st) σ := by
  obtain ⟨p, e, R, s, m, args, below, meth, c, Q, D, cy, ad, A, kc, ks'⟩ := z
  exact fun ls H locs hl hP hS => lv_i2l hz.1 hz.2.1 d rfl (k ls H locs hl hP hS)
theorem g_lcmp (hz : ZOk z cc nL own fr lo) {x y : Int64} (d : decode cc pc = .ok (.lcmp, 1)) (k : G l z cc nL (pc + 1) L (.int (lg_cmp x y) :: st) σ) : G l z cc nL pc L (.long y :: .long x :: st) σ := by
  obtain ⟨p, e, R, s, m, args, below, meth, c, Q, D, cy, ad, A, kc, ks'⟩ := z
  exact fun ls H locs hl hP hS => W.lcmp hz.1 hz.2.1 d (k ls H locs hl hP hS)
theorem g_dup (hz : ZOk z cc nL own fr lo) {v : Value} (d : decode cc pc = .ok (.dup, 1)) (hv : v.category = 1) (k : G l z cc nL (pc + 1) L (v :: v :: st) σ) : G l z cc nL pc L (v :: st) σ := by
  obtain ⟨p, e, R, s, m, args, below, meth, c, Q, D, cy, ad, A, kc, ks'⟩ := z
  exact fun ls H locs hl hP hS => lv_dup hz.1 hz.2.1 d (by rw [vc_cat]; exact hv) (k ls H locs hl hP hS)
theorem g_dup2 (hz : ZOk z cc nL own fr lo) {v w : Value} (d : decode cc pc = .ok (.dup2, 1)) (hv : v.category = 1) (hw : w.category = 1) (k : G l z cc nL (pc + 1) L (v :: w :: v :: w :: st) σ) : G l z cc nL pc L (v :: w :: st) σ := by
  obtain ⟨p, e, R, s, m, args, below, meth, c, Q, D, cy, ad, A, kc, ks'⟩ := z
  exact fun ls H locs hl hP hS => lv_dup2_11 hz.1 hz.2.1 d (by rw [vc_cat]; exact hv) (by rw [vc_cat]; exact hw) (k ls H locs hl hP hS)
theorem g_pop (hz : ZOk z cc nL own fr lo) {v : Value} (d : decode cc pc = .ok (.pop, 1)) (hv : v.category = 1) (k : G l z cc nL (pc + 1) L st σ) : G l z cc nL pc L (v :: st) σ := by
  obtain ⟨p, e, R, s, m, args, below, meth, c, Q, D, cy, ad, A, kc, ks'⟩ := z
  exact fun ls H locs hl hP hS => lv_pop hz.1 hz.2.1 d (by rw [vc_cat]; exact hv) (k ls H locs hl hP hS)
theorem g_ifnonnull (hz : ZOk z cc nL own fr lo) {x : Nat} {off : Int} {tgt : Nat} (d : decode cc pc = .ok (.ifnonnull off, 3)) (ht : (pc : Int) + off = (tgt : Int)) (k : G l z cc nL tgt L st σ) : G l z cc nL pc L (.ref x :: st) σ := by
  obtain ⟨p, e, R, s, m, args, below, meth, c, Q, D, cy, ad, A, kc, ks'⟩ := z
  exact fun ls H locs hl hP hS => lv_ifnonnull hz.1 hz.2.1 d ht (k ls H locs hl hP hS)
theorem g_ifnull (hz : ZOk z cc nL own fr lo) {x : Nat} {off : Int} (d : decode cc pc = .ok (.ifnull off, 3)) (k : G l z cc nL (pc + 3) L st σ) : G l z cc nL pc L (.ref x :: st) σ := by
  obtain ⟨p, e, R, s, m, args, below, meth, c, Q, D, cy, ad, A, kc, ks'⟩ := z
  exact fun ls H locs hl hP hS => lv_ifnull hz.1 hz.2.1 d (k ls H locs hl hP hS)
theorem g_tin (hz : ZOk z cc nL own fr lo) {df a b : Int} {offs : Array Int} {len : Nat} {x x0 : Int32} {off : Int} {tgt : Nat} (d : decode cc pc = .ok (.tableswitch df a b offs, len)) (hx : x = x0) (h1 : ¬ x0.toInt < a) (h2 : ¬ b < x0.toInt) (ho : offs[(x0.toInt - a).toNat]? = some off) (ht : (pc : Int) + off = (tgt : Int)) (k : G l z cc nL tgt L st σ) : G l z cc nL pc L (.int x :: st) σ := by
  obtain ⟨p, e, R, s, m, args, below, meth, c, Q, D, cy, ad, A, kc, ks'⟩ := z
  subst hx
  exact fun ls H locs hl hP hS => lv_tableIn hz.1 hz.2.1 d h1 h2 ho ht (k ls H locs hl hP hS)
theorem g_tout (hz : ZOk z cc nL own fr lo) {df a b : Int} {offs : Array Int} {len : Nat} {x : Int32} {tgt : Nat} (d : decode cc pc = .ok (.tableswitch df a b offs, len)) (h : x.toInt < a ∨ b < x.toInt) (ht : (pc : Int) + df = (tgt : Int)) (k : G l z cc nL tgt L st σ) : G l z cc nL pc L (.int x :: st) σ := by
  obtain ⟨p, e, R, s, m, args, below, meth, c, Q, D, cy, ad, A, kc, ks'⟩ := z
  exact fun ls H locs hl hP hS => lv_tableOut hz.1 hz.2.1 d h ht (k ls H locs hl hP hS)
/-- the table's default: no listed number, or one whose place holds the default's offset -/
theorem g_tdf (hz : ZOk z cc nL own fr lo) {df a b : Int} {offs : Array Int} {len : Nat} {x : Int32} {tgt : Nat} (d : decode cc pc = .ok (.tableswitch df a b offs, len)) (h : ∀ i : Nat, i < (b - a + 1).toNat → x.toInt = a + i → offs[i]? = some df) (ht : (pc : Int) + df = (tgt : Int)) (k : G l z cc nL tgt L st σ) : G l z cc nL pc L (.int x :: st) σ := by
  by_cases h1 : x.toInt < a ∨ b < x.toInt
  · exact g_tout hz d h1 ht k
  · have h2 : ¬ x.toInt < a := fun q => h1 (Or.inl q)
    have h3 : ¬ b < x.toInt := fun q => h1 (Or.inr q)
    exact g_tin hz d rfl h2 h3 (h (x.toInt - a).toNat (by omega) (by omega)) ht k
theorem g_if_eq (hz : ZOk z cc nL own fr lo) {x : Int32} {off : Int} {tgt : Nat} (d : decode cc pc = .ok (.ifCond .eq off, 3)) (ht : (pc : Int) + off = (tgt : Int)) (kt : x = 0 → G l z cc nL tgt L st σ) (kf : ¬ x = 0 → G l z cc nL (pc + 3) L st σ) : G l z cc nL pc L (.int x :: st) σ := by
  obtain ⟨p, e, R, s, m, args, below, meth, c, Q, D, cy, ad, A, kc, ks'⟩ := z
  exact fun ls H locs hl hP hS => lv_if_eq hz.1 hz.2.1 d ht (fun q => kt q ls H locs hl hP hS) (fun q => kf q ls H locs hl hP hS)
theorem g_if_ne (hz : ZOk z cc nL own fr lo) {x : Int32} {off : Int} {tgt : Nat} (d : decode cc pc = .ok (.ifCond .ne off, 3)) (ht : (pc : Int) + off = (tgt : Int)) (kt : ¬ x = 0 → G l z cc nL tgt L st σ) (kf : x = 0 → G l z cc nL (pc + 3) L st σ) : G l z cc nL pc L (.int x :: st) σ := by
  obtain ⟨p, e, R, s, m, args, below, meth, c, Q, D, cy, ad, A, kc, ks'⟩ := z
  exact fun ls H locs hl hP hS => lv_if_ne hz.1 hz.2.1 d ht (fun q => kt q ls H locs hl hP hS) (fun q => kf q ls H locs hl hP hS)
theorem g_if_lt (hz : ZOk z cc nL own fr lo) {x : Int32} {off : Int} {tgt : Nat} (d : decode cc pc = .ok (.ifCond .lt off, 3)) (ht : (pc : Int) + off = (tgt : Int)) (kt : x < 0 → G l z cc nL tgt L st σ) (kf : ¬ x < 0 → G l z cc nL (pc + 3) L st σ) : G l z cc nL pc L (.int x :: st) σ := by
  obtain ⟨p, e, R, s, m, args, below, meth, c, Q, D, cy, ad, A, kc, ks'⟩ := z
  exact fun ls H locs hl hP hS => lv_if_lt hz.1 hz.2.1 d ht (fun q => kt q ls H locs hl hP hS) (fun q => kf q ls H locs hl hP hS)
theorem g_if_ge (hz : ZOk z cc nL own fr lo) {x : Int32} {off : Int} {tgt : Nat} (d : decode cc pc = .ok (.ifCond .ge off, 3)) (ht : (pc : Int) + off = (tgt : Int)) (kt : 0 ≤ x → G l z cc nL tgt L st σ) (kf : ¬ 0 ≤ x → G l z cc nL (pc + 3) L st σ) : G l z cc nL pc L (.int x :: st) σ := by
  obtain ⟨p, e, R, s, m, args, below, meth, c, Q, D, cy, ad, A, kc, ks'⟩ := z
  exact fun ls H locs hl hP hS => lv_if_ge hz.1 hz.2.1 d ht (fun q => kt q ls H locs hl hP hS) (fun q => kf q ls H locs hl hP hS)
theorem g_if_gt (hz : ZOk z cc nL own fr lo) {x : Int32} {off : Int} {tgt : Nat} (d : decode cc pc = .ok (.ifCond .gt off, 3)) (ht : (pc : Int) + off = (tgt : Int)) (kt : 0 < x → G l z cc nL tgt L st σ) (kf : ¬ 0 < x → G l z cc nL (pc + 3) L st σ) : G l z cc nL pc L (.int x :: st) σ := by
  obtain ⟨p, e, R, s, m, args, below, meth, c, Q, D, cy, ad, A, kc, ks'⟩ := z
  exact fun ls H locs hl hP hS => lv_if_gt hz.1 hz.2.1 d ht (fun q => kt q ls H locs hl hP hS) (fun q => kf q ls H locs hl hP hS)
theorem g_if_le (hz : ZOk z cc nL own fr lo) {x : Int32} {off : Int} {tgt : Nat} (d : decode cc pc = .ok (.ifCond .le off, 3)) (ht : (pc : Int) + off = (tgt : Int)) (kt : x ≤ 0 → G l z cc nL tgt L st σ) (kf : ¬ x ≤ 0 → G l z cc nL (pc + 3) L st σ) : G l z cc nL pc L (.int x :: st) σ := by
  obtain ⟨p, e, R, s, m, args, below, meth, c, Q, D, cy, ad, A, kc, ks'⟩ := z
  exact fun ls H locs hl hP hS => lv_if_le hz.1 hz.2.1 d ht (fun q => kt q ls H locs hl hP hS) (fun q => kf q ls H locs hl hP hS)
theorem g_icmp_eq (hz : ZOk z cc nL own fr lo) {x y : Int32} {off : Int} {tgt : Nat} (d : decode cc pc = .ok (.if_icmp .eq off, 3)) (ht : (pc : Int) + off = (tgt : Int)) (kt : x = y → G l z cc nL tgt L st σ) (kf : ¬ x = y → G l z cc nL (pc + 3) L st σ) : G l z cc nL pc L (.int y :: .int x :: st) σ := by
  obtain ⟨p, e, R, s, m, args, below, meth, c, Q, D, cy, ad, A, kc, ks'⟩ := z
  exact fun ls H locs hl hP hS => lv_icmp_eq hz.1 hz.2.1 d ht (fun q => kt q ls H locs hl hP hS) (fun q => kf q ls H locs hl hP hS)
theorem g_icmp_ne (hz : ZOk z cc nL own fr lo) {x y : Int32} {off : Int} {tgt : Nat} (d : decode cc pc = .ok (.if_icmp .ne off, 3)) (ht : (pc : Int) + off = (tgt : Int)) (kt : ¬ x = y → G l z cc nL tgt L st σ) (kf : x = y → G l z cc nL (pc + 3) L st σ) : G l z cc nL pc L (.int y :: .int x :: st) σ := by
  obtain ⟨p, e, R, s, m, args, below, meth, c, Q, D, cy, ad, A, kc, ks'⟩ := z
  exact fun ls H locs hl hP hS => lv_icmp_ne hz.1 hz.2.1 d ht (fun q => kt q ls H locs hl hP hS) (fun q => kf q ls H locs hl hP hS)
theorem g_icmp_lt (hz : ZOk z cc nL own fr lo) {x y : Int32} {off : Int} {tgt : Nat} (d : decode cc pc = .ok (.if_icmp .lt off, 3)) (ht : (pc : Int) + off = (tgt : Int)) (kt : x < y → G l z cc nL tgt L st σ) (kf : ¬ x < y → G l z cc nL (pc + 3) L st σ) : G l z cc nL pc L (.int y :: .int x :: st) σ := by
  obtain ⟨p, e, R, s, m, args, below, meth, c, Q, D, cy, ad, A, kc, ks'⟩ := z
  exact fun ls H locs hl hP hS => lv_icmp_lt hz.1 hz.2.1 d ht (fun q => kt q ls H locs hl hP hS) (fun q => kf q ls H locs hl hP hS)
theorem g_icmp_ge (hz : ZOk z cc nL own fr lo) {x y : Int32} {off : Int} {tgt : Nat} (d : decode cc pc = .ok (.if_icmp .ge off, 3)) (ht : (pc : Int) + off = (tgt : Int)) (kt : y ≤ x → G l z cc nL tgt L st σ) (kf : ¬ y ≤ x → G l z cc nL (pc + 3) L st σ) : G l z cc nL pc L (.int y :: .int x :: st) σ := by
  obtain ⟨p, e, R, s, m, args, below, meth, c, Q, D, cy, ad, A, kc, ks'⟩ := z
  exact fun ls H locs hl hP hS => lv_icmp_ge hz.1 hz.2.1 d ht (fun q => kt q ls H locs hl hP hS) (fun q => kf q ls H locs hl hP hS)
theorem g_icmp_gt (hz : ZOk z cc nL own fr lo) {x y : Int32} {off : Int} {tgt : Nat} (d : decode cc pc = .ok (.if_icmp .gt off, 3)) (ht : (pc : Int) + off = (tgt : Int)) (kt : y < x → G l z cc nL tgt L st σ) (kf : ¬ y < x → G l z cc nL (pc + 3) L st σ) : G l z cc nL pc L (.int y :: .int x :: st) σ := by
  obtain ⟨p, e, R, s, m, args, below, meth, c, Q, D, cy, ad, A, kc, ks'⟩ := z
  exact fun ls H locs hl hP hS => lv_icmp_gt hz.1 hz.2.1 d ht (fun q => kt q ls H locs hl hP hS) (fun q => kf q ls H locs hl hP hS)
theorem g_icmp_le (hz : ZOk z cc nL own fr lo) {x y : Int32} {off : Int} {tgt : Nat} (d : decode cc pc = .ok (.if_icmp .le off, 3)) (ht : (pc : Int) + off = (tgt : Int)) (kt : x ≤ y → G l z cc nL tgt L st σ) (kf : ¬ x ≤ y → G l z cc nL (pc + 3) L st σ) : G l z cc nL pc L (.int y :: .int x :: st) σ := by
  obtain ⟨p, e, R, s, m, args, below, meth, c, Q, D, cy, ad, A, kc, ks'⟩ := z
  exact fun ls H locs hl hP hS => lv_icmp_le hz.1 hz.2.1 d ht (fun q => kt q ls H locs hl hP hS) (fun q => kf q ls H locs hl hP hS)
/-- an int array's length, a read, a write -/
theorem g_alen (hz : ZOk z cc nL own fr lo) {o : Nat} {v : Int32} (ho : iA o) (hv : Int32.ofNat (aL o) = v) (d : decode cc pc = .ok (.arraylength, 1)) (k : G l z cc nL (pc + 1) L (.int v :: st) σ) : G l z cc nL pc L (.ref o :: st) σ := by
  obtain ⟨p, e, R, s, m, args, below, meth, c, Q, D, cy, ad, A, kc, ks'⟩ := z
  exact fun ls H locs hl hP hS => va_alen hz.1 hz.2.1 hz.2.2.2.2.2.2.2.2.2.1.1 hP o 0 (by rw [wl_at (iA_lt ho), wE_A ho]) rfl hv d (k ls H locs hl hP hS)
theorem g_iald (hz : ZOk z cc nL own fr lo) {o : Nat} {i : Int32} (ho : iA o) (hi : vp_in i (aL o)) (d : decode cc pc = .ok (.iaload, 1)) (k : G l z cc nL (pc + 1) L (.int (σ o i.toNatClampNeg) :: st) σ) : G l z cc nL pc L (.int i :: .ref o :: st) σ := by
  obtain ⟨p, e, R, s, m, args, below, meth, c, Q, D, cy, ad, A, kc, ks'⟩ := z
  exact fun ls H locs hl hP hS => va_iald hz.1 hz.2.1 hz.2.2.2.2.2.2.2.2.2.1.1 hP o 0 (by rw [wl_at (iA_lt ho), wE_A ho]) rfl hi d (k ls H locs hl hP hS)
theorem g_iast (hz : ZOk z cc nL own fr lo) {o : Nat} {i x : Int32} (ho : iA o) (hi : vp_in i (aL o)) (d : decode cc pc = .ok (.iastore, 1)) (k : ∀ σ1 : Mm, σ1 = mU σ o i.toNatClampNeg x → G l z cc nL (pc + 1) L st σ1) : G l z cc nL pc L (.int x :: .int i :: .ref o :: st) σ := by
  obtain ⟨p, e, R, s, m, args, below, meth, c, Q, D, cy, ad, A, kc, ks'⟩ := z
  intro ls H locs hl hP hS
  refine va_iast hz.1 hz.2.1 hz.2.2.2.2.2.2.2.2.2.1.1 hP (wl_D hz.2.2.2.2.2.2.2.2.2.2.1 hz.2.2.2.2.2.2.2.2.2.2.2) hS o 0 (by rw [wl_at (iA_lt ho), wE_A ho]) rfl hi d (fun H1 locs1 hP1 _ hS1 => ?_)
  rw [wl_set (iA_lt ho) (wE_A ho)] at hP1
  exact k _ rfl ls H1 locs1 hl hP1 hS1
theorem g_alenF (hz : ZOk z cc nL own fr lo) {o : Nat} (ho : iC o) (d : decode cc pc = .ok (.arraylength, 1)) (k : G l z cc nL (pc + 1) L (.int 6 :: st) σ) : G l z cc nL pc L (.ref (11 + o) :: st) σ := by
  obtain ⟨p, e, R, s, m, args, below, meth, c, Q, D, cy, ad, A, kc, ks'⟩ := z
  exact fun ls H locs hl hP hS => va_alen (x := (6, .inr (.inr (.inr (.inr (fun k => some (ad (33 + 7 * o + k)))))))) (v := 6) hz.1 hz.2.1 hz.2.2.2.2.2.2.2.2.2.1.1 hP (11 + o) 1 (by rw [wl_at (by have h : o < 11 := ho; omega), wE_FR ho]) rfl rfl d (k ls H locs hl hP hS)
theorem g_alenG (hz : ZOk z cc nL own fr lo) {o : Nat} (ho : iC o) (d : decode cc pc = .ok (.arraylength, 1)) (k : G l z cc nL (pc + 1) L (.int 4 :: st) σ) : G l z cc nL pc L (.ref (22 + o) :: st) σ := by
  obtain ⟨p, e, R, s, m, args, below, meth, c, Q, D, cy, ad, A, kc, ks'⟩ := z
  exact fun ls H locs hl hP hS => va_alen (x := (4, .inr (.inr (.inr (.inr (fun k => some (ad (110 + 5 * o + k)))))))) (v := 4) hz.1 hz.2.1 hz.2.2.2.2.2.2.2.2.2.1.1 hP (22 + o) 2 (by rw [wl_at (by have h : o < 11 := ho; omega), wE_GR ho]) rfl rfl d (k ls H locs hl hP hS)
theorem g_alenC (hz : ZOk z cc nL own fr lo) (d : decode cc pc = .ok (.arraylength, 1)) (k : G l z cc nL (pc + 1) L (.int 8 :: st) σ) : G l z cc nL pc L (.ref 168 :: st) σ := by
  obtain ⟨p, e, R, s, m, args, below, meth, c, Q, D, cy, ad, A, kc, ks'⟩ := z
  exact fun ls H locs hl hP hS => va_alen hz.1 hz.2.1 hz.2.2.2.2.2.2.2.2.2.1.1 hP 168 3 (wl_at (by decide)) rfl rfl d (k ls H locs hl hP hS)
theorem g_aaldF (hz : ZOk z cc nL own fr lo) {o : Nat} {i : Int32} (ho : iC o) (hi : vp_in i 6) (d : decode cc pc = .ok (.aaload, 1)) (k : G l z cc nL (pc + 1) L (.ref (33 + 7 * o + i.toNatClampNeg) :: st) σ) : G l z cc nL pc L (.int i :: .ref (11 + o) :: st) σ := by
  obtain ⟨p, e, R, s, m, args, below, meth, c, Q, D, cy, ad, A, kc, ks'⟩ := z
  exact fun ls H locs hl hP hS => va_aldq (C := R_F) (n := 6) (f := fun k => some (ad (33 + 7 * o + k))) hz.1 hz.2.1 hz.2.2.2.2.2.2.2.2.2.1.1 hP (11 + o) 1 (by rw [wl_at (by have h : o < 11 := ho; omega), wE_FR ho]) rfl hi d (k ls H locs hl hP hS)
theorem g_aaldG (hz : ZOk z cc nL own fr lo) {o : Nat} {i : Int32} (ho : iC o) (hi : vp_in i 4) (d : decode cc pc = .ok (.aaload, 1)) (k : G l z cc nL (pc + 1) L (.ref (110 + 5 * o + i.toNatClampNeg) :: st) σ) : G l z cc nL pc L (.int i :: .ref (22 + o) :: st) σ := by
  obtain ⟨p, e, R, s, m, args, below, meth, c, Q, D, cy, ad, A, kc, ks'⟩ := z
  exact fun ls H locs hl hP hS => va_aldq (C := R_G) (n := 4) (f := fun k => some (ad (110 + 5 * o + k))) hz.1 hz.2.1 hz.2.2.2.2.2.2.2.2.2.1.1 hP (22 + o) 2 (by rw [wl_at (by have h : o < 11 := ho; omega), wE_GR ho]) rfl hi d (k ls H locs hl hP hS)
theorem g_aaldC (hz : ZOk z cc nL own fr lo) {i : Int32} (hi : vp_in i 8) (d : decode cc pc = .ok (.aaload, 1)) (k : G l z cc nL (pc + 1) L (.ref (3 + i.toNatClampNeg) :: st) σ) : G l z cc nL pc L (.int i :: .ref 168 :: st) σ := by
  obtain ⟨p, e, R, s, m, args, below, meth, c, Q, D, cy, ad, A, kc, ks'⟩ := z
  exact fun ls H locs hl hP hS => va_aldq (C := R_C) (n := 8) (f := fun k => some (ad (3 + k))) hz.1 hz.2.1 hz.2.2.2.2.2.2.2.2.2.1.1 hP 168 3 (wl_at (by decide)) rfl hi d (k ls H locs hl hP hS)
/-- a field's read, a write of a number -/
theorem g_get (hz : ZOk z cc nL own fr lo) {o k N ci ix : Nat} {C : String} {T : u_T} {v : Value} (ho : o < 196) (hin : ∀ w ∈ u_ws C T N, w ∈ tbG) (hc : wCls[ci]? = some (C, T, N)) (he : ∀ (cy : Cy) (ad : Nat → Nat), ∃ fs, wE cy ad (σ o) o = .inr (ci, fs) ∧ fs[k]? = some (vc ad v)) (hk : k < N) (hC : (T k).1 = C) (lk : Cond.fieldLink own ix C (T k).2.1 (T k).2.2.1 ∈ tbG) (d : decode cc pc = .ok (.getfield ix, 3)) (kk : G l z cc nL (pc + 3) L (v :: st) σ) : G l z cc nL pc L (.ref o :: st) σ := by
  obtain ⟨p, e, R, s, m, args, below, meth, c, Q, D, cy, ad, A, kc, ks'⟩ := z
  obtain ⟨fs, h1, h2⟩ := he cy ad
  exact fun ls H locs hl hP hS => va_get hz.1 hz.2.1 hz.2.2.2.2.1 hin hz.2.2.2.1 hz.2.2.2.2.2.2.2.2.2.1.1 hP o (by rw [wl_at ho, h1]) hc k hk (hz.2.2.2.2.1 _ lk) (fun x hx => by rw [hC] at hx; exact hx) h2 d (kk ls H locs hl hP hS)
theorem g_put (hz : ZOk z cc nL own fr lo) {o k N ci ix : Nat} {C : String} {T : u_T} {ty0 : Nat → FieldType} {ty : FieldType} {v : Int32} (ho : o < 196) (hin : ∀ w ∈ u_ws C T N, w ∈ tbG) (hty : ∀ k, k < N → parseFieldDescriptor (T k).2.2.1 = some (ty0 k)) (hnm : ∀ a, a < N → ∀ b, b < N → a ≠ b → (T a).2.1 ≠ (T b).2.1) (hc : wCls[ci]? = some (C, T, N)) (he : ∀ (cy : Cy) (ad : Nat → Nat), ∃ fs, wE cy ad (σ o) o = .inr (ci, fs) ∧ wE cy ad (upd (σ o) k v) o = .inr (ci, fs.set k (.int v)) ∧ k < fs.length) (hk : k < N) (hC : (T k).1 = C) (hfin : (T k).2.2.2 = false) (hd : parseFieldDescriptor (T k).2.2.1 = some ty) (hnar : narrow ty (.int v) = .int v) (hfit : fits ty (.int v) = true) (lk : Cond.fieldLink own ix C (T k).2.1 (T k).2.2.1 ∈ tbG) (d : decode cc pc = .ok (.putfield ix, 3)) (kk : ∀ σ1 : Mm, σ1 = mU σ o k v → G l z cc nL (pc + 3) L st σ1) : G l z cc nL pc L (.int v :: .ref o :: st) σ := by
  obtain ⟨p, e, R, s, m, args, below, meth, c, Q, D, cy, ad, A, kc, ks'⟩ := z
  obtain ⟨fs, h1, h2, h3⟩ := he cy ad
  intro ls H locs hl hP hS
  refine va_put hz.1 hz.2.1 hz.2.2.2.2.1 hin ty0 hty hnm hz.2.2.2.1 hz.2.2.2.2.2.2.2.2.2.1.1 hP (wl_D hz.2.2.2.2.2.2.2.2.2.2.1 hz.2.2.2.2.2.2.2.2.2.2.2) hS o (by rw [wl_at ho, h1]) hc k hk (hz.2.2.2.2.1 _ lk) (fun x hx => by rw [hC] at hx; exact hx) hfin hd hnar hfit h3 d (fun H1 locs1 hP1 _ hS1 => ?_)
  have hP1 : va_P D wCls ((wl cy ad σ).set o (ad o, .inr (ci, fs.set k (.int v)))) H1 := hP1
  rw [wl_set ho h2] at hP1
  exact kk _ rfl ls H1 locs1 hl hP1 hS1
/-- ends -/
theorem g_iret (hz : ZOk z cc nL own fr lo) {v : Int32} (hr : ZR z (some .int) σ (some (.int v))) (d : decode cc pc = .ok (.ireturn, 1)) : G l z cc nL pc L [.int v] σ := by
  obtain ⟨p, e, R, s, m, args, below, meth, c, Q, D, cy, ad, A, kc, ks'⟩ := z
  obtain ⟨hr, rfl, rfl⟩ := hr
  exact fun ls H locs hl hP hS => W.iret hz.1 hz.2.1 hr (fun t ht hW => ⟨⟨rfl, by rw [ht]; exact hP⟩, hS.F ht⟩) hS.2.2 d hz.2.2.2.2.2.1
theorem g_zret (hz : ZOk z cc nL own fr lo) {v : Int32} (hr : ZR z (some .boolean) σ (some (.int v))) (hv : v = 0 ∨ v = 1) (d : decode cc pc = .ok (.ireturn, 1)) : G l z cc nL pc L [.int v] σ := by
  obtain ⟨p, e, R, s, m, args, below, meth, c, Q, D, cy, ad, A, kc, ks'⟩ := z
  obtain ⟨hr, rfl, rfl⟩ := hr
  exact fun ls H locs hl hP hS => W.zret hz.1 hz.2.1 hr (by rcases hv with rfl | rfl <;> rfl) (fun t ht hW => ⟨⟨rfl, by rw [ht]; exact hP⟩, hS.F ht⟩) hS.2.2 d hz.2.2.2.2.2.1
theorem g_lret (hz : ZOk z cc nL own fr lo) {v : Int64} (hr : ZR z (some .long) σ (some (.long v))) (d : decode cc pc = .ok (.lreturn, 1)) : G l z cc nL pc L [.long v] σ := by
  obtain ⟨p, e, R, s, m, args, below, meth, c, Q, D, cy, ad, A, kc, ks'⟩ := z
  obtain ⟨hr, rfl, rfl⟩ := hr
  exact fun ls H locs hl hP hS => W.lret hz.1 hz.2.1 hr (fun t ht hW => ⟨⟨rfl, by rw [ht]; exact hP⟩, hS.F ht⟩) hS.2.2 d hz.2.2.2.2.2.1
theorem g_aret (hz : ZOk z cc nL own fr lo) {v : Nat} {n : String} (hr : ZR z (some (.object n)) σ (some (.ref v))) (d : decode cc pc = .ok (.areturn, 1)) : G l z cc nL pc L [.ref v] σ := by
  obtain ⟨p, e, R, s, m, args, below, meth, c, Q, D, cy, ad, A, kc, ks'⟩ := z
  obtain ⟨hr, rfl, rfl⟩ := hr
  exact fun ls H locs hl hP hS => W.aret hz.1 hz.2.1 hr (Or.inl ⟨_, rfl⟩) (Or.inr ⟨_, rfl⟩) (fun t ht hW => ⟨⟨rfl, by rw [ht]; exact hP⟩, hS.F ht⟩) hS.2.2 d hz.2.2.2.2.2.1
theorem g_vret (hz : ZOk z cc nL own fr lo) (hr : ZR z none σ none) (d : decode cc pc = .ok (.return_, 1)) : G l z cc nL pc L [] σ := by
  obtain ⟨p, e, R, s, m, args, below, meth, c, Q, D, cy, ad, A, kc, ks'⟩ := z
  obtain ⟨hr, rfl, rfl⟩ := hr
  exact fun ls H locs hl hP hS => W.vret hz.1 hz.2.1 hr (fun t ht hW => ⟨⟨rfl, by rw [ht]; exact hP⟩, hS.F ht⟩) hS.2.2 d hz.2.2.2.2.2.1
/-- calls -/
def MV (y : MethodName) (bytes : ByteArray) (maxL : Nat) (ret : Option FieldType) (n : Nat) : Prop := Cond.code y bytes maxL ret ∈ tbG ∧ Cond.initialized y.cls ∈ tbG ∧ (y.cls ≠ "java/lang/invoke/MethodHandle" ∧ y.cls ≠ "java/lang/invoke/VarHandle" ∧ (parseMethodDescriptor y.desc).map (fun d => d.parameters.length) = some n)
theorem pc_blind (as : List Value) (D : va_G) (cy : Cy) (ad : Nat → Nat) (σ : Mm) : FrameBlind (va_Pc as (fun U => va_P D wCls (wl cy ad σ) U.heap ∧ KU D cy U)) := fun a U g mk h => ⟨h.1, h.2.1, KU.blind (s := U) (U := U.calling g mk a) rfl h.2.2⟩
/-- what a run of a call gives -/
theorem g_run {p : Program} {e : Env} {R : Room} {s : State} {m : MethodId} {args : Array Value} {below : List Frame} {meth : Method} {c : Code} {Q : State → Prop} {D : va_G} {cy : Cy} {ad : Nat → Nat} {A : Nat → Prop} {kc kn : Nat} {ls : Array Slot} {H : Heap} {locs : List Loc} {stk : List Value} {σ' : Mm} {r : Option Value} {a : Array Value} (hA : ∀ q, Aad ad q → A q)
    (hS : va_S A s.heap H locs) (hl : lv_has ls nL (lc ad L)) (hr : va_Run p l e R s m args below meth c H locs kc kn 0 0 (F0 m pc ls stk) (st.map (vc ad)) (mQ D cy ad σ' r a) (Aad ad)) (kk : G l (p, e, R, s, m, args, below, meth, c, Q, D, cy, ad, A, kc, kn) cc nL (pc + 3) L (r.toList ++ st) σ') : W p l e R s m args below meth c H locs kc kn Q (F0 m pc ls stk) := by
  intro T hT X
  obtain ⟨v, st₀, t, T', L1, h0, X', hL, e1, e2, ⟨⟨hv, hP'⟩, hz, hk⟩, sti⟩ := hr T hT X
  cases hv
  rw [h0] at hz hk
  have hP1 : va_P D wCls (wl cy ad σ') T'.heap := by rw [e1]; exact hP'
  have hS1 : va_S A s.heap T'.heap (locs ++ L1) := ⟨Nat.le_trans hS.1 (by rw [e1]; exact hz), fun q h1 h2 => by rw [e1, hk q (Nat.lt_of_lt_of_le h1 hS.1) (fun z => h2 (hA q z))]; exact hS.2.1 q h1 h2, fun q hq => by
      rcases List.mem_append.mp hq with h | h
      · exact hS.2.2 q h
      · exact hA _ (hL q h)⟩
  obtain ⟨t2, a1, b1⟩ := kk ls T'.heap (locs ++ L1) hl hP1 hS1 T' rfl X'
  refine ⟨t2, sti t2 ?_, b1⟩
  rw [List.map_append] at a1
  have e3 : r.toList.map (vc ad) = (r.map (vc ad)).toList := by cases r <;> rfl
  rw [e3] at a1
  exact a1
theorem g_callV (hz : ZOk z cc nL own fr lo) {y : MethodName} {bytes : ByteArray} {maxL : Nat} {ret : Option FieldType} {fr' lo' n b ci ix : Nat} {as stk : List Value} {r : Option Value} {σ' : Mm} {q : vw_C} (hM : Cm l y bytes maxL ret fr' lo' (.ref b :: as) σ σ' r) (hb : b < 196) (he : ∀ (cy : Cy) (ad : Nat → Nat), ∃ fs, wE cy ad (σ b) b = .inr (ci, fs)) (hc : wCls[ci]? = some q) (hq : q.1 = y.cls) (mm : MV y bytes maxL ret n) (hi : Cond.instanceMethod y ∈ tbG) (hs : Cond.selects y.cls y y ∈ tbG) (lk : Cond.methodLink own ix y ∈ tbG) (hR : fr' + 1 ≤ fr ∧ 8 + (maxL + 11) + lo' ≤ lo) (hn : as.length = n) (hst : stk = as.reverse ++ .ref b :: st) (hW : (st.map fun v => v.category).sum ≤ 8) (d : decode cc pc = .ok (.invokevirtual ix, 3)) (kk : G l z cc nL (pc + 3) L (r.toList ++ st) σ') : G l z cc nL pc L stk σ := by
  obtain ⟨p, e, R, s, m, args, below, meth, c, Q, D, cy, ad, A, kc, ks'⟩ := z
  obtain ⟨hx, hb0, hml, hown, hts, hlk, rfl, rfl, hroom, hK, hI, hA⟩ := hz
  intro ls H locs hl hP hS
  obtain ⟨fs, h1⟩ := he cy ad
  obtain ⟨m1, m2, m3⟩ := mm
  have hrec := va_recv hK.1 hP (ci := ci) (q0 := b) (a := ad b) (fs := fs) hc (by rw [wl_at hb, h1])
  refine g_run (a := (Value.ref (ad b) :: as.map (vc ad)).toArray) (σ' := σ') (r := r) hA hS hl ?_ kk
  exact va_runV (As := as.map (vc ad)) (b := ad b) (C := y.cls) (rest := st.map (vc ad)) (nL := nL) ⟨hx, hb0, hml, hown, hts⟩ (hM D cy ad hI) ⟨callB_of n hts (giG m1) rfl rfl rfl (hts _ m2) (hts _ lk) m3 hR, hts _ hi, hts _ hs⟩
    ⟨pc_blind _ _ _ _ _, hq ▸ hrec, fun U hU hW1 => ⟨rfl, by rw [hU]; exact hP, hK.warm hW1⟩⟩ rfl (by rw [List.length_map]; exact hn) hl.1 (by rw [hst]; simp [vc, List.map_reverse]) (lv_room (by rw [vc_cats]; exact hW)) d ⟨hroom.1, hroom.2⟩
theorem g_callVN (hz : ZOk z cc nL own fr lo) {y : MethodName} {bytes : ByteArray} {maxL : Nat} {ret : Option FieldType} {fr' lo' n b ci ix : Nat} {host : String} {as stk : List Value} {r : Option Value} {σ' : Mm} {q : vw_C} (hM : Cm l y bytes maxL ret fr' lo' (.ref b :: as) σ σ' r) (hb : b < 196) (he : ∀ (cy : Cy) (ad : Nat → Nat), ∃ fs, wE cy ad (σ b) b = .inr (ci, fs)) (hc : wCls[ci]? = some q) (hq : q.1 = y.cls) (mm : MV y bytes maxL ret n) (hi : Cond.instanceMethod y ∈ tbG) (hs : Cond.selects y.cls y y ∈ tbG) (lk : ∀ (D : va_G) (cy : Cy) (s : State), KU D cy s → va_Nw (.methodLinkNest own ix y host) s) (hR : fr' + 1 ≤ fr ∧ 8 + (maxL + 11) + lo' ≤ lo) (hn : as.length = n) (hst : stk = as.reverse ++ .ref b :: st) (hW : (st.map fun v => v.category).sum ≤ 8) (d : decode cc pc = .ok (.invokevirtual ix, 3)) (kk : G l z cc nL (pc + 3) L (r.toList ++ st) σ') : G l z cc nL pc L stk σ := by
  obtain ⟨p, e, R, s, m, args, below, meth, c, Q, D, cy, ad, A, kc, ks'⟩ := z
  obtain ⟨hx, hb0, hml, hown, hts, hlk, rfl, rfl, hroom, hK, hI, hA⟩ := hz
  intro ls H locs hl hP hS
  obtain ⟨fs, h1⟩ := he cy ad
  obtain ⟨m1, m2, m3⟩ := mm
  have hrec := va_recv hK.1 hP (ci := ci) (q0 := b) (a := ad b) (fs := fs) hc (by rw [wl_at hb, h1])
  refine g_run (a := (Value.ref (ad b) :: as.map (vc ad)).toArray) (σ' := σ') (r := r) hA hS hl ?_ kk
  exact va_runVN (As := as.map (vc ad)) (b := ad b) (C := y.cls) (rest := st.map (vc ad)) (nL := nL) ⟨hx, hb0, hml, hown, hts⟩ (hM D cy ad hI) ⟨va_cnB n hts (giG m1) rfl rfl rfl (lk D cy s hK) (hts _ m2) m3 hR, hts _ hi, hts _ hs⟩
    ⟨pc_blind _ _ _ _ _, hq ▸ hrec, fun U hU hW1 => ⟨rfl, by rw [hU]; exact hP, hK.warm hW1⟩⟩ rfl (by rw [List.length_map]; exact hn) hl.1 (by rw [hst]; simp [vc, List.map_reverse]) (lv_room (by rw [vc_cats]; exact hW)) d ⟨hroom.1, hroom.2⟩
theorem g_callS (hz : ZOk z cc nL own fr lo) {y : MethodName} {bytes : ByteArray} {maxL : Nat} {ret : Option FieldType} {fr' lo' n ix : Nat} {as stk : List Value} {r : Option Value} {σ' : Mm} (hM : Cm l y bytes maxL ret fr' lo' as σ σ' r) (mm : MV y bytes maxL ret n) (hi : Cond.static y ∈ tbG) (lk : Cond.methodLink own ix y ∈ tbG) (hR : fr' + 1 ≤ fr ∧ 8 + (maxL + 11) + lo' ≤ lo) (hn : as.length = n) (hst : stk = as.reverse ++ st) (hW : (st.map fun v => v.category).sum ≤ 8) (d : decode cc pc = .ok (.invokestatic ix, 3)) (kk : G l z cc nL (pc + 3) L (r.toList ++ st) σ') : G l z cc nL pc L stk σ := by
  obtain ⟨p, e, R, s, m, args, below, meth, c, Q, D, cy, ad, A, kc, ks'⟩ := z
  obtain ⟨hx, hb0, hml, hown, hts, hlk, rfl, rfl, hroom, hK, hI, hA⟩ := hz
  intro ls H locs hl hP hS
  obtain ⟨m1, m2, m3⟩ := mm
  refine g_run (a := (as.map (vc ad)).toArray) (σ' := σ') (r := r) hA hS hl ?_ kk
  exact va_runS (As := as.map (vc ad)) (rest := st.map (vc ad)) (nL := nL) ⟨hx, hb0, hml, hown, hts⟩ (hM D cy ad hI) ⟨callB_of n hts (giG m1) rfl rfl rfl (hts _ m2) (hts _ lk) m3 hR, hts _ hi⟩
    ⟨pc_blind _ _ _ _ _, fun U hU hW1 => ⟨rfl, by rw [hU]; exact hP, hK.warm hW1⟩⟩ rfl (by rw [List.length_map]; exact hn) hl.1 (by rw [hst]; simp [List.map_reverse]) (lv_room (by rw [vc_cats]; exact hW)) d ⟨hroom.1, hroom.2⟩
theorem g_callSN (hz : ZOk z cc nL own fr lo) {y : MethodName} {bytes : ByteArray} {maxL : Nat} {ret : Option FieldType} {fr' lo' n ix : Nat} {host : String} {as stk : List Value} {r : Option Value} {σ' : Mm} (hM : Cm l y bytes maxL ret fr' lo' as σ σ' r) (mm : MV y bytes maxL ret n) (hi : Cond.static y ∈ tbG) (lk : ∀ (D : va_G) (cy : Cy) (s : State), KU D cy s → va_Nw (.methodLinkNest own ix y host) s) (hR : fr' + 1 ≤ fr ∧ 8 + (maxL + 11) + lo' ≤ lo) (hn : as.length = n) (hst : stk = as.reverse ++ st) (hW : (st.map fun v => v.category).sum ≤ 8) (d : decode cc pc = .ok (.invokestatic ix, 3)) (kk : G l z cc nL (pc + 3) L (r.toList ++ st) σ') : G l z cc nL pc L stk σ := by
  obtain ⟨p, e, R, s, m, args, below, meth, c, Q, D, cy, ad, A, kc, ks'⟩ := z
  obtain ⟨hx, hb0, hml, hown, hts, hlk, rfl, rfl, hroom, hK, hI, hA⟩ := hz
  intro ls H locs hl hP hS
  obtain ⟨m1, m2, m3⟩ := mm
  refine g_run (a := (as.map (vc ad)).toArray) (σ' := σ') (r := r) hA hS hl ?_ kk
  exact va_runSN (As := as.map (vc ad)) (rest := st.map (vc ad)) (nL := nL) ⟨hx, hb0, hml, hown, hts⟩ (hM D cy ad hI) ⟨va_cnB n hts (giG m1) rfl rfl rfl (lk D cy s hK) (hts _ m2) m3 hR, hts _ hi, trivial⟩
    ⟨pc_blind _ _ _ _ _, fun U hU hW1 => ⟨rfl, by rw [hU]; exact hP, hK.warm hW1⟩⟩ rfl (by rw [List.length_map]; exact hn) hl.1 (by rw [hst]; simp [List.map_reverse]) (lv_room (by rw [vc_cats]; exact hW)) d ⟨hroom.1, hroom.2⟩
end ROWS
