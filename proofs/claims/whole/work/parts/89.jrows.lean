/-! constructors: the machine over a list of cells -/
abbrev Zj : Type := Program × Env × Room × State × MethodId × Array Value × List Frame × Method × Code × (State → Prop) × va_G × (Nat → Prop)
def J (l : Launch) (z : Zj) (cc : ByteArray) (nL pc : Nat) (L : List (Nat × Value)) (st : List Value) (ws : va_W) (k n : Nat) : Prop := match z with
  | (p, e, R, s, m, args, below, meth, c, Q, D, A) => ∀ (ls : Array Slot) (H : Heap) (locs : List Loc), lv_has ls nL L → va_P D wCls ws H → va_D A ws → va_S A s.heap H locs → W p l e R s m args below meth c H locs k n Q (F0 m pc ls st)
def KI (D : va_G) (cy : Cy) (s : State) : Prop := KU D cy s ∧ va_AO R_F s ∧ va_AO R_G s ∧ va_AO R_C s
theorem KI.warm {D : va_G} {cy : Cy} {s U : State} (hW : s.WarmedH U.vm) (h : KI D cy s) : KI D cy U := ⟨h.1.warm hW, h.2.1.moved hW.alike, h.2.2.1.moved hW.alike, h.2.2.2.moved hW.alike⟩
theorem KI.blind {D : va_G} {cy : Cy} {s U : State} (hv : s.vm = U.vm) (h : KI D cy s) : KI D cy U := ⟨h.1.blind hv, h.2.1.moved (by rw [hv]; exact Vm.Alike.refl U.vm), h.2.2.1.moved (by rw [hv]; exact Vm.Alike.refl U.vm), h.2.2.2.moved (by rw [hv]; exact Vm.Alike.refl U.vm)⟩
def JOk (z : Zj) (cy : Cy) (cc : ByteArray) (nL : Nat) (own : String) (fr kc kn lo : Nat) : Prop := match z with
  | (p, _, R, s, m, args, _, meth, c, _, D, A) => p.tables.exec = Jvm.exec ∧ c.code = cc ∧ c.maxLocals = nL ∧ s.vm.findClass own = some m.cls ∧ (∀ w ∈ tbG, w.before args s = true) ∧ meth.locks = false ∧ R.frames = fr ∧ R.cells = kc ∧ R.slots = kn ∧ R.locals = lo ∧ KI D cy s ∧ (∀ q, s.heap.size ≤ q → A q)
def JIn (z : Zj) : Prop := match z with
  | (_, _, _, _, _, _, _, meth, _, _, _, _) => meth.name = "<init>"
def JR (z : Zj) (cy : Cy) (fs : va_W) (P : Cy → va_W → Prop) (kc kn : Nat) : Prop := match z with
  | (_, _, _, s, _, args, below, meth, _, Q, D, A) => meth.sig.returnType = none ∧ A = va_A fs s.heap.size ∧ Q = MQ below (va_Qv (S := va_W) (P cy) (fun w t => va_P D wCls w t.heap ∧ va_D A w) A) args s kc kn A
def CI (l : Launch) (y : MethodName) (cc : ByteArray) (maxL fr kc kn lo : Nat) (as : List Value) (fs : va_W) (P : Cy → va_W → Prop) : Prop :=
  ∀ (D : va_G) (cy : Cy) (sz : Nat), Met l y (.code y cc maxL none :: tbG) ({ frames := fr, cells := kc, slots := kn, locals := lo }) (va_Pc as (fun U => U.heap.size = sz ∧ va_P D wCls fs U.heap ∧ KI D cy U ∧ va_D (fun _ => True) fs)) (va_Qv (S := va_W) (P cy) (fun w t => va_P D wCls w t.heap ∧ va_D (va_A fs sz) w) (va_A fs sz)) kc kn (va_A fs sz)
theorem CI.of {l : Launch} {y : MethodName} {cc : ByteArray} {maxL fr kc kn lo : Nat} {as : List Value} {fs : va_W} {P : Cy → va_W → Prop} {own : String} (hy : plainName y.cls = true) (ho : y.cls = own) (hn : (lg_sl as).length ≤ maxL)
    (body : ∀ (z : Zj) (cy : Cy), JOk z cy cc maxL own fr kc kn lo → JR z cy fs P kc kn → (y.name = "<init>" → JIn z) → J l z cc maxL 0 (lv_args 0 as) [] fs 0 0) : CI l y cc maxL fr kc kn lo as fs P := by
  intro D cy sz
  refine Met.ofW (cc := cc) (maxL := maxL) (ret := none) hy rfl ?_
  intro p e s m args below meth c s₁ B hml hv
  obtain ⟨rfl, hsz, hP, hK, hD0⟩ := hv
  subst hsz
  have hts := atoms_spec (ws := .code y cc maxL none :: tbG) B.pre
  have hown : s.vm.findClass own = some m.cls := ho ▸ findClass_of_methodNamed B.named
  have hin : y.name = "<init>" → meth.name = "<init>" := fun hi => (name_of_methodNamed B.named B.method).1.trans hi
  have hb := body (p, e, (headSpec (.code y cc maxL none :: tbG) ({ frames := fr, cells := kc, slots := kn, locals := lo })).room, s, m, as.toArray, below, meth, c, MQ below (va_Qv (S := va_W) (P cy) (fun w t => va_P D wCls w t.heap ∧ va_D (va_A fs s.heap.size) w) (va_A fs s.heap.size)) as.toArray s kc kn (va_A fs s.heap.size), D, va_A fs s.heap.size) cy
    ⟨B.exec, B.bytes, hml, hown, fun w hw => hts w (List.mem_cons_of_mem _ hw), B.notSynchronized, rfl, rfl, rfl, rfl, hK, fun q h => Or.inr h⟩ ⟨B.returns, rfl, rfl⟩ hin
  have hl := lv_entry as (n := maxL) hn
  rw [lg_entry_eq]
  generalize (lg_sl as ++ List.replicate (maxL - (lg_sl as).length) Slot.unset).toArray = ls at hl ⊢
  exact hb ls s.heap [] hl hP hD0.self va_S.rf
section JROWS
variable {l : Launch} {z : Zj} {cy : Cy} {cc : ByteArray} {nL pc fr kc kn lo : Nat} {own : String} {L : List (Nat × Value)} {st : List Value} {ws : va_W} {k n : Nat}
theorem j_aload_n (hz : JOk z cy cc nL own fr kc kn lo) {i : Fin 4} {j x : Nat} (q : Nat) (d : decode cc pc = .ok (.aload_n i, 1)) (hj : L[q]? = some (j, .ref x)) (hi : (i : Nat) = j) (kk : J l z cc nL (pc + 1) L (.ref x :: st) ws k n) : J l z cc nL pc L st ws k n := by
  obtain ⟨p, e, R, s, m, args, below, meth, c, Q, D, A⟩ := z
  exact fun ls H locs hl hP hD hS => lv_aload_n hz.1 hz.2.1 d hi (lv_at hl q hj) (kk ls H locs hl hP hD hS)
theorem j_iload_n (hz : JOk z cy cc nL own fr kc kn lo) {i : Fin 4} {j : Nat} {x : Int32} (q : Nat) (d : decode cc pc = .ok (.iload_n i, 1)) (hj : L[q]? = some (j, .int x)) (hi : (i : Nat) = j) (kk : J l z cc nL (pc + 1) L (.int x :: st) ws k n) : J l z cc nL pc L st ws k n := by
  obtain ⟨p, e, R, s, m, args, below, meth, c, Q, D, A⟩ := z
  exact fun ls H locs hl hP hD hS => lv_iload_n hz.1 hz.2.1 d hi (lv_at hl q hj) (kk ls H locs hl hP hD hS)
theorem j_iconst (hz : JOk z cy cc nL own fr kc kn lo) {i : Int} {v : Int32} (d : decode cc pc = .ok (.iconst i, 1)) (hv : Int32.ofInt i = v) (kk : J l z cc nL (pc + 1) L (.int v :: st) ws k n) : J l z cc nL pc L st ws k n := by
  obtain ⟨p, e, R, s, m, args, below, meth, c, Q, D, A⟩ := z
  exact fun ls H locs hl hP hD hS => lv_iconst hz.1 hz.2.1 d hv (kk ls H locs hl hP hD hS)
theorem j_bipush (hz : JOk z cy cc nL own fr kc kn lo) {i : Int} {v : Int32} (d : decode cc pc = .ok (.bipush i, 2)) (hv : (Int8.ofInt i).toInt32 = v) (kk : J l z cc nL (pc + 2) L (.int v :: st) ws k n) : J l z cc nL pc L st ws k n := by
  obtain ⟨p, e, R, s, m, args, below, meth, c, Q, D, A⟩ := z
  exact fun ls H locs hl hP hD hS => lv_bipush hz.1 hz.2.1 d hv (kk ls H locs hl hP hD hS)
theorem j_sipush (hz : JOk z cy cc nL own fr kc kn lo) {i : Int} {v : Int32} (d : decode cc pc = .ok (.sipush i, 3)) (hv : (Int16.ofInt i).toInt32 = v) (kk : J l z cc nL (pc + 3) L (.int v :: st) ws k n) : J l z cc nL pc L st ws k n := by
  obtain ⟨p, e, R, s, m, args, below, meth, c, Q, D, A⟩ := z
  exact fun ls H locs hl hP hD hS => lv_sipush hz.1 hz.2.1 d hv (kk ls H locs hl hP hD hS)
theorem j_dup (hz : JOk z cy cc nL own fr kc kn lo) {x : Nat} (d : decode cc pc = .ok (.dup, 1)) (kk : J l z cc nL (pc + 1) L (.ref x :: .ref x :: st) ws k n) : J l z cc nL pc L (.ref x :: st) ws k n := by
  obtain ⟨p, e, R, s, m, args, below, meth, c, Q, D, A⟩ := z
  exact fun ls H locs hl hP hD hS => lv_dup hz.1 hz.2.1 d rfl (kk ls H locs hl hP hD hS)
theorem j_goto (hz : JOk z cy cc nL own fr kc kn lo) {off : Int} {tgt : Nat} (d : decode cc pc = .ok (.goto off, 3)) (ht : (pc : Int) + off = (tgt : Int)) (kk : J l z cc nL tgt L st ws k n) : J l z cc nL pc L st ws k n := by
  obtain ⟨p, e, R, s, m, args, below, meth, c, Q, D, A⟩ := z
  exact fun ls H locs hl hP hD hS => lv_goto hz.1 hz.2.1 d ht (kk ls H locs hl hP hD hS)
theorem j_istore_n (hz : JOk z cy cc nL own fr kc kn lo) {i : Fin 4} {j : Nat} {x : Int32} {L' : List (Nat × Value)} (d : decode cc pc = .ok (.istore_n i, 1)) (hi : (i : Nat) = j) (hn : j < nL) (h : stA L j (.int x) = L') (kk : J l z cc nL (pc + 1) L' st ws k n) : J l z cc nL pc L (.int x :: st) ws k n := by
  obtain ⟨p, e, R, s, m, args, below, meth, c, Q, D, A⟩ := z
  subst h
  exact fun ls H locs hl hP hD hS => lv_istore_n hz.1 hz.2.1 d hi hl hn rfl (fun ls' hl' => kk ls' H locs hl' hP hD hS)
theorem j_astore_n (hz : JOk z cy cc nL own fr kc kn lo) {i : Fin 4} {j x : Nat} {L' : List (Nat × Value)} (d : decode cc pc = .ok (.astore_n i, 1)) (hi : (i : Nat) = j) (hn : j < nL) (h : stA L j (.ref x) = L') (kk : J l z cc nL (pc + 1) L' st ws k n) : J l z cc nL pc L (.ref x :: st) ws k n := by
  obtain ⟨p, e, R, s, m, args, below, meth, c, Q, D, A⟩ := z
  subst h
  exact fun ls H locs hl hP hD hS => lv_astore_n hz.1 hz.2.1 d hi hl hn rfl (fun ls' hl' => kk ls' H locs hl' hP hD hS)
theorem j_iinc (hz : JOk z cy cc nL own fr kc kn lo) {i : Nat} {a : Int} {x v : Int32} {L' : List (Nat × Value)} (q : Nat) (d : decode cc pc = .ok (.iinc i a, 3)) (hj : L[q]? = some (i, .int x)) (hv : x + Int32.ofInt a = v) (hn : i < nL) (h : stA L i (.int v) = L') (kk : J l z cc nL (pc + 3) L' st ws k n) : J l z cc nL pc L st ws k n := by
  obtain ⟨p, e, R, s, m, args, below, meth, c, Q, D, A⟩ := z
  subst h
  exact fun ls H locs hl hP hD hS => lv_iinc hz.1 hz.2.1 d hl hj hv hn rfl (fun ls' hl' => kk ls' H locs hl' hP hD hS)
theorem j_ge_t (hz : JOk z cy cc nL own fr kc kn lo) {x y : Int32} {off : Int} {tgt : Nat} (d : decode cc pc = .ok (.if_icmp .ge off, 3)) (ht : (pc : Int) + off = (tgt : Int)) (hc : y ≤ x) (kk : J l z cc nL tgt L st ws k n) : J l z cc nL pc L (.int y :: .int x :: st) ws k n := by
  obtain ⟨p, e, R, s, m, args, below, meth, c, Q, D, A⟩ := z
  exact fun ls H locs hl hP hD hS => lv_icmp_ge hz.1 hz.2.1 d ht (fun _ => kk ls H locs hl hP hD hS) (fun q => absurd hc q)
theorem j_ge_f (hz : JOk z cy cc nL own fr kc kn lo) {x y : Int32} {off : Int} {tgt : Nat} (d : decode cc pc = .ok (.if_icmp .ge off, 3)) (ht : (pc : Int) + off = (tgt : Int)) (hc : ¬ y ≤ x) (kk : J l z cc nL (pc + 3) L st ws k n) : J l z cc nL pc L (.int y :: .int x :: st) ws k n := by
  obtain ⟨p, e, R, s, m, args, below, meth, c, Q, D, A⟩ := z
  exact fun ls H locs hl hP hD hS => lv_icmp_ge hz.1 hz.2.1 d ht (fun q => absurd q hc) (fun _ => kk ls H locs hl hP hD hS)
theorem j_ws (ws' : va_W) (h : ws = ws') (kk : J l z cc nL pc L st ws' k n) : J l z cc nL pc L st ws k n := h ▸ kk
theorem j_alen (hz : JOk z cy cc nL own fr kc kn lo) (q0 t0 : Nat) {a : Nat} {cA : ClassId} {x : vp_A} {ty : FieldType} {v : Int32} (ha : ws[q0]? = some (a, .inl (cA, x))) (ht : (tyz cy)[t0]? = some (cA, ty)) (hv : Int32.ofNat x.1 = v) (d : decode cc pc = .ok (.arraylength, 1)) (kk : J l z cc nL (pc + 1) L (.int v :: st) ws k n) : J l z cc nL pc L (.ref a :: st) ws k n := by
  obtain ⟨p, e, R, s, m, args, below, meth, c, Q, D, A⟩ := z
  exact fun ls H locs hl hP hD hS => va_alen hz.1 hz.2.1 hz.2.2.2.2.2.2.2.2.2.2.1.1.1 hP q0 t0 ha ht hv d (kk ls H locs hl hP hD hS)
theorem j_get (hz : JOk z cy cc nL own fr kc kn lo) {q0 f N ci ix a : Nat} {C : String} {T : u_T} {v : Value} {fs : List Value} (hin : ∀ w ∈ u_ws C T N, w ∈ tbG) (hc : wCls[ci]? = some (C, T, N)) (he : ws[q0]? = some (a, .inr (ci, fs))) (hv : fs[f]? = some v) (hk : f < N) (hC : (T f).1 = C) (lk : Cond.fieldLink own ix C (T f).2.1 (T f).2.2.1 ∈ tbG) (d : decode cc pc = .ok (.getfield ix, 3)) (kk : J l z cc nL (pc + 3) L (v :: st) ws k n) : J l z cc nL pc L (.ref a :: st) ws k n := by
  obtain ⟨p, e, R, s, m, args, below, meth, c, Q, D, A⟩ := z
  exact fun ls H locs hl hP hD hS => va_get hz.1 hz.2.1 hz.2.2.2.2.1 hin hz.2.2.2.1 hz.2.2.2.2.2.2.2.2.2.2.1.1.1 hP q0 he hc f hk (hz.2.2.2.2.1 _ lk) (fun x hx => by rw [hC] at hx; exact hx) hv d (kk ls H locs hl hP hD hS)
theorem j_put (hz : JOk z cy cc nL own fr kc kn lo) {q0 f N ci ix a : Nat} {C : String} {T : u_T} {ty0 : Nat → FieldType} {ty : FieldType} {v : Value} {fs : List Value} {ws' : va_W} (hin : ∀ w ∈ u_ws C T N, w ∈ tbG) (hty : ∀ k, k < N → parseFieldDescriptor (T k).2.2.1 = some (ty0 k)) (hnm : ∀ a, a < N → ∀ b, b < N → a ≠ b → (T a).2.1 ≠ (T b).2.1) (hc : wCls[ci]? = some (C, T, N)) (he : ws[q0]? = some (a, .inr (ci, fs))) (hk : f < N) (hC : (T f).1 = C) (hfin : (T f).2.2.2 = false) (hd : parseFieldDescriptor (T f).2.2.1 = some ty) (hnar : narrow ty v = v) (hfit : fits ty v = true) (hl : f < fs.length) (lk : Cond.fieldLink own ix C (T f).2.1 (T f).2.2.1 ∈ tbG) (hw : ws.set q0 (a, .inr (ci, fs.set f v)) = ws') (d : decode cc pc = .ok (.putfield ix, 3)) (kk : J l z cc nL (pc + 3) L st ws' k n) : J l z cc nL pc L (v :: .ref a :: st) ws k n := by
  obtain ⟨p, e, R, s, m, args, below, meth, c, Q, D, A⟩ := z
  subst hw
  exact fun ls H locs hls hP hD hS => va_put hz.1 hz.2.1 hz.2.2.2.2.1 hin ty0 hty hnm hz.2.2.2.1 hz.2.2.2.2.2.2.2.2.2.2.1.1.1 hP hD hS q0 he hc f hk (hz.2.2.2.2.1 _ lk) (fun x hx => by rw [hC] at hx; exact hx) hfin hd hnar hfit hl d (fun H1 locs1 hP1 hD1 hS1 => kk ls H1 locs1 hls hP1 hD1 hS1)
theorem j_putF (hz : JOk z cy cc nL own fr kc kn lo) (hin2 : JIn z) {q0 f N ci ix a : Nat} {T : u_T} {ty0 : Nat → FieldType} {ty : FieldType} {v : Value} {fs : List Value} {ws' : va_W} (hin : ∀ w ∈ u_ws own T N, w ∈ tbG) (hty : ∀ k, k < N → parseFieldDescriptor (T k).2.2.1 = some (ty0 k)) (hnm : ∀ a, a < N → ∀ b, b < N → a ≠ b → (T a).2.1 ≠ (T b).2.1) (hc : wCls[ci]? = some (own, T, N)) (he : ws[q0]? = some (a, .inr (ci, fs))) (hk : f < N) (hC : (T f).1 = own) (hfin : (T f).2.2.2 = true) (hd : parseFieldDescriptor (T f).2.2.1 = some ty) (hnar : narrow ty v = v) (hfit : fits ty v = true) (hl : f < fs.length) (lk : Cond.fieldLink own ix own (T f).2.1 (T f).2.2.1 ∈ tbG) (hw : ws.set q0 (a, .inr (ci, fs.set f v)) = ws') (d : decode cc pc = .ok (.putfield ix, 3)) (kk : J l z cc nL (pc + 3) L st ws' k n) : J l z cc nL pc L (v :: .ref a :: st) ws k n := by
  obtain ⟨p, e, R, s, m, args, below, meth, c, Q, D, A⟩ := z
  subst hw
  exact fun ls H locs hls hP hD hS => va_putF hz.1 hz.2.1 hz.2.2.2.2.1 hin ty0 hty hnm hz.2.2.2.1 hz.2.2.2.2.2.2.2.2.2.2.1.1.1 hP hD hS q0 he hc f hk (hz.2.2.2.2.1 _ lk) (fun x hx => by rw [hC] at hx; exact hx) hfin hin2 hC hd hnar hfit hl d (fun H1 locs1 hP1 hD1 hS1 => kk ls H1 locs1 hls hP1 hD1 hS1)
theorem j_newi (hz : JOk z cy cc nL own fr kc kn lo) {v : Int32} {N : Nat} (harr : Cond.arrayClass .int ∈ tbG) (hv : ¬ v < 0) (hN : v.toNatClampNeg = N) (hb : N * 4 ≤ 536870912) (hk : k + 1 ≤ kc) (hn : n + N ≤ kn) (d : decode cc pc = .ok (.newarray .int, 2)) (kk : ∀ q : Nat, J l z cc nL (pc + 2) L (.ref q :: st) (ws ++ [(q, .inl (cy.1, N, .inl (fun _ => 0)))]) (k + 1) (n + N)) : J l z cc nL pc L (.int v :: st) ws k n := by
  obtain ⟨p, e, R, s, m, args, below, meth, c, Q, D, A⟩ := z
  obtain ⟨hx, hb0, hml, hown, hts, hlk, rfl, rfl, rfl, rfl, hK, hA⟩ := hz
  intro ls H locs hl hP hD hS
  refine va_newa (atype := .int) (ty := .int) (a0 := (N, .inl (fun _ => 0))) hx hb0 (hts _ harr) rfl hK.1.1 hP hD hS hA (fun cA => rfl) hv hN hb hk hn d (fun q cA H1 hK1 hP1 hD1 hS1 => ?_)
  have e1 := (hK1.2 4 _ rfl).2
  have e2 := (hK.1.1.2 0 _ rfl).2
  have e3 : cA = cy.1 := Option.some.inj ((show s.vm.findClass ("[" ++ (FieldType.int).toString) = some cA from e1).symm.trans e2)
  rw [e3] at hP1 hD1
  exact kk q ls H1 locs hl hP1 hD1 hS1
theorem j_newr (hz : JOk z cy cc nL own fr kc kn lo) {v : Int32} {N t0 ix : Nat} {C : String} {cX : ClassId} (ht : (tyz cy)[t0]? = some (cX, .object C)) (hao : ∀ D s, KI D cy s → va_AO C s) (hcl : Cond.classLink own ix C ∈ tbG) (hv : ¬ v < 0) (hN : v.toNatClampNeg = N) (hb : N * 4 ≤ 536870912) (hk : k + 1 ≤ kc) (hn : n + N ≤ kn) (d : decode cc pc = .ok (.anewarray ix, 3)) (kk : ∀ q : Nat, J l z cc nL (pc + 3) L (.ref q :: st) (ws ++ [(q, .inl (cX, N, .inr (.inr (.inr (.inr (fun _ => none))))))]) (k + 1) (n + N)) : J l z cc nL pc L (.int v :: st) ws k n := by
  obtain ⟨p, e, R, s, m, args, below, meth, c, Q, D, A⟩ := z
  obtain ⟨hx, hb0, hml, hown, hts, hlk, rfl, rfl, rfl, rfl, hK, hA⟩ := hz
  intro ls H locs hl hP hD hS
  refine va_newq (own := own) (C := C) hx hb0 hown (hts _ hcl) (hao D s hK) hK.1.1 hP hD hS hA hv hN hb hk hn d (fun q cA H1 hK1 hP1 hD1 hS1 => ?_)
  obtain ⟨kA, comp, -, -, -, e1⟩ := (hK1.2 4 _ rfl).2
  obtain ⟨kA2, comp2, -, -, -, e2⟩ := (hK.1.1.2 t0 _ ht).2
  have e3 : cA = cX := Option.some.inj (e1.symm.trans e2)
  rw [e3] at hP1 hD1
  exact kk q ls H1 locs hl hP1 hD1 hS1
theorem j_new (hz : JOk z cy cc nL own fr kc kn lo) {ci N ix : Nat} {C : String} {T : u_T} {ty0 : Nat → FieldType} {fs : List Value} (hin : ∀ w ∈ u_ws C T N, w ∈ tbG) (hty : ∀ k, k < N → parseFieldDescriptor (T k).2.2.1 = some (ty0 k)) (hcl : Cond.classLink own ix C ∈ tbG) (hins : Cond.instantiable C N ∈ tbG) (hini : Cond.initialized C ∈ tbG) (hc : wCls[ci]? = some (C, T, N)) (hfs : ∀ j, j < N → defaultValue (ty0 j) = vp_V fs j) (hk : k + 1 ≤ kc) (hn : n + N ≤ kn) (d : decode cc pc = .ok (.new ix, 3)) (kk : ∀ q : Nat, J l z cc nL (pc + 3) L (.ref q :: st) (ws ++ [(q, .inr (ci, fs))]) (k + 1) (n + N)) : J l z cc nL pc L st ws k n := by
  obtain ⟨p, e, R, s, m, args, below, meth, c, Q, D, A⟩ := z
  obtain ⟨hx, hb0, hml, hown, hts, hlk, rfl, rfl, rfl, rfl, hK, hA⟩ := hz
  intro ls H locs hl hP hD hS
  exact va_new hx hb0 hts hin ty0 hty hown (hts _ hcl) (hts _ hins) (hts _ hini) hK.1.1 hP hD hS hA hc hfs hk hn d (fun q H1 hP1 hD1 hS1 => kk q ls H1 locs hl hP1 hD1 hS1)
theorem j_obj (hz : JOk z cy cc nL own fr kc kn lo) {ix a : Nat} (lk : Cond.methodLink own ix objectInit ∈ tbG) (h1 : Cond.instanceMethod objectInit ∈ tbG) (h2 : Cond.code objectInit ⟨#[0xb1]⟩ 1 none ∈ tbG) (hf : 1 ≤ fr) (hlo : 12 ≤ lo) (hst : st = []) (d : decode cc pc = .ok (.invokespecial ix, 3)) (kk : J l z cc nL (pc + 3) L st ws k n) : J l z cc nL pc L (.ref a :: st) ws k n := by
  obtain ⟨p, e, R, s, m, args, below, meth, c, Q, D, A⟩ := z
  obtain ⟨hx, hb0, hml, hown, hts, hlk, rfl, rfl, rfl, rfl, hK, hA⟩ := hz
  subst hst
  intro ls H locs hl hP hD hS
  refine W.objInit hx hb0 hown (hts _ lk) (hts _ h1) (hts _ h2) rfl (by rw [hml]; exact hl.1) rfl d hf hlo ?_
  refine W.eq (g2 := F0 m (pc + 3) ls []) rfl ?_
  exact kk ls H locs hl hP hD hS
theorem j_ast (hz : JOk z cy cc nL own fr kc kn lo) (q0 t0 qk ci : Nat) {a : Nat} {cA : ClassId} {r : vw_C} {N v : Nat} {vs : List Value} {f : Nat → Option Nat} {i : Int32} {ws' : va_W} (ha : ws[q0]? = some (a, .inl (cA, N, .inr (.inr (.inr (.inr f)))))) (ht : (tyz cy)[t0]? = some (cA, .object r.1)) (hv : ws[qk]? = some (v, .inr (ci, vs))) (hc : wCls[ci]? = some r) (hin : vp_in i N) (hw : ws.set q0 (a, .inl (cA, N, .inr (.inr (.inr (.inr (va_up f i.toNatClampNeg (some v))))))) = ws') (d : decode cc pc = .ok (.aastore, 1)) (kk : J l z cc nL (pc + 1) L st ws' k n) : J l z cc nL pc L (.ref v :: .int i :: .ref a :: st) ws k n := by
  obtain ⟨p, e, R, s, m, args, below, meth, c, Q, D, A⟩ := z
  subst hw
  exact fun ls H locs hl hP hD hS => va_astq hz.1 hz.2.1 hz.2.2.2.2.2.2.2.2.2.2.1.1.1 hP hD hS q0 t0 qk ci ha ht hv hc hin d (fun H1 locs1 hP1 hD1 hS1 => kk ls H1 locs1 hl hP1 hD1 hS1)
theorem j_vret (hz : JOk z cy cc nL own fr kc kn lo) {fs : va_W} {P : Cy → va_W → Prop} (hr : JR z cy fs P k n) (hw : ∀ (D : va_G) (A : Nat → Prop) (H : Heap), va_P D wCls ws H → va_D A ws → ∃ w, P cy w ∧ va_P D wCls w H ∧ va_D A w) (d : decode cc pc = .ok (.return_, 1)) : J l z cc nL pc L [] ws k n := by
  obtain ⟨p, e, R, s, m, args, below, meth, c, Q, D, A⟩ := z
  obtain ⟨hr, rfl, rfl⟩ := hr
  intro ls H locs hl hP hD hS
  obtain ⟨w, w1, w2, w3⟩ := hw _ _ _ hP hD
  exact W.vret hz.1 hz.2.1 hr (fun t ht hW => ⟨⟨w, rfl, w1, by rw [ht]; exact w2, w3⟩, hS.F ht⟩) hS.2.2 d hz.2.2.2.2.2.1
theorem li_blind (as : List Value) (D : va_G) (cy : Cy) (sz : Nat) (fs : va_W) : FrameBlind (va_Pc as (fun U => U.heap.size = sz ∧ va_P D wCls fs U.heap ∧ KI D cy U ∧ va_D (fun _ => True) fs)) := fun a U g mk h => ⟨h.1, h.2.1, h.2.2.1, KI.blind (s := U) (U := U.calling g mk a) rfl h.2.2.2.1, h.2.2.2.2⟩
theorem range_map (ws : va_W) (x : Nat × va_E) : (List.range ws.length).map (fun i => (ws ++ [x])[i]?) = ws.map some := by
  apply List.ext_getElem?
  intro j
  by_cases h : j < ws.length
  · rw [List.getElem?_map, List.getElem?_map, List.getElem?_range h, Option.map_some, List.getElem?_append_left h, List.getElem?_eq_getElem h, Option.map_some]
  · rw [List.getElem?_eq_none (by rw [List.length_map, List.length_range]; omega), List.getElem?_eq_none (by rw [List.length_map]; omega)]
theorem nd_nodup : ∀ l : List Nat, l.Nodup → va_nd l = true
  | [], _ => rfl
  | a :: l, h => by
    obtain ⟨h1, h2⟩ := List.nodup_cons.mp h
    unfold va_nd
    rw [nd_nodup l h2, Bool.and_true]
    exact decide_eq_true h1
theorem nd_range (n : Nat) : va_nd (List.range n) = true := nd_nodup _ List.nodup_range
theorem j_init (hz : JOk z cy cc nL own fr kc kn lo) {y : MethodName} {bytes : ByteArray} {maxL fr' kc' kn' lo' na ix q : Nat} {e : va_E} {as stk : List Value} {P : Cy → va_W → Prop} (hM : CI l y bytes maxL fr' kc' kn' lo' (.ref q :: as) [(q, e)] P) (hy : y.name = "<init>") (mm : MV y bytes maxL none na) (hi : Cond.instanceMethod y ∈ tbG) (lk : Cond.methodLink own ix y ∈ tbG) (hR : fr' + 1 ≤ fr ∧ 8 + (maxL + 11) + lo' ≤ lo) (hk : k + kc' ≤ kc) (hn : n + kn' ≤ kn) (ha : as.length = na) (hst : stk = as.reverse ++ .ref q :: st) (hW : (st.map fun v => v.category).sum ≤ 8) (d : decode cc pc = .ok (.invokespecial ix, 3)) (kk : ∀ w, P cy w → J l z cc nL (pc + 3) L st (ws ++ w) (k + kc') (n + kn')) : J l z cc nL pc L stk (ws ++ [(q, e)]) k n := by
  obtain ⟨p, e0, R, s, m, args, below, meth, c, Q, D, A⟩ := z
  obtain ⟨hx, hb0, hml, hown, hts, hlk, rfl, rfl, rfl, rfl, hK, hA⟩ := hz
  obtain ⟨m1, m2, m3⟩ := mm
  intro ls H locs hl hP hD hS
  have hC : [ws.length].map (fun i => (ws ++ [(q, e)])[i]?) = [(q, e)].map some := by
    show [(ws ++ [(q, e)])[ws.length]?] = [some (q, e)]
    rw [List.getElem?_append_right (Nat.le_refl _), Nat.sub_self]; rfl
  have hPc : va_P D wCls [(q, e)] H := fun j x hj => hP (ws.length + j) x (by rw [List.getElem?_append_right (by omega), show ws.length + j - ws.length = j by omega]; exact hj)
  have hDc : va_D A [(q, e)] := ⟨fun i j a b hi2 hj2 _ => by
      have h1 : i < 1 := (List.getElem?_eq_some_iff.mp hi2).1
      have h2 : j < 1 := (List.getElem?_eq_some_iff.mp hj2).1
      omega, fun j x hj => hD.2 (ws.length + j) x (by rw [List.getElem?_append_right (by omega), show ws.length + j - ws.length = j by omega]; exact hj)⟩
  have hFc := va_free (wc := [(q, e)]) hD hS hA [ws.length] hC
  subst hst
  refine va_callv (va_runI (As := as) (b := q) (rest := st) (nL := nL) ⟨hx, hb0, hml, hown, hts⟩ (hM D cy H.size) (cwI na hts (giG m1) rfl rfl rfl (hts _ m2) (hts _ lk) (hts _ hi) hy m3 hR) ⟨li_blind _ _ _ _ _, fun U hU hW1 => ⟨rfl, by rw [hU], by rw [hU]; exact hPc, hK.warm hW1, hDc.weaken (fun _ _ _ _ => trivial)⟩⟩ rfl ha hl.1 rfl (lv_room hW) d ⟨hk, hn⟩) hS (fun q0 _ h => hFc q0 h) hFc (fun u t H1 locs1 ht hvm hw hB hz1 hk1 hS1 => ?_)
  obtain ⟨hP1, hD1⟩ := hB
  rw [ht] at hP1
  obtain ⟨hP2, hD2⟩ := va_join (wr := ws) (w1 := u) hP hD [ws.length] (List.range ws.length) hC (range_map ws (q, e)) (nd_range _) (fun i hi2 h2 => by
    have h3 := List.mem_range.mp hi2
    have h4 := List.mem_singleton.mp h2
    omega) hk1 hFc hP1 hD1
  exact kk u hw ls H1 locs1 hl hP2 hD2 hS1
theorem j_callv (hz : JOk z cy cc nL own fr kc kn lo) {y : MethodName} {bytes : ByteArray} {maxL fr' kc' kn' lo' na ix q : Nat} {e : va_E} {as stk : List Value} {P : Cy → va_W → Prop} (hM : CI l y bytes maxL fr' kc' kn' lo' (.ref q :: as) [(q, e)] P) (ci : Nat) {fs : List Value} {qc : vw_C} (he : e = .inr (ci, fs)) (hc : wCls[ci]? = some qc) (hq : qc.1 = y.cls) (hsel : Cond.selects y.cls y y ∈ tbG) (mm : MV y bytes maxL none na) (hi : Cond.instanceMethod y ∈ tbG) (lk : Cond.methodLink own ix y ∈ tbG) (hR : fr' + 1 ≤ fr ∧ 8 + (maxL + 11) + lo' ≤ lo) (hk : k + kc' ≤ kc) (hn : n + kn' ≤ kn) (ha : as.length = na) (hst : stk = as.reverse ++ .ref q :: st) (hW : (st.map fun v => v.category).sum ≤ 8) (d : decode cc pc = .ok (.invokevirtual ix, 3)) (kk : ∀ w, P cy w → J l z cc nL (pc + 3) L st (ws ++ w) (k + kc') (n + kn')) : J l z cc nL pc L stk (ws ++ [(q, e)]) k n := by
  obtain ⟨p, e0, R, s, m, args, below, meth, c, Q, D, A⟩ := z
  obtain ⟨hx, hb0, hml, hown, hts, hlk, rfl, rfl, rfl, rfl, hK, hA⟩ := hz
  obtain ⟨m1, m2, m3⟩ := mm
  intro ls H locs hl hP hD hS
  have hC : [ws.length].map (fun i => (ws ++ [(q, e)])[i]?) = [(q, e)].map some := by
    show [(ws ++ [(q, e)])[ws.length]?] = [some (q, e)]
    rw [List.getElem?_append_right (Nat.le_refl _), Nat.sub_self]; rfl
  have hPc : va_P D wCls [(q, e)] H := fun j x hj => hP (ws.length + j) x (by rw [List.getElem?_append_right (by omega), show ws.length + j - ws.length = j by omega]; exact hj)
  have hDc : va_D A [(q, e)] := ⟨fun i j a b hi2 hj2 _ => by
      have h1 : i < 1 := (List.getElem?_eq_some_iff.mp hi2).1
      have h2 : j < 1 := (List.getElem?_eq_some_iff.mp hj2).1
      omega, fun j x hj => hD.2 (ws.length + j) x (by rw [List.getElem?_append_right (by omega), show ws.length + j - ws.length = j by omega]; exact hj)⟩
  have hFc := va_free (wc := [(q, e)]) hD hS hA [ws.length] hC
  subst hst
  subst he
  have hrec := va_recv hK.1.1 hPc (ci := ci) (q0 := 0) (a := q) (fs := fs) hc rfl
  refine va_callv (va_runV (As := as) (b := q) (C := y.cls) (rest := st) (nL := nL) ⟨hx, hb0, hml, hown, hts⟩ (hM D cy H.size) ⟨callB_of na hts (giG m1) rfl rfl rfl (hts _ m2) (hts _ lk) m3 hR, hts _ hi, hts _ hsel⟩ ⟨li_blind _ _ _ _ _, hq ▸ hrec, fun U hU hW1 => ⟨rfl, by rw [hU], by rw [hU]; exact hPc, hK.warm hW1, hDc.weaken (fun _ _ _ _ => trivial)⟩⟩ rfl ha hl.1 rfl (lv_room hW) d ⟨hk, hn⟩) hS (fun q0 _ h => hFc q0 h) hFc (fun u t H1 locs1 ht hvm hw hB hz1 hk1 hS1 => ?_)
  obtain ⟨hP1, hD1⟩ := hB
  rw [ht] at hP1
  obtain ⟨hP2, hD2⟩ := va_join (wr := ws) (w1 := u) hP hD [ws.length] (List.range ws.length) hC (range_map ws (q, _)) (nd_range _) (fun i hi2 h2 => by
    have h3 := List.mem_range.mp hi2
    have h4 := List.mem_singleton.mp h2
    omega) hk1 hFc hP1 hD1
  exact kk u hw ls H1 locs1 hl hP2 hD2 hS1
end JROWS
