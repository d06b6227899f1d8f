/-! MONTHS, NEXTS, DOORS, HANDS -/
theorem XI.now {s s' : Mm} {S : SV} {V : CV} (h : XI s S) (he : ∀ z j, ¬ own 0 z → s' z j = s z j) (hc : HC s' 0 V) (hv : VOk V) : XI s' (vTo S V) := by
  obtain ⟨-, -, ⟨p1, p2⟩, ⟨st, h2, h8, h3, h4, h5⟩, ⟨l1, l2, l3⟩, ⟨r1, r2, r3⟩, hr⟩ := h
  have ho : ∀ d, d < 11 → d ≠ 0 → ∀ z j, own d z → s' z j = s z j := fun d hd h0 z j hz => he z j (by unfold own at hz ⊢; omega)
  have hs : ∀ z j, 165 ≤ z → s' z j = s z j := fun z j h1 => he z j (ne_own (by omega) h1)
  refine ⟨hc, hv, ⟨by rw [hs _ _ (by omega)]; exact p1, ?_⟩, ⟨st, h2, h8, by rw [hs _ _ (by omega)]; exact h3, by rw [hs _ _ (by omega)]; exact h4, fun i hi => ⟨(h5 i hi).1.eq (h5 i hi).2.1 (h5 i hi).2.2.1 (ho _ (by omega) (by omega)), (h5 i hi).2⟩⟩, ⟨l1, by rw [hs _ _ (by omega)]; exact l2, fun i hi => by rw [hs _ _ (by omega)]; exact l3 i hi⟩, ⟨r1, by rw [hs _ _ (by omega)]; exact r2, fun i hi => by rw [hs _ _ (by omega)]; exact r3 i hi⟩, fun i hi => by rw [hs _ _ (by omega)]; exact hr i hi⟩
  rcases p2 with e | ⟨e, o, v⟩
  · exact Or.inl e
  · exact Or.inr ⟨e, o.eq v.1 v.2.1 (ho 1 (by omega) (by omega)), v⟩
theorem RI.now {s s' : Mm} {S : SV} {V : CV} (h : RI s S) (ho : SOk S) (hv : RV s' V) (he : ∀ z j, ¬ (178 ≤ z ∧ z ≤ 188) → ¬ (z = 176 ∧ (j = 11 ∨ j = 12 ∨ j = 13 ∨ j = 25 ∨ j = 26)) → s' z j = s z j) : RI s' (vTo S V) := by
  obtain ⟨-, h14, ⟨p1, p2⟩, ⟨q1, q2⟩, ⟨l1, l2⟩, ⟨r1, r2⟩, hr⟩ := h
  obtain ⟨-, o2, ⟨o3, o3'⟩, -, -⟩ := ho
  refine ⟨hv, by rw [he _ _ (by omega) (by omega)]; exact h14, ⟨by rw [he _ _ (by omega) (by omega)]; exact p1, fun e => ?_⟩, ⟨by rw [he _ _ (by omega) (by omega)]; exact q1, fun i hi => (q2 i hi).eq (o3' i hi).1 (o3' i hi).2.1 (fun j _ _ => he _ _ (by omega) (by omega))⟩, ⟨by rw [he _ _ (by omega) (by omega)]; exact l1, fun i hi => by rw [he _ _ (by omega) (by omega)]; exact l2 i hi⟩, ⟨by rw [he _ _ (by omega) (by omega)]; exact r1, fun i hi => by rw [he _ _ (by omega) (by omega)]; exact r2 i hi⟩, fun i hi => by rw [he _ _ (by omega) (by omega)]; exact hr i hi⟩
  rcases o2 with o | ⟨-, o⟩
  · have e' : S.2.1.1 = 1 := e
    rw [o] at e'; exact absurd e' (by decide)
  · exact (p2 e).eq o.1 o.2.1 (fun j _ _ => he _ _ (by omega) (by omega))
theorem SOk.pushed {S : SV} (h : SOk S) : SOk (pastTo S (push S)) := by
  obtain ⟨h1, h2, ⟨h3, h4⟩, h5⟩ := h
  have h3 : (pastOf S).1 ≤ 8 := h3
  have h4 : ∀ i, i < (pastOf S).1 → VOk ((pastOf S).2 i) := h4
  refine ⟨h1, h2, ?_, h5⟩
  show (push S).1 ≤ 8 ∧ ∀ i, i < (push S).1 → VOk ((push S).2 i)
  unfold push
  by_cases c : (pastOf S).1 = 8
  · rw [if_pos c]
    refine ⟨Nat.le_refl _, fun i hi => ?_⟩
    have hi : i < 8 := hi
    show VOk (if i = 7 then S.1 else (pastOf S).2 (i + 1))
    by_cases d : i = 7
    · rw [if_pos d]; exact h1
    · rw [if_neg d]; exact h4 _ (by omega)
  · rw [if_neg c]
    refine ⟨by show (pastOf S).1 + 1 ≤ 8; omega, fun i hi => ?_⟩
    have hi : i < (pastOf S).1 + 1 := hi
    show VOk (if i = (pastOf S).1 then S.1 else (pastOf S).2 i)
    by_cases d : i = (pastOf S).1
    · rw [if_pos d]; exact h1
    · rw [if_neg d]; exact h4 _ (by omega)
def aft (S : SV) (V : CV) : SV := vTo (pastTo S (push S)) V
theorem set0 {s : Mm} {V : CV} {p j : Nat} {x : Int32} {f : FV} (h : HC s 0 V) (hv : VOk V) (hp : p < V.1) (hj : j = 2 ∨ j = 3) (hf : fRow (mU s (33 + 7 * 0 + p) j x) (33 + 7 * 0 + p) = f) (h0 : fK f = fK (V.2.2.2.1 p)) (h1 : fI f = fI (V.2.2.2.1 p)) : HC (mU s (33 + 7 * 0 + p) j x) 0 (V.1, V.2.1, V.2.2.1, upF V.2.2.2.1 p f, V.2.2.2.2) ∧ ∀ z i, ¬ own 0 z → mU s (33 + 7 * 0 + p) j x z i = s z i := by
  have hn := hv.1
  have he : ∀ q i, q ≠ 33 + 7 * 0 + p → mU s (33 + 7 * 0 + p) j x q i = s q i := fun q i hq => by rw [mU_get, if_neg (fun z => hq z.1)]
  have h4 : ∀ i, i ≠ j → mU s (33 + 7 * 0 + p) j x (33 + 7 * 0 + p) i = s (33 + 7 * 0 + p) i := fun i hi => by rw [mU_get, if_neg (fun z => hi z.2)]
  obtain ⟨b1, b2, b3, b4⟩ := h.1.2 p hp
  refine ⟨⟨h.1.up (by omega) hn (by omega) he hf (by rw [h4 _ (by omega), h0, h1]; exact b2) (by rw [h4 _ (by omega), h0, h1]; exact b3) (by rw [h4 _ (by omega), h0, h1]; exact b4), h.2.1.o hv.2.1 (by omega) (fun q i hq => he q i (by omega)), by rw [he _ _ (by omega)]; exact h.2.2⟩, fun z i hz => he z i (fun y => hz (y ▸ ownF (c := 0) (by omega)))⟩
theorem Rn_doors (s : Mm) (a b : Int32) : f_R_doors s a b = k_R_doors_19 a b (fst3 (gNo (s 176 11) a) (btw b 1 99) 0) s := by
  unfold f_R_doors
  simp only [isFriend_e, bn_s, bound_e]
  unfold gNo fst3
  by_cases c1 : inN (s 176 11) a = 0
  · simp [c1]
  · by_cases c2 : btw b 1 99 = 0
    · simp [c1, c2]
    · simp [c1, c2]
def noDoors (a b : Int32) (S : SV) : Int32 := fst3 (gNo (nI S.1.1) a) (btw b 1 99) 0
theorem op_doors (a b : Int32) : OpI (fun s => f_X_doors s a b) (fun s => f_R_doors s a b) := by
  refine OpI.m (mx' := fun s => bv (f_P_remember s 0) fun s12 => bn (f_C_friendAt s12 0 a) fun x15 s14 => nm (s14 x15 2) fun x16 => nm (mU s14 x15 2 b) fun s18 => some (x16, s18)) (mr := fun s => k_R_doors_19 a b 0 s) (noDoors a b) (fun S => fD (S.1.2.2.2.1 (ix a))) (fun S => aft S (VxD S.1 (ix a) b)) (fun S => Codes.fst (Codes.g _ _) (Codes.b _ _ _) Codes.z) ?_ ?_ ?_ ?_
  · intro s S h
    unfold f_X_doors
    simp only [friendNo_e, bn_s, between_e, first_e, h.1.1.1, bn_eta]
    rfl
  · intro s S ho h
    show f_R_doors s a b = _
    rw [Rn_doors, h.1.1.1]
    by_cases e : noDoors a b S = 0
    · rw [if_pos e, show fst3 (gNo (nI S.1.1) a) (btw b 1 99) 0 = 0 from e]
    · rw [if_neg e]
      unfold k_R_doors_19
      rw [if_neg (show ¬ fst3 (gNo (nI S.1.1) a) (btw b 1 99) 0 = 0 from e), bn_eta]
      rfl
  · intro s S h e
    obtain ⟨e1, e2, e3⟩ := fst3_0 e
    have hv := h.2.1
    have hn := hv.1
    obtain ⟨p, hp, rfl⟩ := gNo_0 (by omega) e1
    obtain ⟨N, hN1, hN, rfl⟩ := btw_0 (lo := 1) (hi := 99) (by omega) (by omega) e2
    obtain ⟨s1, a1, a2, a3⟩ := remember_e h
    have hb := a2.1.1.at hp
    have h1 : HC s1 0 S.1 := a2.1
    rw [ix_nI (by omega)]
    show ∃ s', (bv (f_P_remember s 0) fun s12 => _) = _ ∧ _
    rw [a1, bv_s, friendAt_e (by omega), bn_s, nm_s, nm_s, show s1 (33 + 7 * 0 + p) 2 = fD (S.1.2.2.2.1 p) from hb.2.2.1]
    obtain ⟨c1, c2⟩ := set0 (j := 2) (x := nI N) (f := (fK (S.1.2.2.2.1 p), fI (S.1.2.2.2.1 p), nI N, fN (S.1.2.2.2.1 p), fT (S.1.2.2.2.1 p))) h1 hv hp (Or.inl rfl) (by have hb : _ := h1.1.at hp; simp [fRow, mU_get, hb.1, hb.2.1, hb.2.2.2.1, hb.2.2.2.2]) rfl rfl
    exact ⟨_, rfl, a2.now c2 c1 (VxD.ok hv hp (dr hN1 (by omega))), fun z j hz => by rw [c2 z j (by unfold own; omega)]; exact a3 z j hz⟩
  · intro s S ho h e
    obtain ⟨e1, e2, e3⟩ := fst3_0 e
    have hv := ho.1
    have hn := hv.1
    obtain ⟨p, hp, rfl⟩ := gNo_0 (by omega) e1
    obtain ⟨s1, a1, a2, a3⟩ := keepsBack_e h ho
    have h1 : RV s1 S.1 := a2.1
    rw [ix_nI (by omega)]
    show ∃ s', k_R_doors_19 (nI p) b 0 s = _ ∧ _
    unfold k_R_doors_19
    rw [if_pos rfl, a1, bv_s, gd_n (show p < 6 by omega) (by omega), nm_s, gd_n (show p < 6 by omega) (by omega), nm_s, nI_clamp (by omega), (h1.1.2 p hp).2.2.1]
    have h2 := VxD.up hp s1 _ b (show RV s1 (VxD S.1 p (fD (S.1.2.2.2.1 p))) by rw [VxD.id]; exact h1)
    exact ⟨_, rfl, a2.now ho.pushed h2 (fun z j y1 y2 => by rw [mU_get, if_neg (by omega)]), fun z j hz => by rw [mU_get, if_neg (by omega)]; exact a3 z j hz⟩
