/-! Math.max and Math.min, by the library's contracts -/
def mx (x y : Int32) : Int32 := if x < y then y else x
def mn (x y : Int32) : Int32 := if y < x then y else x
section MATH
variable {l : Launch} {z : Zt} {cc : ByteArray} {nL pc fr lo : Nat} {own : String} {L : List (Nat × Value)} {st : List Value} {σ : Mm}
theorem g_mmax (hz : ZOk z cc nL own fr lo) {x y : Int32} {ix : Nat} (lk : Cond.methodLink own ix y_J_max ∈ tbG) (hf : 1 ≤ fr) (hl : 21 ≤ lo) (hW : (st.map fun v => v.category).sum ≤ 8) (d : decode cc pc = .ok (.invokestatic ix, 3)) (kk : G l z cc nL (pc + 3) L (.int (mx x y) :: st) σ) : G l z cc nL pc L (.int y :: .int x :: st) σ := by
  obtain ⟨p, e, R, s, m, args, below, meth, c, Q, D, cy, ad, A, kc, ks'⟩ := z
  obtain ⟨hx, hb0, hml, hown, hts, hlk, rfl, rfl, hroom, hK, hI, hA⟩ := hz
  intro ls H locs hl2 hP hS
  have hc : Cond.code Lib.Math.max.name Lib.Math.max.code 2 (some .int) ∈ tbG := m_J_max.1
  exact va_mmax hx hb0 (by rw [hml]; exact hl2.1.symm) hown (hts _ lk) (hts _ mi_J_max) (hts _ m_J_max.2.1) (hts _ hc) hf (by rw [vc_cats]; omega) hroom.1 hroom.2 d (kk ls H locs hl2 hP hS)
theorem g_mmin (hz : ZOk z cc nL own fr lo) {x y : Int32} {ix : Nat} (lk : Cond.methodLink own ix y_J_min ∈ tbG) (hf : 1 ≤ fr) (hl : 21 ≤ lo) (hW : (st.map fun v => v.category).sum ≤ 8) (d : decode cc pc = .ok (.invokestatic ix, 3)) (kk : G l z cc nL (pc + 3) L (.int (mn x y) :: st) σ) : G l z cc nL pc L (.int y :: .int x :: st) σ := by
  obtain ⟨p, e, R, s, m, args, below, meth, c, Q, D, cy, ad, A, kc, ks'⟩ := z
  obtain ⟨hx, hb0, hml, hown, hts, hlk, rfl, rfl, hroom, hK, hI, hA⟩ := hz
  intro ls H locs hl2 hP hS
  have hc : Cond.code Lib.Math.min.name Lib.Math.min.code 2 (some .int) ∈ tbG := m_J_min.1
  exact va_mmin hx hb0 (by rw [hml]; exact hl2.1.symm) hown (hts _ lk) (hts _ mi_J_min) (hts _ m_J_min.2.1) (hts _ hc) hf (by rw [vc_cats]; omega) hroom.1 hroom.2 d (kk ls H locs hl2 hP hS)
end MATH
