/-! the cells, one by one -/
section HP
variable {D : va_G} {cy : Cy} {t : AT} {H : Heap}
theorem hp_0 : HPt D cy t H 0 := ⟨_, rfl, fun h => h⟩
theorem hp_1 : HPt D cy t H 1 := ⟨_, rfl, fun h => h⟩
theorem hp_2 : HPt D cy t H 2 := ⟨_, rfl, fun h => h⟩
theorem hp_3 : HPt D cy t H 3 := ⟨_, rfl, fun h => h⟩
theorem hp_4 : HPt D cy t H 4 := ⟨_, rfl, fun h => h⟩
theorem hp_5 : HPt D cy t H 5 := ⟨_, rfl, fun h => h⟩
theorem hp_6 : HPt D cy t H 6 := ⟨_, rfl, fun h => h⟩
theorem hp_7 : HPt D cy t H 7 := ⟨_, rfl, fun h => h⟩
theorem hp_8 : HPt D cy t H 8 := ⟨_, rfl, fun h => h⟩
theorem hp_9 : HPt D cy t H 9 := ⟨_, rfl, fun h => h⟩
theorem hp_10 : HPt D cy t H 10 := ⟨_, rfl, fun h => h⟩
theorem hp_11 : HPt D cy t H 11 := ⟨_, rfl, fun h => vat_ext h (fun k hk => by
  match k, hk with
  | 0, _ => rfl
  | 1, _ => rfl
  | 2, _ => rfl
  | 3, _ => rfl
  | 4, _ => rfl
  | 5, _ => rfl)⟩
theorem hp_12 : HPt D cy t H 12 := ⟨_, rfl, fun h => vat_ext h (fun k hk => by
  match k, hk with
  | 0, _ => rfl
  | 1, _ => rfl
  | 2, _ => rfl
  | 3, _ => rfl
  | 4, _ => rfl
  | 5, _ => rfl)⟩
theorem hp_13 : HPt D cy t H 13 := ⟨_, rfl, fun h => vat_ext h (fun k hk => by
  match k, hk with
  | 0, _ => rfl
  | 1, _ => rfl
  | 2, _ => rfl
  | 3, _ => rfl
  | 4, _ => rfl
  | 5, _ => rfl)⟩
theorem hp_14 : HPt D cy t H 14 := ⟨_, rfl, fun h => vat_ext h (fun k hk => by
  match k, hk with
  | 0, _ => rfl
  | 1, _ => rfl
  | 2, _ => rfl
  | 3, _ => rfl
  | 4, _ => rfl
  | 5, _ => rfl)⟩
theorem hp_15 : HPt D cy t H 15 := ⟨_, rfl, fun h => vat_ext h (fun k hk => by
  match k, hk with
  | 0, _ => rfl
  | 1, _ => rfl
  | 2, _ => rfl
  | 3, _ => rfl
  | 4, _ => rfl
  | 5, _ => rfl)⟩
theorem hp_16 : HPt D cy t H 16 := ⟨_, rfl, fun h => vat_ext h (fun k hk => by
  match k, hk with
  | 0, _ => rfl
  | 1, _ => rfl
  | 2, _ => rfl
  | 3, _ => rfl
  | 4, _ => rfl
  | 5, _ => rfl)⟩
theorem hp_17 : HPt D cy t H 17 := ⟨_, rfl, fun h => vat_ext h (fun k hk => by
  match k, hk with
  | 0, _ => rfl
  | 1, _ => rfl
  | 2, _ => rfl
  | 3, _ => rfl
  | 4, _ => rfl
  | 5, _ => rfl)⟩
theorem hp_18 : HPt D cy t H 18 := ⟨_, rfl, fun h => vat_ext h (fun k hk => by
  match k, hk with
  | 0, _ => rfl
  | 1, _ => rfl
  | 2, _ => rfl
  | 3, _ => rfl
  | 4, _ => rfl
  | 5, _ => rfl)⟩
theorem hp_19 : HPt D cy t H 19 := ⟨_, rfl, fun h => vat_ext h (fun k hk => by
  match k, hk with
  | 0, _ => rfl
  | 1, _ => rfl
  | 2, _ => rfl
  | 3, _ => rfl
  | 4, _ => rfl
  | 5, _ => rfl)⟩
theorem hp_20 : HPt D cy t H 20 := ⟨_, rfl, fun h => vat_ext h (fun k hk => by
  match k, hk with
  | 0, _ => rfl
  | 1, _ => rfl
  | 2, _ => rfl
  | 3, _ => rfl
  | 4, _ => rfl
  | 5, _ => rfl)⟩
theorem hp_21 : HPt D cy t H 21 := ⟨_, rfl, fun h => vat_ext h (fun k hk => by
  match k, hk with
  | 0, _ => rfl
  | 1, _ => rfl
  | 2, _ => rfl
  | 3, _ => rfl
  | 4, _ => rfl
  | 5, _ => rfl)⟩
theorem hp_22 : HPt D cy t H 22 := ⟨_, rfl, fun h => vat_ext h (fun k hk => by
  match k, hk with
  | 0, _ => rfl
  | 1, _ => rfl
  | 2, _ => rfl
  | 3, _ => rfl)⟩
theorem hp_23 : HPt D cy t H 23 := ⟨_, rfl, fun h => vat_ext h (fun k hk => by
  match k, hk with
  | 0, _ => rfl
  | 1, _ => rfl
  | 2, _ => rfl
  | 3, _ => rfl)⟩
theorem hp_24 : HPt D cy t H 24 := ⟨_, rfl, fun h => vat_ext h (fun k hk => by
  match k, hk with
  | 0, _ => rfl
  | 1, _ => rfl
  | 2, _ => rfl
  | 3, _ => rfl)⟩
theorem hp_25 : HPt D cy t H 25 := ⟨_, rfl, fun h => vat_ext h (fun k hk => by
  match k, hk with
  | 0, _ => rfl
  | 1, _ => rfl
  | 2, _ => rfl
  | 3, _ => rfl)⟩
theorem hp_26 : HPt D cy t H 26 := ⟨_, rfl, fun h => vat_ext h (fun k hk => by
  match k, hk with
  | 0, _ => rfl
  | 1, _ => rfl
  | 2, _ => rfl
  | 3, _ => rfl)⟩
theorem hp_27 : HPt D cy t H 27 := ⟨_, rfl, fun h => vat_ext h (fun k hk => by
  match k, hk with
  | 0, _ => rfl
  | 1, _ => rfl
  | 2, _ => rfl
  | 3, _ => rfl)⟩
theorem hp_28 : HPt D cy t H 28 := ⟨_, rfl, fun h => vat_ext h (fun k hk => by
  match k, hk with
  | 0, _ => rfl
  | 1, _ => rfl
  | 2, _ => rfl
  | 3, _ => rfl)⟩
theorem hp_29 : HPt D cy t H 29 := ⟨_, rfl, fun h => vat_ext h (fun k hk => by
  match k, hk with
  | 0, _ => rfl
  | 1, _ => rfl
  | 2, _ => rfl
  | 3, _ => rfl)⟩
theorem hp_30 : HPt D cy t H 30 := ⟨_, rfl, fun h => vat_ext h (fun k hk => by
  match k, hk with
  | 0, _ => rfl
  | 1, _ => rfl
  | 2, _ => rfl
  | 3, _ => rfl)⟩
theorem hp_31 : HPt D cy t H 31 := ⟨_, rfl, fun h => vat_ext h (fun k hk => by
  match k, hk with
  | 0, _ => rfl
  | 1, _ => rfl
  | 2, _ => rfl
  | 3, _ => rfl)⟩
theorem hp_32 : HPt D cy t H 32 := ⟨_, rfl, fun h => vat_ext h (fun k hk => by
  match k, hk with
  | 0, _ => rfl
  | 1, _ => rfl
  | 2, _ => rfl
  | 3, _ => rfl)⟩
end HP
