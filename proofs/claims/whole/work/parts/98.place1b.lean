/-! the cells, one by one -/
section HP
variable {D : va_G} {cy : Cy} {t : AT} {H : Heap}
theorem hp_33 : HPt D cy t H 33 := ⟨_, rfl, fun h => h⟩
theorem hp_34 : HPt D cy t H 34 := ⟨_, rfl, fun h => h⟩
theorem hp_35 : HPt D cy t H 35 := ⟨_, rfl, fun h => h⟩
theorem hp_36 : HPt D cy t H 36 := ⟨_, rfl, fun h => h⟩
theorem hp_37 : HPt D cy t H 37 := ⟨_, rfl, fun h => h⟩
theorem hp_38 : HPt D cy t H 38 := ⟨_, rfl, fun h => h⟩
theorem hp_39 : HPt D cy t H 39 := ⟨_, rfl, fun h => h⟩
theorem hp_40 : HPt D cy t H 40 := ⟨_, rfl, fun h => h⟩
theorem hp_41 : HPt D cy t H 41 := ⟨_, rfl, fun h => h⟩
theorem hp_42 : HPt D cy t H 42 := ⟨_, rfl, fun h => h⟩
theorem hp_43 : HPt D cy t H 43 := ⟨_, rfl, fun h => h⟩
theorem hp_44 : HPt D cy t H 44 := ⟨_, rfl, fun h => h⟩
theorem hp_45 : HPt D cy t H 45 := ⟨_, rfl, fun h => h⟩
theorem hp_46 : HPt D cy t H 46 := ⟨_, rfl, fun h => h⟩
theorem hp_47 : HPt D cy t H 47 := ⟨_, rfl, fun h => h⟩
theorem hp_48 : HPt D cy t H 48 := ⟨_, rfl, fun h => h⟩
theorem hp_49 : HPt D cy t H 49 := ⟨_, rfl, fun h => h⟩
theorem hp_50 : HPt D cy t H 50 := ⟨_, rfl, fun h => h⟩
theorem hp_51 : HPt D cy t H 51 := ⟨_, rfl, fun h => h⟩
theorem hp_52 : HPt D cy t H 52 := ⟨_, rfl, fun h => h⟩
theorem hp_53 : HPt D cy t H 53 := ⟨_, rfl, fun h => h⟩
theorem hp_54 : HPt D cy t H 54 := ⟨_, rfl, fun h => h⟩
theorem hp_55 : HPt D cy t H 55 := ⟨_, rfl, fun h => h⟩
theorem hp_56 : HPt D cy t H 56 := ⟨_, rfl, fun h => h⟩
theorem hp_57 : HPt D cy t H 57 := ⟨_, rfl, fun h => h⟩
theorem hp_58 : HPt D cy t H 58 := ⟨_, rfl, fun h => h⟩
theorem hp_59 : HPt D cy t H 59 := ⟨_, rfl, fun h => h⟩
theorem hp_60 : HPt D cy t H 60 := ⟨_, rfl, fun h => h⟩
theorem hp_61 : HPt D cy t H 61 := ⟨_, rfl, fun h => h⟩
theorem hp_62 : HPt D cy t H 62 := ⟨_, rfl, fun h => h⟩
theorem hp_63 : HPt D cy t H 63 := ⟨_, rfl, fun h => h⟩
theorem hp_64 : HPt D cy t H 64 := ⟨_, rfl, fun h => h⟩
theorem hp_65 : HPt D cy t H 65 := ⟨_, rfl, fun h => h⟩
end HP
