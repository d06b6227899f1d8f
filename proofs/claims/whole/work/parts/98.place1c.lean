/-! the cells, one by one -/
section HP
variable {D : va_G} {cy : Cy} {t : AT} {H : Heap}
theorem hp_66 : HPt D cy t H 66 := ⟨_, rfl, fun h => h⟩
theorem hp_67 : HPt D cy t H 67 := ⟨_, rfl, fun h => h⟩
theorem hp_68 : HPt D cy t H 68 := ⟨_, rfl, fun h => h⟩
theorem hp_69 : HPt D cy t H 69 := ⟨_, rfl, fun h => h⟩
theorem hp_70 : HPt D cy t H 70 := ⟨_, rfl, fun h => h⟩
theorem hp_71 : HPt D cy t H 71 := ⟨_, rfl, fun h => h⟩
theorem hp_72 : HPt D cy t H 72 := ⟨_, rfl, fun h => h⟩
theorem hp_73 : HPt D cy t H 73 := ⟨_, rfl, fun h => h⟩
theorem hp_74 : HPt D cy t H 74 := ⟨_, rfl, fun h => h⟩
theorem hp_75 : HPt D cy t H 75 := ⟨_, rfl, fun h => h⟩
theorem hp_76 : HPt D cy t H 76 := ⟨_, rfl, fun h => h⟩
theorem hp_77 : HPt D cy t H 77 := ⟨_, rfl, fun h => h⟩
theorem hp_78 : HPt D cy t H 78 := ⟨_, rfl, fun h => h⟩
theorem hp_79 : HPt D cy t H 79 := ⟨_, rfl, fun h => h⟩
theorem hp_80 : HPt D cy t H 80 := ⟨_, rfl, fun h => h⟩
theorem hp_81 : HPt D cy t H 81 := ⟨_, rfl, fun h => h⟩
theorem hp_82 : HPt D cy t H 82 := ⟨_, rfl, fun h => h⟩
theorem hp_83 : HPt D cy t H 83 := ⟨_, rfl, fun h => h⟩
theorem hp_84 : HPt D cy t H 84 := ⟨_, rfl, fun h => h⟩
theorem hp_85 : HPt D cy t H 85 := ⟨_, rfl, fun h => h⟩
theorem hp_86 : HPt D cy t H 86 := ⟨_, rfl, fun h => h⟩
theorem hp_87 : HPt D cy t H 87 := ⟨_, rfl, fun h => h⟩
theorem hp_88 : HPt D cy t H 88 := ⟨_, rfl, fun h => h⟩
theorem hp_89 : HPt D cy t H 89 := ⟨_, rfl, fun h => h⟩
theorem hp_90 : HPt D cy t H 90 := ⟨_, rfl, fun h => h⟩
theorem hp_91 : HPt D cy t H 91 := ⟨_, rfl, fun h => h⟩
theorem hp_92 : HPt D cy t H 92 := ⟨_, rfl, fun h => h⟩
theorem hp_93 : HPt D cy t H 93 := ⟨_, rfl, fun h => h⟩
theorem hp_94 : HPt D cy t H 94 := ⟨_, rfl, fun h => h⟩
theorem hp_95 : HPt D cy t H 95 := ⟨_, rfl, fun h => h⟩
theorem hp_96 : HPt D cy t H 96 := ⟨_, rfl, fun h => h⟩
theorem hp_97 : HPt D cy t H 97 := ⟨_, rfl, fun h => h⟩
theorem hp_98 : HPt D cy t H 98 := ⟨_, rfl, fun h => h⟩
theorem hp_99 : HPt D cy t H 99 := ⟨_, rfl, fun h => h⟩
theorem hp_100 : HPt D cy t H 100 := ⟨_, rfl, fun h => h⟩
theorem hp_101 : HPt D cy t H 101 := ⟨_, rfl, fun h => h⟩
theorem hp_102 : HPt D cy t H 102 := ⟨_, rfl, fun h => h⟩
theorem hp_103 : HPt D cy t H 103 := ⟨_, rfl, fun h => h⟩
theorem hp_104 : HPt D cy t H 104 := ⟨_, rfl, fun h => h⟩
theorem hp_105 : HPt D cy t H 105 := ⟨_, rfl, fun h => h⟩
theorem hp_106 : HPt D cy t H 106 := ⟨_, rfl, fun h => h⟩
theorem hp_107 : HPt D cy t H 107 := ⟨_, rfl, fun h => h⟩
theorem hp_108 : HPt D cy t H 108 := ⟨_, rfl, fun h => h⟩
theorem hp_109 : HPt D cy t H 109 := ⟨_, rfl, fun h => h⟩
end HP
