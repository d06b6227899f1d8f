/-! the cells, one by one -/
section HP
variable {D : va_G} {cy : Cy} {t : AT} {H : Heap}
theorem hp_165 : HPt D cy t H 165 := ⟨_, rfl, fun h => h⟩
theorem hp_166 : HPt D cy t H 166 := ⟨_, rfl, fun h => h⟩
theorem hp_167 : HPt D cy t H 167 := ⟨_, rfl, fun h => h⟩
theorem hp_168 : HPt D cy t H 168 := ⟨_, rfl, fun h => vat_ext h (fun k hk => by
  match k, hk with
  | 0, _ => rfl
  | 1, _ => rfl
  | 2, _ => rfl
  | 3, _ => rfl
  | 4, _ => rfl
  | 5, _ => rfl
  | 6, _ => rfl
  | 7, _ => rfl)⟩
theorem hp_169 : HPt D cy t H 169 := ⟨_, rfl, fun h => h⟩
theorem hp_170 : HPt D cy t H 170 := ⟨_, rfl, fun h => h⟩
theorem hp_171 : HPt D cy t H 171 := ⟨_, rfl, fun h => h⟩
theorem hp_172 : HPt D cy t H 172 := ⟨_, rfl, fun h => h⟩
theorem hp_173 : HPt D cy t H 173 := ⟨_, rfl, fun h => h⟩
theorem hp_174 : HPt D cy t H 174 := ⟨_, rfl, fun h => h⟩
theorem hp_175 : HPt D cy t H 175 := ⟨_, rfl, fun h => h⟩
theorem hp_176 : HPt D cy t H 176 := ⟨_, rfl, fun h => h⟩
theorem hp_177 : HPt D cy t H 177 := ⟨_, rfl, fun h => h⟩
theorem hp_178 : HPt D cy t H 178 := ⟨_, rfl, fun h => h⟩
theorem hp_179 : HPt D cy t H 179 := ⟨_, rfl, fun h => h⟩
theorem hp_180 : HPt D cy t H 180 := ⟨_, rfl, fun h => h⟩
theorem hp_181 : HPt D cy t H 181 := ⟨_, rfl, fun h => h⟩
theorem hp_182 : HPt D cy t H 182 := ⟨_, rfl, fun h => h⟩
theorem hp_183 : HPt D cy t H 183 := ⟨_, rfl, fun h => h⟩
theorem hp_184 : HPt D cy t H 184 := ⟨_, rfl, fun h => h⟩
theorem hp_185 : HPt D cy t H 185 := ⟨_, rfl, fun h => h⟩
theorem hp_186 : HPt D cy t H 186 := ⟨_, rfl, fun h => h⟩
theorem hp_187 : HPt D cy t H 187 := ⟨_, rfl, fun h => h⟩
theorem hp_188 : HPt D cy t H 188 := ⟨_, rfl, fun h => h⟩
theorem hp_189 : HPt D cy t H 189 := ⟨_, rfl, fun h => h⟩
theorem hp_190 : HPt D cy t H 190 := ⟨_, rfl, fun h => h⟩
theorem hp_191 : HPt D cy t H 191 := ⟨_, rfl, fun h => h⟩
theorem hp_192 : HPt D cy t H 192 := ⟨_, rfl, fun h => h⟩
theorem hp_193 : HPt D cy t H 193 := ⟨_, rfl, fun h => h⟩
theorem hp_194 : HPt D cy t H 194 := ⟨_, rfl, fun h => h⟩
theorem hp_195 : HPt D cy t H 195 := ⟨_, rfl, fun h => h⟩
end HP
