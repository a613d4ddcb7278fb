/-! the words that methods may use; what stands where -/
def ab_TS : List Cond := lw_tbl.filter goodWord
theorem ab_TS_good : ∀ w ∈ ab_TS, goodWord w = true := fun _ h => (List.mem_filter.mp h).2
theorem ab_TS_tbl : ∀ w ∈ ab_TS, w ∈ lw_tbl := fun _ h => (List.mem_filter.mp h).1
theorem ab_TS_in {w : Cond} (h : w ∈ lw_tbl) (hg : goodWord w = true) : w ∈ ab_TS := List.mem_filter.mpr ⟨h, hg⟩
theorem tk_0 : ∀ w ∈ k2_sels lw_privs, w ∈ lw_tbl := fun _ h => List.mem_append_left _ h
theorem tk_1 : ∀ w ∈ tables_1_1, w ∈ lw_tbl := fun _ h => List.mem_append_right _ (List.mem_append_left _ h)
theorem tk_2 : ∀ w ∈ tables_1_2, w ∈ lw_tbl := fun _ h => List.mem_append_right _ (List.mem_append_right _ (List.mem_append_left _ h))
theorem tk_3 : ∀ w ∈ tables_1_3, w ∈ lw_tbl := fun _ h => List.mem_append_right _ (List.mem_append_right _ (List.mem_append_right _ (List.mem_append_left _ h)))
theorem tk_4 : ∀ w ∈ tables_1_4, w ∈ lw_tbl := fun _ h => List.mem_append_right _ (List.mem_append_right _ (List.mem_append_right _ (List.mem_append_right _ (List.mem_append_left _ h))))
theorem tk_5 : ∀ w ∈ tables_1_5, w ∈ lw_tbl := fun _ h => List.mem_append_right _ (List.mem_append_right _ (List.mem_append_right _ (List.mem_append_right _ (List.mem_append_right _ (List.mem_append_left _ h)))))
theorem tk_6 : ∀ w ∈ tables_1_6, w ∈ lw_tbl := fun _ h => List.mem_append_right _ (List.mem_append_right _ (List.mem_append_right _ (List.mem_append_right _ (List.mem_append_right _ (List.mem_append_right _ (List.mem_append_left _ h))))))
theorem tk_7 : ∀ w ∈ tables_1_7, w ∈ lw_tbl := fun _ h => List.mem_append_right _ (List.mem_append_right _ (List.mem_append_right _ (List.mem_append_right _ (List.mem_append_right _ (List.mem_append_right _ (List.mem_append_right _ h))))))
def ab_tab : List (Nat × Nat) := [(0, 0), (1, 0), (8, 8), (1, 0), (8, 8), (1, 0), (8, 8), (2, 0), (8, 16), (6, 16), (6, 16), (9, 8), (6, 5), (6, 241), (6, 241), (3, 0), (6, 100), (3, 0), (6, 100), (3, 0), (6, 100), (3, 0), (6, 100), (3, 0), (6, 100), (3, 0), (6, 100), (3, 0), (6, 100), (3, 0), (6, 100), (5, 0), (6, 47), (6, 47), (6, 47), (6, 8), (6, 8), (6, 8), (6, 800), (6, 8), (6, 8), (6, 3), (6, 16), (6, 16), (6, 16), (6, 16), (6, 16), (6, 5), (6, 16), (7, 1)]
def ab_fk (t : Nat) : List Nat := match t with
  | 0 => [4, 4, 4, 5, 12, 9, 9, 9, 0, 1]
  | 1 => [11, 0, 0, 0, 0, 0, 0, 0]
  | 2 => [11, 9, 9, 4, 0, 0, 0, 0, 0, 0, 0, 0, 0, 0]
  | 3 => [9, 7, 0, 0]
  | 4 => [0, 0, 0, 0, 0, 0, 0, 0, 0, 0, 1, 0, 0, 1]
  | 5 => [9, 9, 9, 9, 9, 9, 9, 9, 9, 1, 0, 0, 0, 0, 0, 0, 9, 0, 0, 9, 9, 9, 9, 9, 0, 0, 0, 0, 0, 0, 0, 0, 9, 0, 0, 1, 2, 0, 0, 9, 0]
  | _ => []
def ab_nests : List (String × Nat × MethodName × String) := [(RX11, 9, yX9_init, "BackwardYears"), (RX11, 24, yX10_init, "BackwardYears"), (RX11, 45, yX6_init, "BackwardYears"), (RX6, 34, yX11_at, "BackwardYears"), (RX10, 90, yX11_store, "BackwardYears"), (RX10, 120, yX11_at, "BackwardYears"), (RX6, 39, yX11_store, "BackwardYears")]
def ab_kids : List String := [RX0, RX2, RX3, RX4, RX5, RX7, RX8]
theorem tl_X0 : ∀ w ∈ u_ws RX0 TX0 14, w ∈ ab_TS := by
  intro w hw
  obtain ⟨k, hk, rfl⟩ := List.mem_map.mp hw
  have hk : k < 14 := List.mem_range.mp hk
  match k, hk with
  | 0, _ => exact ab_TS_in (tk_3 _ (List.mem_of_getElem? (i := 9) (by decide +kernel))) (by decide +kernel)
  | 1, _ => exact ab_TS_in (tk_3 _ (List.mem_of_getElem? (i := 10) (by decide +kernel))) (by decide +kernel)
  | 2, _ => exact ab_TS_in (tk_3 _ (List.mem_of_getElem? (i := 11) (by decide +kernel))) (by decide +kernel)
  | 3, _ => exact ab_TS_in (tk_3 _ (List.mem_of_getElem? (i := 12) (by decide +kernel))) (by decide +kernel)
  | 4, _ => exact ab_TS_in (tk_3 _ (List.mem_of_getElem? (i := 13) (by decide +kernel))) (by decide +kernel)
  | 5, _ => exact ab_TS_in (tk_3 _ (List.mem_of_getElem? (i := 14) (by decide +kernel))) (by decide +kernel)
  | 6, _ => exact ab_TS_in (tk_3 _ (List.mem_of_getElem? (i := 15) (by decide +kernel))) (by decide +kernel)
  | 7, _ => exact ab_TS_in (tk_3 _ (List.mem_of_getElem? (i := 16) (by decide +kernel))) (by decide +kernel)
  | 8, _ => exact ab_TS_in (tk_3 _ (List.mem_of_getElem? (i := 17) (by decide +kernel))) (by decide +kernel)
  | 9, _ => exact ab_TS_in (tk_3 _ (List.mem_of_getElem? (i := 18) (by decide +kernel))) (by decide +kernel)
  | 10, _ => exact ab_TS_in (tk_3 _ (List.mem_of_getElem? (i := 19) (by decide +kernel))) (by decide +kernel)
  | 11, _ => exact ab_TS_in (tk_3 _ (List.mem_of_getElem? (i := 20) (by decide +kernel))) (by decide +kernel)
  | 12, _ => exact ab_TS_in (tk_3 _ (List.mem_of_getElem? (i := 21) (by decide +kernel))) (by decide +kernel)
  | 13, _ => exact ab_TS_in (tk_3 _ (List.mem_of_getElem? (i := 22) (by decide +kernel))) (by decide +kernel)
  | j + 14, hj => exact absurd hj (by omega)
theorem tl_X1 : ∀ w ∈ u_ws RX1 TX1 14, w ∈ ab_TS := by
  intro w hw
  obtain ⟨k, hk, rfl⟩ := List.mem_map.mp hw
  have hk : k < 14 := List.mem_range.mp hk
  match k, hk with
  | 0, _ => exact ab_TS_in (tk_2 _ (List.mem_of_getElem? (i := 130) (by decide +kernel))) (by decide +kernel)
  | 1, _ => exact ab_TS_in (tk_2 _ (List.mem_of_getElem? (i := 132) (by decide +kernel))) (by decide +kernel)
  | 2, _ => exact ab_TS_in (tk_2 _ (List.mem_of_getElem? (i := 134) (by decide +kernel))) (by decide +kernel)
  | 3, _ => exact ab_TS_in (tk_2 _ (List.mem_of_getElem? (i := 136) (by decide +kernel))) (by decide +kernel)
  | 4, _ => exact ab_TS_in (tk_2 _ (List.mem_of_getElem? (i := 138) (by decide +kernel))) (by decide +kernel)
  | 5, _ => exact ab_TS_in (tk_2 _ (List.mem_of_getElem? (i := 140) (by decide +kernel))) (by decide +kernel)
  | 6, _ => exact ab_TS_in (tk_2 _ (List.mem_of_getElem? (i := 142) (by decide +kernel))) (by decide +kernel)
  | 7, _ => exact ab_TS_in (tk_2 _ (List.mem_of_getElem? (i := 144) (by decide +kernel))) (by decide +kernel)
  | 8, _ => exact ab_TS_in (tk_2 _ (List.mem_of_getElem? (i := 146) (by decide +kernel))) (by decide +kernel)
  | 9, _ => exact ab_TS_in (tk_2 _ (List.mem_of_getElem? (i := 148) (by decide +kernel))) (by decide +kernel)
  | 10, _ => exact ab_TS_in (tk_2 _ (List.mem_of_getElem? (i := 150) (by decide +kernel))) (by decide +kernel)
  | 11, _ => exact ab_TS_in (tk_2 _ (List.mem_of_getElem? (i := 152) (by decide +kernel))) (by decide +kernel)
  | 12, _ => exact ab_TS_in (tk_2 _ (List.mem_of_getElem? (i := 154) (by decide +kernel))) (by decide +kernel)
  | 13, _ => exact ab_TS_in (tk_2 _ (List.mem_of_getElem? (i := 156) (by decide +kernel))) (by decide +kernel)
  | j + 14, hj => exact absurd hj (by omega)
theorem tl_X2 : ∀ w ∈ u_ws RX2 TX2 14, w ∈ ab_TS := by
  intro w hw
  obtain ⟨k, hk, rfl⟩ := List.mem_map.mp hw
  have hk : k < 14 := List.mem_range.mp hk
  match k, hk with
  | 0, _ => exact ab_TS_in (tk_2 _ (List.mem_of_getElem? (i := 207) (by decide +kernel))) (by decide +kernel)
  | 1, _ => exact ab_TS_in (tk_2 _ (List.mem_of_getElem? (i := 208) (by decide +kernel))) (by decide +kernel)
  | 2, _ => exact ab_TS_in (tk_2 _ (List.mem_of_getElem? (i := 209) (by decide +kernel))) (by decide +kernel)
  | 3, _ => exact ab_TS_in (tk_2 _ (List.mem_of_getElem? (i := 210) (by decide +kernel))) (by decide +kernel)
  | 4, _ => exact ab_TS_in (tk_2 _ (List.mem_of_getElem? (i := 211) (by decide +kernel))) (by decide +kernel)
  | 5, _ => exact ab_TS_in (tk_2 _ (List.mem_of_getElem? (i := 212) (by decide +kernel))) (by decide +kernel)
  | 6, _ => exact ab_TS_in (tk_2 _ (List.mem_of_getElem? (i := 213) (by decide +kernel))) (by decide +kernel)
  | 7, _ => exact ab_TS_in (tk_2 _ (List.mem_of_getElem? (i := 214) (by decide +kernel))) (by decide +kernel)
  | 8, _ => exact ab_TS_in (tk_2 _ (List.mem_of_getElem? (i := 215) (by decide +kernel))) (by decide +kernel)
  | 9, _ => exact ab_TS_in (tk_2 _ (List.mem_of_getElem? (i := 216) (by decide +kernel))) (by decide +kernel)
  | 10, _ => exact ab_TS_in (tk_2 _ (List.mem_of_getElem? (i := 217) (by decide +kernel))) (by decide +kernel)
  | 11, _ => exact ab_TS_in (tk_2 _ (List.mem_of_getElem? (i := 218) (by decide +kernel))) (by decide +kernel)
  | 12, _ => exact ab_TS_in (tk_2 _ (List.mem_of_getElem? (i := 219) (by decide +kernel))) (by decide +kernel)
  | 13, _ => exact ab_TS_in (tk_2 _ (List.mem_of_getElem? (i := 220) (by decide +kernel))) (by decide +kernel)
  | j + 14, hj => exact absurd hj (by omega)
theorem tl_X3 : ∀ w ∈ u_ws RX3 TX3 14, w ∈ ab_TS := by
  intro w hw
  obtain ⟨k, hk, rfl⟩ := List.mem_map.mp hw
  have hk : k < 14 := List.mem_range.mp hk
  match k, hk with
  | 0, _ => exact ab_TS_in (tk_3 _ (List.mem_of_getElem? (i := 30) (by decide +kernel))) (by decide +kernel)
  | 1, _ => exact ab_TS_in (tk_3 _ (List.mem_of_getElem? (i := 31) (by decide +kernel))) (by decide +kernel)
  | 2, _ => exact ab_TS_in (tk_3 _ (List.mem_of_getElem? (i := 32) (by decide +kernel))) (by decide +kernel)
  | 3, _ => exact ab_TS_in (tk_3 _ (List.mem_of_getElem? (i := 33) (by decide +kernel))) (by decide +kernel)
  | 4, _ => exact ab_TS_in (tk_3 _ (List.mem_of_getElem? (i := 34) (by decide +kernel))) (by decide +kernel)
  | 5, _ => exact ab_TS_in (tk_3 _ (List.mem_of_getElem? (i := 35) (by decide +kernel))) (by decide +kernel)
  | 6, _ => exact ab_TS_in (tk_3 _ (List.mem_of_getElem? (i := 36) (by decide +kernel))) (by decide +kernel)
  | 7, _ => exact ab_TS_in (tk_3 _ (List.mem_of_getElem? (i := 37) (by decide +kernel))) (by decide +kernel)
  | 8, _ => exact ab_TS_in (tk_3 _ (List.mem_of_getElem? (i := 38) (by decide +kernel))) (by decide +kernel)
  | 9, _ => exact ab_TS_in (tk_3 _ (List.mem_of_getElem? (i := 39) (by decide +kernel))) (by decide +kernel)
  | 10, _ => exact ab_TS_in (tk_3 _ (List.mem_of_getElem? (i := 40) (by decide +kernel))) (by decide +kernel)
  | 11, _ => exact ab_TS_in (tk_3 _ (List.mem_of_getElem? (i := 41) (by decide +kernel))) (by decide +kernel)
  | 12, _ => exact ab_TS_in (tk_3 _ (List.mem_of_getElem? (i := 42) (by decide +kernel))) (by decide +kernel)
  | 13, _ => exact ab_TS_in (tk_3 _ (List.mem_of_getElem? (i := 43) (by decide +kernel))) (by decide +kernel)
  | j + 14, hj => exact absurd hj (by omega)
theorem tl_X4 : ∀ w ∈ u_ws RX4 TX4 14, w ∈ ab_TS := by
  intro w hw
  obtain ⟨k, hk, rfl⟩ := List.mem_map.mp hw
  have hk : k < 14 := List.mem_range.mp hk
  match k, hk with
  | 0, _ => exact ab_TS_in (tk_2 _ (List.mem_of_getElem? (i := 165) (by decide +kernel))) (by decide +kernel)
  | 1, _ => exact ab_TS_in (tk_2 _ (List.mem_of_getElem? (i := 166) (by decide +kernel))) (by decide +kernel)
  | 2, _ => exact ab_TS_in (tk_2 _ (List.mem_of_getElem? (i := 167) (by decide +kernel))) (by decide +kernel)
  | 3, _ => exact ab_TS_in (tk_2 _ (List.mem_of_getElem? (i := 168) (by decide +kernel))) (by decide +kernel)
  | 4, _ => exact ab_TS_in (tk_2 _ (List.mem_of_getElem? (i := 169) (by decide +kernel))) (by decide +kernel)
  | 5, _ => exact ab_TS_in (tk_2 _ (List.mem_of_getElem? (i := 170) (by decide +kernel))) (by decide +kernel)
  | 6, _ => exact ab_TS_in (tk_2 _ (List.mem_of_getElem? (i := 171) (by decide +kernel))) (by decide +kernel)
  | 7, _ => exact ab_TS_in (tk_2 _ (List.mem_of_getElem? (i := 172) (by decide +kernel))) (by decide +kernel)
  | 8, _ => exact ab_TS_in (tk_2 _ (List.mem_of_getElem? (i := 173) (by decide +kernel))) (by decide +kernel)
  | 9, _ => exact ab_TS_in (tk_2 _ (List.mem_of_getElem? (i := 174) (by decide +kernel))) (by decide +kernel)
  | 10, _ => exact ab_TS_in (tk_2 _ (List.mem_of_getElem? (i := 175) (by decide +kernel))) (by decide +kernel)
  | 11, _ => exact ab_TS_in (tk_2 _ (List.mem_of_getElem? (i := 176) (by decide +kernel))) (by decide +kernel)
  | 12, _ => exact ab_TS_in (tk_2 _ (List.mem_of_getElem? (i := 177) (by decide +kernel))) (by decide +kernel)
  | 13, _ => exact ab_TS_in (tk_2 _ (List.mem_of_getElem? (i := 178) (by decide +kernel))) (by decide +kernel)
  | j + 14, hj => exact absurd hj (by omega)
theorem tl_X5 : ∀ w ∈ u_ws RX5 TX5 14, w ∈ ab_TS := by
  intro w hw
  obtain ⟨k, hk, rfl⟩ := List.mem_map.mp hw
  have hk : k < 14 := List.mem_range.mp hk
  match k, hk with
  | 0, _ => exact ab_TS_in (tk_2 _ (List.mem_of_getElem? (i := 228) (by decide +kernel))) (by decide +kernel)
  | 1, _ => exact ab_TS_in (tk_2 _ (List.mem_of_getElem? (i := 229) (by decide +kernel))) (by decide +kernel)
  | 2, _ => exact ab_TS_in (tk_2 _ (List.mem_of_getElem? (i := 230) (by decide +kernel))) (by decide +kernel)
  | 3, _ => exact ab_TS_in (tk_2 _ (List.mem_of_getElem? (i := 231) (by decide +kernel))) (by decide +kernel)
  | 4, _ => exact ab_TS_in (tk_2 _ (List.mem_of_getElem? (i := 232) (by decide +kernel))) (by decide +kernel)
  | 5, _ => exact ab_TS_in (tk_2 _ (List.mem_of_getElem? (i := 233) (by decide +kernel))) (by decide +kernel)
  | 6, _ => exact ab_TS_in (tk_2 _ (List.mem_of_getElem? (i := 234) (by decide +kernel))) (by decide +kernel)
  | 7, _ => exact ab_TS_in (tk_2 _ (List.mem_of_getElem? (i := 235) (by decide +kernel))) (by decide +kernel)
  | 8, _ => exact ab_TS_in (tk_2 _ (List.mem_of_getElem? (i := 236) (by decide +kernel))) (by decide +kernel)
  | 9, _ => exact ab_TS_in (tk_2 _ (List.mem_of_getElem? (i := 237) (by decide +kernel))) (by decide +kernel)
  | 10, _ => exact ab_TS_in (tk_2 _ (List.mem_of_getElem? (i := 238) (by decide +kernel))) (by decide +kernel)
  | 11, _ => exact ab_TS_in (tk_2 _ (List.mem_of_getElem? (i := 239) (by decide +kernel))) (by decide +kernel)
  | 12, _ => exact ab_TS_in (tk_3 _ (List.mem_of_getElem? (i := 0) (by decide +kernel))) (by decide +kernel)
  | 13, _ => exact ab_TS_in (tk_3 _ (List.mem_of_getElem? (i := 1) (by decide +kernel))) (by decide +kernel)
  | j + 14, hj => exact absurd hj (by omega)
theorem tl_X6 : ∀ w ∈ u_ws RX6 TX6 4, w ∈ ab_TS := by
  intro w hw
  obtain ⟨k, hk, rfl⟩ := List.mem_map.mp hw
  have hk : k < 4 := List.mem_range.mp hk
  match k, hk with
  | 0, _ => exact ab_TS_in (tk_1 _ (List.mem_of_getElem? (i := 147) (by decide +kernel))) (by decide +kernel)
  | 1, _ => exact ab_TS_in (tk_1 _ (List.mem_of_getElem? (i := 149) (by decide +kernel))) (by decide +kernel)
  | 2, _ => exact ab_TS_in (tk_1 _ (List.mem_of_getElem? (i := 151) (by decide +kernel))) (by decide +kernel)
  | 3, _ => exact ab_TS_in (tk_1 _ (List.mem_of_getElem? (i := 153) (by decide +kernel))) (by decide +kernel)
  | j + 4, hj => exact absurd hj (by omega)
theorem tl_X7 : ∀ w ∈ u_ws RX7 TX7 14, w ∈ ab_TS := by
  intro w hw
  obtain ⟨k, hk, rfl⟩ := List.mem_map.mp hw
  have hk : k < 14 := List.mem_range.mp hk
  match k, hk with
  | 0, _ => exact ab_TS_in (tk_2 _ (List.mem_of_getElem? (i := 186) (by decide +kernel))) (by decide +kernel)
  | 1, _ => exact ab_TS_in (tk_2 _ (List.mem_of_getElem? (i := 187) (by decide +kernel))) (by decide +kernel)
  | 2, _ => exact ab_TS_in (tk_2 _ (List.mem_of_getElem? (i := 188) (by decide +kernel))) (by decide +kernel)
  | 3, _ => exact ab_TS_in (tk_2 _ (List.mem_of_getElem? (i := 189) (by decide +kernel))) (by decide +kernel)
  | 4, _ => exact ab_TS_in (tk_2 _ (List.mem_of_getElem? (i := 190) (by decide +kernel))) (by decide +kernel)
  | 5, _ => exact ab_TS_in (tk_2 _ (List.mem_of_getElem? (i := 191) (by decide +kernel))) (by decide +kernel)
  | 6, _ => exact ab_TS_in (tk_2 _ (List.mem_of_getElem? (i := 192) (by decide +kernel))) (by decide +kernel)
  | 7, _ => exact ab_TS_in (tk_2 _ (List.mem_of_getElem? (i := 193) (by decide +kernel))) (by decide +kernel)
  | 8, _ => exact ab_TS_in (tk_2 _ (List.mem_of_getElem? (i := 194) (by decide +kernel))) (by decide +kernel)
  | 9, _ => exact ab_TS_in (tk_2 _ (List.mem_of_getElem? (i := 195) (by decide +kernel))) (by decide +kernel)
  | 10, _ => exact ab_TS_in (tk_2 _ (List.mem_of_getElem? (i := 196) (by decide +kernel))) (by decide +kernel)
  | 11, _ => exact ab_TS_in (tk_2 _ (List.mem_of_getElem? (i := 197) (by decide +kernel))) (by decide +kernel)
  | 12, _ => exact ab_TS_in (tk_2 _ (List.mem_of_getElem? (i := 198) (by decide +kernel))) (by decide +kernel)
  | 13, _ => exact ab_TS_in (tk_2 _ (List.mem_of_getElem? (i := 199) (by decide +kernel))) (by decide +kernel)
  | j + 14, hj => exact absurd hj (by omega)
theorem tl_X8 : ∀ w ∈ u_ws RX8 TX8 14, w ∈ ab_TS := by
  intro w hw
  obtain ⟨k, hk, rfl⟩ := List.mem_map.mp hw
  have hk : k < 14 := List.mem_range.mp hk
  match k, hk with
  | 0, _ => exact ab_TS_in (tk_3 _ (List.mem_of_getElem? (i := 51) (by decide +kernel))) (by decide +kernel)
  | 1, _ => exact ab_TS_in (tk_3 _ (List.mem_of_getElem? (i := 52) (by decide +kernel))) (by decide +kernel)
  | 2, _ => exact ab_TS_in (tk_3 _ (List.mem_of_getElem? (i := 53) (by decide +kernel))) (by decide +kernel)
  | 3, _ => exact ab_TS_in (tk_3 _ (List.mem_of_getElem? (i := 54) (by decide +kernel))) (by decide +kernel)
  | 4, _ => exact ab_TS_in (tk_3 _ (List.mem_of_getElem? (i := 55) (by decide +kernel))) (by decide +kernel)
  | 5, _ => exact ab_TS_in (tk_3 _ (List.mem_of_getElem? (i := 56) (by decide +kernel))) (by decide +kernel)
  | 6, _ => exact ab_TS_in (tk_3 _ (List.mem_of_getElem? (i := 57) (by decide +kernel))) (by decide +kernel)
  | 7, _ => exact ab_TS_in (tk_3 _ (List.mem_of_getElem? (i := 58) (by decide +kernel))) (by decide +kernel)
  | 8, _ => exact ab_TS_in (tk_3 _ (List.mem_of_getElem? (i := 59) (by decide +kernel))) (by decide +kernel)
  | 9, _ => exact ab_TS_in (tk_3 _ (List.mem_of_getElem? (i := 60) (by decide +kernel))) (by decide +kernel)
  | 10, _ => exact ab_TS_in (tk_3 _ (List.mem_of_getElem? (i := 61) (by decide +kernel))) (by decide +kernel)
  | 11, _ => exact ab_TS_in (tk_3 _ (List.mem_of_getElem? (i := 62) (by decide +kernel))) (by decide +kernel)
  | 12, _ => exact ab_TS_in (tk_3 _ (List.mem_of_getElem? (i := 63) (by decide +kernel))) (by decide +kernel)
  | 13, _ => exact ab_TS_in (tk_3 _ (List.mem_of_getElem? (i := 64) (by decide +kernel))) (by decide +kernel)
  | j + 14, hj => exact absurd hj (by omega)
theorem tl_X9 : ∀ w ∈ u_ws RX9 TX9 8, w ∈ ab_TS := by
  intro w hw
  obtain ⟨k, hk, rfl⟩ := List.mem_map.mp hw
  have hk : k < 8 := List.mem_range.mp hk
  match k, hk with
  | 0, _ => exact ab_TS_in (tk_1 _ (List.mem_of_getElem? (i := 56) (by decide +kernel))) (by decide +kernel)
  | 1, _ => exact ab_TS_in (tk_1 _ (List.mem_of_getElem? (i := 58) (by decide +kernel))) (by decide +kernel)
  | 2, _ => exact ab_TS_in (tk_1 _ (List.mem_of_getElem? (i := 60) (by decide +kernel))) (by decide +kernel)
  | 3, _ => exact ab_TS_in (tk_1 _ (List.mem_of_getElem? (i := 62) (by decide +kernel))) (by decide +kernel)
  | 4, _ => exact ab_TS_in (tk_1 _ (List.mem_of_getElem? (i := 64) (by decide +kernel))) (by decide +kernel)
  | 5, _ => exact ab_TS_in (tk_1 _ (List.mem_of_getElem? (i := 66) (by decide +kernel))) (by decide +kernel)
  | 6, _ => exact ab_TS_in (tk_1 _ (List.mem_of_getElem? (i := 68) (by decide +kernel))) (by decide +kernel)
  | 7, _ => exact ab_TS_in (tk_1 _ (List.mem_of_getElem? (i := 70) (by decide +kernel))) (by decide +kernel)
  | j + 8, hj => exact absurd hj (by omega)
theorem tl_X10 : ∀ w ∈ u_ws RX10 TX10 14, w ∈ ab_TS := by
  intro w hw
  obtain ⟨k, hk, rfl⟩ := List.mem_map.mp hw
  have hk : k < 14 := List.mem_range.mp hk
  match k, hk with
  | 0, _ => exact ab_TS_in (tk_1 _ (List.mem_of_getElem? (i := 101) (by decide +kernel))) (by decide +kernel)
  | 1, _ => exact ab_TS_in (tk_1 _ (List.mem_of_getElem? (i := 103) (by decide +kernel))) (by decide +kernel)
  | 2, _ => exact ab_TS_in (tk_1 _ (List.mem_of_getElem? (i := 105) (by decide +kernel))) (by decide +kernel)
  | 3, _ => exact ab_TS_in (tk_1 _ (List.mem_of_getElem? (i := 107) (by decide +kernel))) (by decide +kernel)
  | 4, _ => exact ab_TS_in (tk_1 _ (List.mem_of_getElem? (i := 109) (by decide +kernel))) (by decide +kernel)
  | 5, _ => exact ab_TS_in (tk_1 _ (List.mem_of_getElem? (i := 111) (by decide +kernel))) (by decide +kernel)
  | 6, _ => exact ab_TS_in (tk_1 _ (List.mem_of_getElem? (i := 113) (by decide +kernel))) (by decide +kernel)
  | 7, _ => exact ab_TS_in (tk_1 _ (List.mem_of_getElem? (i := 115) (by decide +kernel))) (by decide +kernel)
  | 8, _ => exact ab_TS_in (tk_1 _ (List.mem_of_getElem? (i := 117) (by decide +kernel))) (by decide +kernel)
  | 9, _ => exact ab_TS_in (tk_1 _ (List.mem_of_getElem? (i := 119) (by decide +kernel))) (by decide +kernel)
  | 10, _ => exact ab_TS_in (tk_1 _ (List.mem_of_getElem? (i := 121) (by decide +kernel))) (by decide +kernel)
  | 11, _ => exact ab_TS_in (tk_1 _ (List.mem_of_getElem? (i := 123) (by decide +kernel))) (by decide +kernel)
  | 12, _ => exact ab_TS_in (tk_1 _ (List.mem_of_getElem? (i := 125) (by decide +kernel))) (by decide +kernel)
  | 13, _ => exact ab_TS_in (tk_1 _ (List.mem_of_getElem? (i := 127) (by decide +kernel))) (by decide +kernel)
  | j + 14, hj => exact absurd hj (by omega)
theorem tl_X11 : ∀ w ∈ u_ws RX11 TX11 10, w ∈ ab_TS := by
  intro w hw
  obtain ⟨k, hk, rfl⟩ := List.mem_map.mp hw
  have hk : k < 10 := List.mem_range.mp hk
  match k, hk with
  | 0, _ => exact ab_TS_in (tk_1 _ (List.mem_of_getElem? (i := 166) (by decide +kernel))) (by decide +kernel)
  | 1, _ => exact ab_TS_in (tk_1 _ (List.mem_of_getElem? (i := 168) (by decide +kernel))) (by decide +kernel)
  | 2, _ => exact ab_TS_in (tk_1 _ (List.mem_of_getElem? (i := 170) (by decide +kernel))) (by decide +kernel)
  | 3, _ => exact ab_TS_in (tk_1 _ (List.mem_of_getElem? (i := 172) (by decide +kernel))) (by decide +kernel)
  | 4, _ => exact ab_TS_in (tk_1 _ (List.mem_of_getElem? (i := 174) (by decide +kernel))) (by decide +kernel)
  | 5, _ => exact ab_TS_in (tk_1 _ (List.mem_of_getElem? (i := 176) (by decide +kernel))) (by decide +kernel)
  | 6, _ => exact ab_TS_in (tk_1 _ (List.mem_of_getElem? (i := 178) (by decide +kernel))) (by decide +kernel)
  | 7, _ => exact ab_TS_in (tk_1 _ (List.mem_of_getElem? (i := 180) (by decide +kernel))) (by decide +kernel)
  | 8, _ => exact ab_TS_in (tk_1 _ (List.mem_of_getElem? (i := 182) (by decide +kernel))) (by decide +kernel)
  | 9, _ => exact ab_TS_in (tk_1 _ (List.mem_of_getElem? (i := 184) (by decide +kernel))) (by decide +kernel)
  | j + 10, hj => exact absurd hj (by omega)
theorem tl_X12 : ∀ w ∈ u_ws RX12 TX12 41, w ∈ ab_TS := by
  intro w hw
  obtain ⟨k, hk, rfl⟩ := List.mem_map.mp hw
  have hk : k < 41 := List.mem_range.mp hk
  match k, hk with
  | 0, _ => exact ab_TS_in (tk_5 _ (List.mem_of_getElem? (i := 157) (by decide +kernel))) (by decide +kernel)
  | 1, _ => exact ab_TS_in (tk_5 _ (List.mem_of_getElem? (i := 159) (by decide +kernel))) (by decide +kernel)
  | 2, _ => exact ab_TS_in (tk_5 _ (List.mem_of_getElem? (i := 161) (by decide +kernel))) (by decide +kernel)
  | 3, _ => exact ab_TS_in (tk_5 _ (List.mem_of_getElem? (i := 163) (by decide +kernel))) (by decide +kernel)
  | 4, _ => exact ab_TS_in (tk_5 _ (List.mem_of_getElem? (i := 165) (by decide +kernel))) (by decide +kernel)
  | 5, _ => exact ab_TS_in (tk_5 _ (List.mem_of_getElem? (i := 167) (by decide +kernel))) (by decide +kernel)
  | 6, _ => exact ab_TS_in (tk_5 _ (List.mem_of_getElem? (i := 169) (by decide +kernel))) (by decide +kernel)
  | 7, _ => exact ab_TS_in (tk_5 _ (List.mem_of_getElem? (i := 171) (by decide +kernel))) (by decide +kernel)
  | 8, _ => exact ab_TS_in (tk_5 _ (List.mem_of_getElem? (i := 173) (by decide +kernel))) (by decide +kernel)
  | 9, _ => exact ab_TS_in (tk_5 _ (List.mem_of_getElem? (i := 175) (by decide +kernel))) (by decide +kernel)
  | 10, _ => exact ab_TS_in (tk_5 _ (List.mem_of_getElem? (i := 177) (by decide +kernel))) (by decide +kernel)
  | 11, _ => exact ab_TS_in (tk_5 _ (List.mem_of_getElem? (i := 179) (by decide +kernel))) (by decide +kernel)
  | 12, _ => exact ab_TS_in (tk_5 _ (List.mem_of_getElem? (i := 181) (by decide +kernel))) (by decide +kernel)
  | 13, _ => exact ab_TS_in (tk_5 _ (List.mem_of_getElem? (i := 183) (by decide +kernel))) (by decide +kernel)
  | 14, _ => exact ab_TS_in (tk_5 _ (List.mem_of_getElem? (i := 185) (by decide +kernel))) (by decide +kernel)
  | 15, _ => exact ab_TS_in (tk_5 _ (List.mem_of_getElem? (i := 187) (by decide +kernel))) (by decide +kernel)
  | 16, _ => exact ab_TS_in (tk_5 _ (List.mem_of_getElem? (i := 189) (by decide +kernel))) (by decide +kernel)
  | 17, _ => exact ab_TS_in (tk_5 _ (List.mem_of_getElem? (i := 191) (by decide +kernel))) (by decide +kernel)
  | 18, _ => exact ab_TS_in (tk_5 _ (List.mem_of_getElem? (i := 193) (by decide +kernel))) (by decide +kernel)
  | 19, _ => exact ab_TS_in (tk_5 _ (List.mem_of_getElem? (i := 195) (by decide +kernel))) (by decide +kernel)
  | 20, _ => exact ab_TS_in (tk_5 _ (List.mem_of_getElem? (i := 197) (by decide +kernel))) (by decide +kernel)
  | 21, _ => exact ab_TS_in (tk_5 _ (List.mem_of_getElem? (i := 199) (by decide +kernel))) (by decide +kernel)
  | 22, _ => exact ab_TS_in (tk_5 _ (List.mem_of_getElem? (i := 201) (by decide +kernel))) (by decide +kernel)
  | 23, _ => exact ab_TS_in (tk_5 _ (List.mem_of_getElem? (i := 203) (by decide +kernel))) (by decide +kernel)
  | 24, _ => exact ab_TS_in (tk_5 _ (List.mem_of_getElem? (i := 205) (by decide +kernel))) (by decide +kernel)
  | 25, _ => exact ab_TS_in (tk_5 _ (List.mem_of_getElem? (i := 207) (by decide +kernel))) (by decide +kernel)
  | 26, _ => exact ab_TS_in (tk_5 _ (List.mem_of_getElem? (i := 209) (by decide +kernel))) (by decide +kernel)
  | 27, _ => exact ab_TS_in (tk_5 _ (List.mem_of_getElem? (i := 211) (by decide +kernel))) (by decide +kernel)
  | 28, _ => exact ab_TS_in (tk_5 _ (List.mem_of_getElem? (i := 213) (by decide +kernel))) (by decide +kernel)
  | 29, _ => exact ab_TS_in (tk_5 _ (List.mem_of_getElem? (i := 215) (by decide +kernel))) (by decide +kernel)
  | 30, _ => exact ab_TS_in (tk_5 _ (List.mem_of_getElem? (i := 217) (by decide +kernel))) (by decide +kernel)
  | 31, _ => exact ab_TS_in (tk_5 _ (List.mem_of_getElem? (i := 219) (by decide +kernel))) (by decide +kernel)
  | 32, _ => exact ab_TS_in (tk_5 _ (List.mem_of_getElem? (i := 221) (by decide +kernel))) (by decide +kernel)
  | 33, _ => exact ab_TS_in (tk_5 _ (List.mem_of_getElem? (i := 223) (by decide +kernel))) (by decide +kernel)
  | 34, _ => exact ab_TS_in (tk_5 _ (List.mem_of_getElem? (i := 225) (by decide +kernel))) (by decide +kernel)
  | 35, _ => exact ab_TS_in (tk_5 _ (List.mem_of_getElem? (i := 227) (by decide +kernel))) (by decide +kernel)
  | 36, _ => exact ab_TS_in (tk_5 _ (List.mem_of_getElem? (i := 229) (by decide +kernel))) (by decide +kernel)
  | 37, _ => exact ab_TS_in (tk_5 _ (List.mem_of_getElem? (i := 231) (by decide +kernel))) (by decide +kernel)
  | 38, _ => exact ab_TS_in (tk_5 _ (List.mem_of_getElem? (i := 233) (by decide +kernel))) (by decide +kernel)
  | 39, _ => exact ab_TS_in (tk_5 _ (List.mem_of_getElem? (i := 235) (by decide +kernel))) (by decide +kernel)
  | 40, _ => exact ab_TS_in (tk_5 _ (List.mem_of_getElem? (i := 237) (by decide +kernel))) (by decide +kernel)
  | j + 41, hj => exact absurd hj (by omega)
theorem ab_ci : ∀ (ci : Nat) (C : String) (T : u_T) (N : Nat), vwCl[ci]? = some (C, T, N) → (∀ w ∈ u_ws C T N, w ∈ ab_TS) ∧ (∃ ty : Nat → FieldType, ∀ k, k < N → parseFieldDescriptor (T k).2.2.1 = some (ty k)) ∧ (∀ a, a < N → ∀ b, b < N → a ≠ b → (T a).2.1 ≠ (T b).2.1)
  | 0, _, _, _, h => by cases h; exact ⟨tl_X0, ⟨tyX0, tyX0_ok⟩, nmX0⟩
  | 1, _, _, _, h => by cases h; exact ⟨tl_X1, ⟨tyX1, tyX1_ok⟩, nmX1⟩
  | 2, _, _, _, h => by cases h; exact ⟨tl_X2, ⟨tyX2, tyX2_ok⟩, nmX2⟩
  | 3, _, _, _, h => by cases h; exact ⟨tl_X3, ⟨tyX3, tyX3_ok⟩, nmX3⟩
  | 4, _, _, _, h => by cases h; exact ⟨tl_X4, ⟨tyX4, tyX4_ok⟩, nmX4⟩
  | 5, _, _, _, h => by cases h; exact ⟨tl_X5, ⟨tyX5, tyX5_ok⟩, nmX5⟩
  | 6, _, _, _, h => by cases h; exact ⟨tl_X6, ⟨tyX6, tyX6_ok⟩, nmX6⟩
  | 7, _, _, _, h => by cases h; exact ⟨tl_X7, ⟨tyX7, tyX7_ok⟩, nmX7⟩
  | 8, _, _, _, h => by cases h; exact ⟨tl_X8, ⟨tyX8, tyX8_ok⟩, nmX8⟩
  | 9, _, _, _, h => by cases h; exact ⟨tl_X9, ⟨tyX9, tyX9_ok⟩, nmX9⟩
  | 10, _, _, _, h => by cases h; exact ⟨tl_X10, ⟨tyX10, tyX10_ok⟩, nmX10⟩
  | 11, _, _, _, h => by cases h; exact ⟨tl_X11, ⟨tyX11, tyX11_ok⟩, nmX11⟩
  | 12, _, _, _, h => by cases h; exact ⟨tl_X12, ⟨tyX12, tyX12_ok⟩, nmX12⟩
  | n + 13, _, _, _, h => by simp [vwCl] at h
