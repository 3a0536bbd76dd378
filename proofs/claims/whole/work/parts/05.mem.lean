theorem lay_0_0 : u_lay RX0 TX0 0 ∈ lw_g := lw_g_in (List.mem_of_getElem? (i := 366) (by decide +kernel)) (by decide +kernel)
theorem lay_0_1 : u_lay RX0 TX0 1 ∈ lw_g := lw_g_in (List.mem_of_getElem? (i := 368) (by decide +kernel)) (by decide +kernel)
theorem lay_0_2 : u_lay RX0 TX0 2 ∈ lw_g := lw_g_in (List.mem_of_getElem? (i := 370) (by decide +kernel)) (by decide +kernel)
theorem lay_0_3 : u_lay RX0 TX0 3 ∈ lw_g := lw_g_in (List.mem_of_getElem? (i := 372) (by decide +kernel)) (by decide +kernel)
theorem lay_0_4 : u_lay RX0 TX0 4 ∈ lw_g := lw_g_in (List.mem_of_getElem? (i := 374) (by decide +kernel)) (by decide +kernel)
theorem lay_0_5 : u_lay RX0 TX0 5 ∈ lw_g := lw_g_in (List.mem_of_getElem? (i := 376) (by decide +kernel)) (by decide +kernel)
theorem gin_0 : ∀ w ∈ u_ws RX0 TX0 6, w ∈ lw_g := by
  intro w hw
  obtain ⟨k, hk, rfl⟩ := List.mem_map.mp hw
  have hk := List.mem_range.mp hk
  match k, hk with
  | 0, _ => exact lay_0_0
  | 1, _ => exact lay_0_1
  | 2, _ => exact lay_0_2
  | 3, _ => exact lay_0_3
  | 4, _ => exact lay_0_4
  | 5, _ => exact lay_0_5
  | k + 6, h => exact absurd h (by omega)
theorem lay_1_0 : u_lay RX2 TX2 0 ∈ lw_g := lw_g_in (List.mem_of_getElem? (i := 232) (by decide +kernel)) (by decide +kernel)
theorem lay_1_1 : u_lay RX2 TX2 1 ∈ lw_g := lw_g_in (List.mem_of_getElem? (i := 234) (by decide +kernel)) (by decide +kernel)
theorem lay_1_2 : u_lay RX2 TX2 2 ∈ lw_g := lw_g_in (List.mem_of_getElem? (i := 236) (by decide +kernel)) (by decide +kernel)
theorem gin_1 : ∀ w ∈ u_ws RX2 TX2 3, w ∈ lw_g := by
  intro w hw
  obtain ⟨k, hk, rfl⟩ := List.mem_map.mp hw
  have hk := List.mem_range.mp hk
  match k, hk with
  | 0, _ => exact lay_1_0
  | 1, _ => exact lay_1_1
  | 2, _ => exact lay_1_2
  | k + 3, h => exact absurd h (by omega)
theorem lay_2_0 : u_lay RX4 TX4 0 ∈ lw_g := lw_g_in (List.mem_of_getElem? (i := 214) (by decide +kernel)) (by decide +kernel)
theorem lay_2_1 : u_lay RX4 TX4 1 ∈ lw_g := lw_g_in (List.mem_of_getElem? (i := 216) (by decide +kernel)) (by decide +kernel)
theorem lay_2_2 : u_lay RX4 TX4 2 ∈ lw_g := lw_g_in (List.mem_of_getElem? (i := 218) (by decide +kernel)) (by decide +kernel)
theorem gin_2 : ∀ w ∈ u_ws RX4 TX4 3, w ∈ lw_g := by
  intro w hw
  obtain ⟨k, hk, rfl⟩ := List.mem_map.mp hw
  have hk := List.mem_range.mp hk
  match k, hk with
  | 0, _ => exact lay_2_0
  | 1, _ => exact lay_2_1
  | 2, _ => exact lay_2_2
  | k + 3, h => exact absurd h (by omega)
theorem lay_3_0 : u_lay RX5 TX5 0 ∈ lw_g := lw_g_in (List.mem_of_getElem? (i := 255) (by decide +kernel)) (by decide +kernel)
theorem lay_3_1 : u_lay RX5 TX5 1 ∈ lw_g := lw_g_in (List.mem_of_getElem? (i := 257) (by decide +kernel)) (by decide +kernel)
theorem lay_3_2 : u_lay RX5 TX5 2 ∈ lw_g := lw_g_in (List.mem_of_getElem? (i := 259) (by decide +kernel)) (by decide +kernel)
theorem gin_3 : ∀ w ∈ u_ws RX5 TX5 3, w ∈ lw_g := by
  intro w hw
  obtain ⟨k, hk, rfl⟩ := List.mem_map.mp hw
  have hk := List.mem_range.mp hk
  match k, hk with
  | 0, _ => exact lay_3_0
  | 1, _ => exact lay_3_1
  | 2, _ => exact lay_3_2
  | k + 3, h => exact absurd h (by omega)
theorem lay_4_0 : u_lay RX7 TX7 0 ∈ lw_g := lw_g_in (List.mem_of_getElem? (i := 317) (by decide +kernel)) (by decide +kernel)
theorem lay_4_1 : u_lay RX7 TX7 1 ∈ lw_g := lw_g_in (List.mem_of_getElem? (i := 319) (by decide +kernel)) (by decide +kernel)
theorem lay_4_2 : u_lay RX7 TX7 2 ∈ lw_g := lw_g_in (List.mem_of_getElem? (i := 321) (by decide +kernel)) (by decide +kernel)
theorem lay_4_3 : u_lay RX7 TX7 3 ∈ lw_g := lw_g_in (List.mem_of_getElem? (i := 323) (by decide +kernel)) (by decide +kernel)
theorem lay_4_4 : u_lay RX7 TX7 4 ∈ lw_g := lw_g_in (List.mem_of_getElem? (i := 325) (by decide +kernel)) (by decide +kernel)
theorem lay_4_5 : u_lay RX7 TX7 5 ∈ lw_g := lw_g_in (List.mem_of_getElem? (i := 327) (by decide +kernel)) (by decide +kernel)
theorem lay_4_6 : u_lay RX7 TX7 6 ∈ lw_g := lw_g_in (List.mem_of_getElem? (i := 329) (by decide +kernel)) (by decide +kernel)
theorem lay_4_7 : u_lay RX7 TX7 7 ∈ lw_g := lw_g_in (List.mem_of_getElem? (i := 331) (by decide +kernel)) (by decide +kernel)
theorem lay_4_8 : u_lay RX7 TX7 8 ∈ lw_g := lw_g_in (List.mem_of_getElem? (i := 333) (by decide +kernel)) (by decide +kernel)
theorem lay_4_9 : u_lay RX7 TX7 9 ∈ lw_g := lw_g_in (List.mem_of_getElem? (i := 335) (by decide +kernel)) (by decide +kernel)
theorem lay_4_10 : u_lay RX7 TX7 10 ∈ lw_g := lw_g_in (List.mem_of_getElem? (i := 337) (by decide +kernel)) (by decide +kernel)
theorem lay_4_11 : u_lay RX7 TX7 11 ∈ lw_g := lw_g_in (List.mem_of_getElem? (i := 339) (by decide +kernel)) (by decide +kernel)
theorem lay_4_12 : u_lay RX7 TX7 12 ∈ lw_g := lw_g_in (List.mem_of_getElem? (i := 341) (by decide +kernel)) (by decide +kernel)
theorem lay_4_13 : u_lay RX7 TX7 13 ∈ lw_g := lw_g_in (List.mem_of_getElem? (i := 343) (by decide +kernel)) (by decide +kernel)
theorem gin_4 : ∀ w ∈ u_ws RX7 TX7 14, w ∈ lw_g := by
  intro w hw
  obtain ⟨k, hk, rfl⟩ := List.mem_map.mp hw
  have hk := List.mem_range.mp hk
  match k, hk with
  | 0, _ => exact lay_4_0
  | 1, _ => exact lay_4_1
  | 2, _ => exact lay_4_2
  | 3, _ => exact lay_4_3
  | 4, _ => exact lay_4_4
  | 5, _ => exact lay_4_5
  | 6, _ => exact lay_4_6
  | 7, _ => exact lay_4_7
  | 8, _ => exact lay_4_8
  | 9, _ => exact lay_4_9
  | 10, _ => exact lay_4_10
  | 11, _ => exact lay_4_11
  | 12, _ => exact lay_4_12
  | 13, _ => exact lay_4_13
  | k + 14, h => exact absurd h (by omega)
theorem lay_5_0 : u_lay RX9 TX9 0 ∈ lw_g := lw_g_in (List.mem_of_getElem? (i := 136) (by decide +kernel)) (by decide +kernel)
theorem lay_5_1 : u_lay RX9 TX9 1 ∈ lw_g := lw_g_in (List.mem_of_getElem? (i := 138) (by decide +kernel)) (by decide +kernel)
theorem lay_5_2 : u_lay RX9 TX9 2 ∈ lw_g := lw_g_in (List.mem_of_getElem? (i := 140) (by decide +kernel)) (by decide +kernel)
theorem lay_5_3 : u_lay RX9 TX9 3 ∈ lw_g := lw_g_in (List.mem_of_getElem? (i := 142) (by decide +kernel)) (by decide +kernel)
theorem lay_5_4 : u_lay RX9 TX9 4 ∈ lw_g := lw_g_in (List.mem_of_getElem? (i := 144) (by decide +kernel)) (by decide +kernel)
theorem lay_5_5 : u_lay RX9 TX9 5 ∈ lw_g := lw_g_in (List.mem_of_getElem? (i := 146) (by decide +kernel)) (by decide +kernel)
theorem lay_5_6 : u_lay RX9 TX9 6 ∈ lw_g := lw_g_in (List.mem_of_getElem? (i := 148) (by decide +kernel)) (by decide +kernel)
theorem lay_5_7 : u_lay RX9 TX9 7 ∈ lw_g := lw_g_in (List.mem_of_getElem? (i := 150) (by decide +kernel)) (by decide +kernel)
theorem lay_5_8 : u_lay RX9 TX9 8 ∈ lw_g := lw_g_in (List.mem_of_getElem? (i := 152) (by decide +kernel)) (by decide +kernel)
theorem gin_5 : ∀ w ∈ u_ws RX9 TX9 9, w ∈ lw_g := by
  intro w hw
  obtain ⟨k, hk, rfl⟩ := List.mem_map.mp hw
  have hk := List.mem_range.mp hk
  match k, hk with
  | 0, _ => exact lay_5_0
  | 1, _ => exact lay_5_1
  | 2, _ => exact lay_5_2
  | 3, _ => exact lay_5_3
  | 4, _ => exact lay_5_4
  | 5, _ => exact lay_5_5
  | 6, _ => exact lay_5_6
  | 7, _ => exact lay_5_7
  | 8, _ => exact lay_5_8
  | k + 9, h => exact absurd h (by omega)
theorem lay_6_0 : u_lay RX10 TX10 0 ∈ lw_g := lw_g_in (List.mem_of_getElem? (i := 183) (by decide +kernel)) (by decide +kernel)
theorem lay_6_1 : u_lay RX10 TX10 1 ∈ lw_g := lw_g_in (List.mem_of_getElem? (i := 185) (by decide +kernel)) (by decide +kernel)
theorem lay_6_2 : u_lay RX10 TX10 2 ∈ lw_g := lw_g_in (List.mem_of_getElem? (i := 187) (by decide +kernel)) (by decide +kernel)
theorem lay_6_3 : u_lay RX10 TX10 3 ∈ lw_g := lw_g_in (List.mem_of_getElem? (i := 189) (by decide +kernel)) (by decide +kernel)
theorem lay_6_4 : u_lay RX10 TX10 4 ∈ lw_g := lw_g_in (List.mem_of_getElem? (i := 191) (by decide +kernel)) (by decide +kernel)
theorem lay_6_5 : u_lay RX10 TX10 5 ∈ lw_g := lw_g_in (List.mem_of_getElem? (i := 193) (by decide +kernel)) (by decide +kernel)
theorem lay_6_6 : u_lay RX10 TX10 6 ∈ lw_g := lw_g_in (List.mem_of_getElem? (i := 195) (by decide +kernel)) (by decide +kernel)
theorem lay_6_7 : u_lay RX10 TX10 7 ∈ lw_g := lw_g_in (List.mem_of_getElem? (i := 197) (by decide +kernel)) (by decide +kernel)
theorem gin_6 : ∀ w ∈ u_ws RX10 TX10 8, w ∈ lw_g := by
  intro w hw
  obtain ⟨k, hk, rfl⟩ := List.mem_map.mp hw
  have hk := List.mem_range.mp hk
  match k, hk with
  | 0, _ => exact lay_6_0
  | 1, _ => exact lay_6_1
  | 2, _ => exact lay_6_2
  | 3, _ => exact lay_6_3
  | 4, _ => exact lay_6_4
  | 5, _ => exact lay_6_5
  | 6, _ => exact lay_6_6
  | 7, _ => exact lay_6_7
  | k + 8, h => exact absurd h (by omega)
theorem lay_7_0 : u_lay RX11 TX11 0 ∈ lw_g := lw_g_in (List.mem_of_getElem? (i := 390) (by decide +kernel)) (by decide +kernel)
theorem lay_7_1 : u_lay RX11 TX11 1 ∈ lw_g := lw_g_in (List.mem_of_getElem? (i := 392) (by decide +kernel)) (by decide +kernel)
theorem lay_7_2 : u_lay RX11 TX11 2 ∈ lw_g := lw_g_in (List.mem_of_getElem? (i := 394) (by decide +kernel)) (by decide +kernel)
theorem lay_7_3 : u_lay RX11 TX11 3 ∈ lw_g := lw_g_in (List.mem_of_getElem? (i := 396) (by decide +kernel)) (by decide +kernel)
theorem lay_7_4 : u_lay RX11 TX11 4 ∈ lw_g := lw_g_in (List.mem_of_getElem? (i := 398) (by decide +kernel)) (by decide +kernel)
theorem lay_7_5 : u_lay RX11 TX11 5 ∈ lw_g := lw_g_in (List.mem_of_getElem? (i := 400) (by decide +kernel)) (by decide +kernel)
theorem lay_7_6 : u_lay RX11 TX11 6 ∈ lw_g := lw_g_in (List.mem_of_getElem? (i := 402) (by decide +kernel)) (by decide +kernel)
theorem lay_7_7 : u_lay RX11 TX11 7 ∈ lw_g := lw_g_in (List.mem_of_getElem? (i := 404) (by decide +kernel)) (by decide +kernel)
theorem lay_7_8 : u_lay RX11 TX11 8 ∈ lw_g := lw_g_in (List.mem_of_getElem? (i := 406) (by decide +kernel)) (by decide +kernel)
theorem lay_7_9 : u_lay RX11 TX11 9 ∈ lw_g := lw_g_in (List.mem_of_getElem? (i := 408) (by decide +kernel)) (by decide +kernel)
theorem lay_7_10 : u_lay RX11 TX11 10 ∈ lw_g := lw_g_in (List.mem_of_getElem? (i := 410) (by decide +kernel)) (by decide +kernel)
theorem gin_7 : ∀ w ∈ u_ws RX11 TX11 11, w ∈ lw_g := by
  intro w hw
  obtain ⟨k, hk, rfl⟩ := List.mem_map.mp hw
  have hk := List.mem_range.mp hk
  match k, hk with
  | 0, _ => exact lay_7_0
  | 1, _ => exact lay_7_1
  | 2, _ => exact lay_7_2
  | 3, _ => exact lay_7_3
  | 4, _ => exact lay_7_4
  | 5, _ => exact lay_7_5
  | 6, _ => exact lay_7_6
  | 7, _ => exact lay_7_7
  | 8, _ => exact lay_7_8
  | 9, _ => exact lay_7_9
  | 10, _ => exact lay_7_10
  | k + 11, h => exact absurd h (by omega)
theorem lay_8_0 : u_lay RX12 TX12 0 ∈ lw_g := lw_g_in (List.mem_of_getElem? (i := 1303) (by decide +kernel)) (by decide +kernel)
theorem lay_8_1 : u_lay RX12 TX12 1 ∈ lw_g := lw_g_in (List.mem_of_getElem? (i := 1305) (by decide +kernel)) (by decide +kernel)
theorem lay_8_2 : u_lay RX12 TX12 2 ∈ lw_g := lw_g_in (List.mem_of_getElem? (i := 1307) (by decide +kernel)) (by decide +kernel)
theorem lay_8_3 : u_lay RX12 TX12 3 ∈ lw_g := lw_g_in (List.mem_of_getElem? (i := 1309) (by decide +kernel)) (by decide +kernel)
theorem lay_8_4 : u_lay RX12 TX12 4 ∈ lw_g := lw_g_in (List.mem_of_getElem? (i := 1311) (by decide +kernel)) (by decide +kernel)
theorem lay_8_5 : u_lay RX12 TX12 5 ∈ lw_g := lw_g_in (List.mem_of_getElem? (i := 1313) (by decide +kernel)) (by decide +kernel)
theorem lay_8_6 : u_lay RX12 TX12 6 ∈ lw_g := lw_g_in (List.mem_of_getElem? (i := 1315) (by decide +kernel)) (by decide +kernel)
theorem lay_8_7 : u_lay RX12 TX12 7 ∈ lw_g := lw_g_in (List.mem_of_getElem? (i := 1317) (by decide +kernel)) (by decide +kernel)
theorem lay_8_8 : u_lay RX12 TX12 8 ∈ lw_g := lw_g_in (List.mem_of_getElem? (i := 1319) (by decide +kernel)) (by decide +kernel)
theorem lay_8_9 : u_lay RX12 TX12 9 ∈ lw_g := lw_g_in (List.mem_of_getElem? (i := 1321) (by decide +kernel)) (by decide +kernel)
theorem lay_8_10 : u_lay RX12 TX12 10 ∈ lw_g := lw_g_in (List.mem_of_getElem? (i := 1323) (by decide +kernel)) (by decide +kernel)
theorem lay_8_11 : u_lay RX12 TX12 11 ∈ lw_g := lw_g_in (List.mem_of_getElem? (i := 1325) (by decide +kernel)) (by decide +kernel)
theorem lay_8_12 : u_lay RX12 TX12 12 ∈ lw_g := lw_g_in (List.mem_of_getElem? (i := 1327) (by decide +kernel)) (by decide +kernel)
theorem lay_8_13 : u_lay RX12 TX12 13 ∈ lw_g := lw_g_in (List.mem_of_getElem? (i := 1329) (by decide +kernel)) (by decide +kernel)
theorem lay_8_14 : u_lay RX12 TX12 14 ∈ lw_g := lw_g_in (List.mem_of_getElem? (i := 1331) (by decide +kernel)) (by decide +kernel)
theorem lay_8_15 : u_lay RX12 TX12 15 ∈ lw_g := lw_g_in (List.mem_of_getElem? (i := 1333) (by decide +kernel)) (by decide +kernel)
theorem lay_8_16 : u_lay RX12 TX12 16 ∈ lw_g := lw_g_in (List.mem_of_getElem? (i := 1335) (by decide +kernel)) (by decide +kernel)
theorem lay_8_17 : u_lay RX12 TX12 17 ∈ lw_g := lw_g_in (List.mem_of_getElem? (i := 1337) (by decide +kernel)) (by decide +kernel)
theorem lay_8_18 : u_lay RX12 TX12 18 ∈ lw_g := lw_g_in (List.mem_of_getElem? (i := 1339) (by decide +kernel)) (by decide +kernel)
theorem lay_8_19 : u_lay RX12 TX12 19 ∈ lw_g := lw_g_in (List.mem_of_getElem? (i := 1341) (by decide +kernel)) (by decide +kernel)
theorem lay_8_20 : u_lay RX12 TX12 20 ∈ lw_g := lw_g_in (List.mem_of_getElem? (i := 1343) (by decide +kernel)) (by decide +kernel)
theorem lay_8_21 : u_lay RX12 TX12 21 ∈ lw_g := lw_g_in (List.mem_of_getElem? (i := 1345) (by decide +kernel)) (by decide +kernel)
theorem lay_8_22 : u_lay RX12 TX12 22 ∈ lw_g := lw_g_in (List.mem_of_getElem? (i := 1347) (by decide +kernel)) (by decide +kernel)
theorem lay_8_23 : u_lay RX12 TX12 23 ∈ lw_g := lw_g_in (List.mem_of_getElem? (i := 1349) (by decide +kernel)) (by decide +kernel)
theorem lay_8_24 : u_lay RX12 TX12 24 ∈ lw_g := lw_g_in (List.mem_of_getElem? (i := 1351) (by decide +kernel)) (by decide +kernel)
theorem lay_8_25 : u_lay RX12 TX12 25 ∈ lw_g := lw_g_in (List.mem_of_getElem? (i := 1353) (by decide +kernel)) (by decide +kernel)
theorem lay_8_26 : u_lay RX12 TX12 26 ∈ lw_g := lw_g_in (List.mem_of_getElem? (i := 1355) (by decide +kernel)) (by decide +kernel)
theorem lay_8_27 : u_lay RX12 TX12 27 ∈ lw_g := lw_g_in (List.mem_of_getElem? (i := 1357) (by decide +kernel)) (by decide +kernel)
theorem lay_8_28 : u_lay RX12 TX12 28 ∈ lw_g := lw_g_in (List.mem_of_getElem? (i := 1359) (by decide +kernel)) (by decide +kernel)
theorem lay_8_29 : u_lay RX12 TX12 29 ∈ lw_g := lw_g_in (List.mem_of_getElem? (i := 1361) (by decide +kernel)) (by decide +kernel)
theorem lay_8_30 : u_lay RX12 TX12 30 ∈ lw_g := lw_g_in (List.mem_of_getElem? (i := 1363) (by decide +kernel)) (by decide +kernel)
theorem gin_8 : ∀ w ∈ u_ws RX12 TX12 31, w ∈ lw_g := by
  intro w hw
  obtain ⟨k, hk, rfl⟩ := List.mem_map.mp hw
  have hk := List.mem_range.mp hk
  match k, hk with
  | 0, _ => exact lay_8_0
  | 1, _ => exact lay_8_1
  | 2, _ => exact lay_8_2
  | 3, _ => exact lay_8_3
  | 4, _ => exact lay_8_4
  | 5, _ => exact lay_8_5
  | 6, _ => exact lay_8_6
  | 7, _ => exact lay_8_7
  | 8, _ => exact lay_8_8
  | 9, _ => exact lay_8_9
  | 10, _ => exact lay_8_10
  | 11, _ => exact lay_8_11
  | 12, _ => exact lay_8_12
  | 13, _ => exact lay_8_13
  | 14, _ => exact lay_8_14
  | 15, _ => exact lay_8_15
  | 16, _ => exact lay_8_16
  | 17, _ => exact lay_8_17
  | 18, _ => exact lay_8_18
  | 19, _ => exact lay_8_19
  | 20, _ => exact lay_8_20
  | 21, _ => exact lay_8_21
  | 22, _ => exact lay_8_22
  | 23, _ => exact lay_8_23
  | 24, _ => exact lay_8_24
  | 25, _ => exact lay_8_25
  | 26, _ => exact lay_8_26
  | 27, _ => exact lay_8_27
  | 28, _ => exact lay_8_28
  | 29, _ => exact lay_8_29
  | 30, _ => exact lay_8_30
  | k + 31, h => exact absurd h (by omega)
theorem gcl (ci : Nat) (h : ci < 9) : vwCl[ci]? = some ((gC ci).1, (gC ci).2.1, (gC ci).2.2) := by
  match ci, h with
  | 0, _ => rfl
  | 1, _ => rfl
  | 2, _ => rfl
  | 3, _ => rfl
  | 4, _ => rfl
  | 5, _ => rfl
  | 6, _ => rfl
  | 7, _ => rfl
  | 8, _ => rfl
  | k + 9, h => exact absurd h (by omega)
theorem gin (ci : Nat) (h : ci < 9) : ∀ w ∈ u_ws (gC ci).1 (gC ci).2.1 (gC ci).2.2, w ∈ lw_g := by
  match ci, h with
  | 0, _ => exact gin_0
  | 1, _ => exact gin_1
  | 2, _ => exact gin_2
  | 3, _ => exact gin_3
  | 4, _ => exact gin_4
  | 5, _ => exact gin_5
  | 6, _ => exact gin_6
  | 7, _ => exact gin_7
  | 8, _ => exact gin_8
  | k + 9, h => exact absurd h (by omega)
theorem gtyok (ci : Nat) (h : ci < 9) : ∀ k, k < (gC ci).2.2 → parseFieldDescriptor ((gC ci).2.1 k).2.2.1 = some (gT ci k) := by
  match ci, h with
  | 0, _ => exact tyX0_ok
  | 1, _ => exact tyX2_ok
  | 2, _ => exact tyX4_ok
  | 3, _ => exact tyX5_ok
  | 4, _ => exact tyX7_ok
  | 5, _ => exact tyX9_ok
  | 6, _ => exact tyX10_ok
  | 7, _ => exact tyX11_ok
  | 8, _ => exact tyX12_ok
  | k + 9, h => exact absurd h (by omega)
theorem gnm (ci : Nat) (h : ci < 9) : ∀ a, a < (gC ci).2.2 → ∀ b, b < (gC ci).2.2 → a ≠ b → ((gC ci).2.1 a).2.1 ≠ ((gC ci).2.1 b).2.1 := by
  match ci, h with
  | 0, _ => exact nmX0
  | 1, _ => exact nmX2
  | 2, _ => exact nmX4
  | 3, _ => exact nmX5
  | 4, _ => exact nmX7
  | 5, _ => exact nmX9
  | 6, _ => exact nmX10
  | 7, _ => exact nmX11
  | 8, _ => exact nmX12
  | k + 9, h => exact absurd h (by omega)
def gFL (own : String) (idx ci k : Nat) : Prop := ci < 9 ∧ k < (gC ci).2.2 ∧ ((Cond.fieldLink own idx ((gC ci).2.1 k).1 ((gC ci).2.1 k).2.1 ((gC ci).2.1 k).2.2.1 ∈ lw_g) ∨ ∃ host, Cond.fieldLinkNest own idx ((gC ci).2.1 k).1 ((gC ci).2.1 k).2.1 ((gC ci).2.1 k).2.2.1 host ∈ lw_n)
section GM
variable {E : gE} {R : Room} {Y : gY} {mc u pc : Nat} {ls : List (Nat × Value)} {st : List Value} {n : Nat} {sh : Nat → Nat × Nat} {z : gS} {K : gK}
variable {p : Program} {e : Env} {s : State} {m : MethodId} {args : Array Value} {below : List Frame} {meth : Method} {c : Code} {H : Heap} {locs : List Loc} {la : Array Slot} {Q : State → Prop} {cells slots : Nat} {rest : List Value}
theorem gGet {ws : va_W} {q0 a idx ci k : Nat} {fs : List Value} {v : Value} (C : gCtx E Y p s m args meth c) (hP : va_P (gD E.2.1) vwCl ws H) (hF : gFL Y.1.cls idx ci k) (he : ws[q0]? = some (a, .inr (ci, fs))) (hv : fs[k]? = some v) (hd : decode Y.2.1 pc = .ok (.getfield idx, 3))
    (kk : W p E.1 e R s m args below meth c H locs cells slots Q (F0 m (pc + 3) la (v :: rest))) : W p E.1 e R s m args below meth c H locs cells slots Q (F0 m pc la (.ref a :: rest)) := by
  obtain ⟨hci, hkN, h | ⟨host, h⟩⟩ := hF
  · exact va_get C.1 C.2.1 C.2.2.2.2.2.2.1 (gin ci hci) C.2.2.2.2.2.1 C.2.2.2.2.2.2.2.1 hP q0 he (gcl ci hci) k hkN (C.2.2.2.2.2.2.1 _ h) (fun x hx => hx) hv hd kk
  · exact va_getN C.1 C.2.1 C.2.2.2.2.2.2.1 (gin ci hci) C.2.2.2.2.2.1 C.2.2.2.2.2.2.2.1 hP q0 he (gcl ci hci) k hkN (va_Nw.use rfl (C.2.2.2.2.2.2.2.2.1 _ h)) (fun x hx => hx) hv hd kk
theorem gPut {ws : va_W} {q0 a idx ci k : Nat} {fs : List Value} {v : Value} (C : gCtx E Y p s m args meth c) (hP : va_P (gD E.2.1) vwCl ws H) (hD : va_D (gA E.2.1) ws) (hS : va_S (gA E.2.1) s.heap H locs) (hF : gFL Y.1.cls idx ci k) (hfin : ((gC ci).2.1 k).2.2.2 = false) (he : ws[q0]? = some (a, .inr (ci, fs))) (hl : k < fs.length) (hn : narrow (gT ci k) v = v) (hfit : fits (gT ci k) v = true) (hd : decode Y.2.1 pc = .ok (.putfield idx, 3))
    (kk : ∀ (H1 : Heap) (locs1 : List Loc), va_P (gD E.2.1) vwCl (ws.set q0 (a, .inr (ci, fs.set k v))) H1 → va_S (gA E.2.1) s.heap H1 locs1 → W p E.1 e R s m args below meth c H1 locs1 cells slots Q (F0 m (pc + 3) la rest)) : W p E.1 e R s m args below meth c H locs cells slots Q (F0 m pc la (v :: .ref a :: rest)) := by
  obtain ⟨hci, hkN, h | ⟨host, h⟩⟩ := hF
  · exact va_put C.1 C.2.1 C.2.2.2.2.2.2.1 (gin ci hci) (gT ci) (gtyok ci hci) (gnm ci hci) C.2.2.2.2.2.1 C.2.2.2.2.2.2.2.1 hP hD hS q0 he (gcl ci hci) k hkN (C.2.2.2.2.2.2.1 _ h) (fun x hx => hx) hfin (gtyok ci hci k hkN) hn hfit hl hd (fun H1 l1 a1 _ a3 => kk H1 l1 a1 a3)
  · exact va_putN C.1 C.2.1 C.2.2.2.2.2.2.1 (gin ci hci) (gT ci) (gtyok ci hci) (gnm ci hci) C.2.2.2.2.2.1 C.2.2.2.2.2.2.2.1 hP hD hS q0 he (gcl ci hci) k hkN (va_Nw.use rfl (C.2.2.2.2.2.2.2.2.1 _ h)) (fun x hx => hx) hfin (gtyok ci hci k hkN) hn hfit hl hd (fun H1 l1 a1 _ a3 => kk H1 l1 a1 a3)
theorem gPutF {ws : va_W} {q0 a idx ci k : Nat} {fs : List Value} {v : Value} (C : gCtx E Y p s m args meth c) (hP : va_P (gD E.2.1) vwCl ws H) (hD : va_D (gA E.2.1) ws) (hS : va_S (gA E.2.1) s.heap H locs) (hci : ci < 9) (hkN : k < (gC ci).2.2) (h : Cond.fieldLink Y.1.cls idx ((gC ci).2.1 k).1 ((gC ci).2.1 k).2.1 ((gC ci).2.1 k).2.2.1 ∈ lw_g) (hfin : ((gC ci).2.1 k).2.2.2 = true) (hy : Y.1.name = "<init>") (hdecl : ((gC ci).2.1 k).1 = Y.1.cls) (he : ws[q0]? = some (a, .inr (ci, fs))) (hl : k < fs.length) (hn : narrow (gT ci k) v = v) (hfit : fits (gT ci k) v = true) (hd : decode Y.2.1 pc = .ok (.putfield idx, 3))
    (kk : ∀ (H1 : Heap) (locs1 : List Loc), va_P (gD E.2.1) vwCl (ws.set q0 (a, .inr (ci, fs.set k v))) H1 → va_S (gA E.2.1) s.heap H1 locs1 → W p E.1 e R s m args below meth c H1 locs1 cells slots Q (F0 m (pc + 3) la rest)) : W p E.1 e R s m args below meth c H locs cells slots Q (F0 m pc la (v :: .ref a :: rest)) :=
  va_putF C.1 C.2.1 C.2.2.2.2.2.2.1 (gin ci hci) (gT ci) (gtyok ci hci) (gnm ci hci) C.2.2.2.2.2.1 C.2.2.2.2.2.2.2.1 hP hD hS q0 he (gcl ci hci) k hkN (C.2.2.2.2.2.2.1 _ h) (fun x hx => hx) hfin (C.2.2.2.2.2.2.2.2.2.2.2.2.trans hy) hdecl (gtyok ci hci k hkN) hn hfit hl hd (fun H1 l1 a1 _ a3 => kk H1 l1 a1 a3)

theorem V_getI {a idx ci k : Nat} (hF : gFL Y.1.cls idx ci k) (hk : (gFk ci)[k]? = some 0) (ha : a < n) (hs : sh a = (0, ci)) (hd : decode Y.2.1 pc = .ok (.getfield idx, 3)) (kk : V E R Y mc u (pc + 3) ls (.int (gi z a k) :: st) n sh z K) : V E R Y mc u pc ls (.ref a :: st) n sh z K := by
  intro p e s m args below meth c H locs la Q C hQ hP hS hl hn hu
  have h1 := kk p e s m args below meth c H locs la Q C hQ hP hS hl hn hu
  show W p E.1 e R s m args below meth c H locs u (2200 * u) Q (F0 m pc la (ev E.2.1 (.ref a) :: st.map (ev E.2.1)))
  rw [ev_ref (Nat.lt_of_lt_of_le ha hn)]
  exact gGet C hP hF ((wd_at ha).trans (by rw [ent_o hs])) (fs_get hk) hd h1
theorem V_getL {a idx ci k : Nat} (hF : gFL Y.1.cls idx ci k) (hk : (gFk ci)[k]? = some 1) (ha : a < n) (hs : sh a = (0, ci)) (hd : decode Y.2.1 pc = .ok (.getfield idx, 3)) (kk : V E R Y mc u (pc + 3) ls (.long (gl z a k) :: st) n sh z K) : V E R Y mc u pc ls (.ref a :: st) n sh z K := by
  intro p e s m args below meth c H locs la Q C hQ hP hS hl hn hu
  have h1 := kk p e s m args below meth c H locs la Q C hQ hP hS hl hn hu
  show W p E.1 e R s m args below meth c H locs u (2200 * u) Q (F0 m pc la (ev E.2.1 (.ref a) :: st.map (ev E.2.1)))
  rw [ev_ref (Nat.lt_of_lt_of_le ha hn)]
  exact gGet C hP hF ((wd_at ha).trans (by rw [ent_o hs])) (fs_get hk) hd h1
theorem V_getR {a idx ci k t : Nat} (hF : gFL Y.1.cls idx ci k) (hk : (gFk ci)[k]? = some 2) (ha : a < n) (hs : sh a = (0, ci)) (ht : gr z a k = some t) (hd : decode Y.2.1 pc = .ok (.getfield idx, 3)) (kk : V E R Y mc u (pc + 3) ls (.ref t :: st) n sh z K) : V E R Y mc u pc ls (.ref a :: st) n sh z K := by
  intro p e s m args below meth c H locs la Q C hQ hP hS hl hn hu
  have h1 := kk p e s m args below meth c H locs la Q C hQ hP hS hl hn hu
  show W p E.1 e R s m args below meth c H locs u (2200 * u) Q (F0 m pc la (ev E.2.1 (.ref a) :: st.map (ev E.2.1)))
  rw [ev_ref (Nat.lt_of_lt_of_le ha hn)]
  refine gGet C hP hF ((wd_at ha).trans (by rw [ent_o hs])) (fs_get hk) hd ?_
  rw [show fv E.2.1 z a k 2 = ev E.2.1 (.ref t) by simp [fv, ht, va_rf, ev]]
  exact h1
theorem V_putI {a idx ci k : Nat} {v : Int32} (hF : gFL Y.1.cls idx ci k) (hk : (gFk ci)[k]? = some 0) (hf : ((gC ci).2.1 k).2.2.2 = false) (hw : narrow (gT ci k) (.int v) = .int v) (hfit : fits (gT ci k) (.int v) = true) (ha : a < n) (hs : sh a = (0, ci)) (hd : decode Y.2.1 pc = .ok (.putfield idx, 3)) (kk : V E R Y mc u (pc + 3) ls st n sh (si z a k v) K) : V E R Y mc u pc ls (.int v :: .ref a :: st) n sh z K := by
  intro p e s m args below meth c H locs la Q C hQ hP hS hl hn hu
  show W p E.1 e R s m args below meth c H locs u (2200 * u) Q (F0 m pc la (.int v :: ev E.2.1 (.ref a) :: st.map (ev E.2.1)))
  rw [ev_ref (Nat.lt_of_lt_of_le ha hn)]
  refine gPut C hP wd_D hS hF hf ((wd_at ha).trans (by rw [ent_o hs])) (by rw [List.length_mapIdx]; exact (List.getElem?_eq_some_iff.mp hk).1) hw hfit hd (fun H1 l1 hP1 hS1 => ?_)
  rw [wd_set (z' := si z a k v) ha (by rw [ent_o hs, fs_si hk]) (ent_ne_si)] at hP1
  exact kk p e s m args below meth c H1 l1 la Q C hQ hP1 hS1 hl hn hu
theorem V_putL {a idx ci k : Nat} {v : Int64} (hF : gFL Y.1.cls idx ci k) (hk : (gFk ci)[k]? = some 1) (hf : ((gC ci).2.1 k).2.2.2 = false) (hw : narrow (gT ci k) (.long v) = .long v) (hfit : fits (gT ci k) (.long v) = true) (ha : a < n) (hs : sh a = (0, ci)) (hd : decode Y.2.1 pc = .ok (.putfield idx, 3)) (kk : V E R Y mc u (pc + 3) ls st n sh (sl z a k v) K) : V E R Y mc u pc ls (.long v :: .ref a :: st) n sh z K := by
  intro p e s m args below meth c H locs la Q C hQ hP hS hl hn hu
  show W p E.1 e R s m args below meth c H locs u (2200 * u) Q (F0 m pc la (.long v :: ev E.2.1 (.ref a) :: st.map (ev E.2.1)))
  rw [ev_ref (Nat.lt_of_lt_of_le ha hn)]
  refine gPut C hP wd_D hS hF hf ((wd_at ha).trans (by rw [ent_o hs])) (by rw [List.length_mapIdx]; exact (List.getElem?_eq_some_iff.mp hk).1) hw hfit hd (fun H1 l1 hP1 hS1 => ?_)
  rw [wd_set (z' := sl z a k v) ha (by rw [ent_o hs, fs_sl hk]) (ent_ne_sl)] at hP1
  exact kk p e s m args below meth c H1 l1 la Q C hQ hP1 hS1 hl hn hu
theorem V_putR {a idx ci k v : Nat} (hF : gFL Y.1.cls idx ci k) (hk : (gFk ci)[k]? = some 2) (hf : ((gC ci).2.1 k).2.2.2 = false) (hw : ∀ q, narrow (gT ci k) (.ref q) = .ref q) (hfit : ∀ q, fits (gT ci k) (.ref q) = true) (ha : a < n) (hs : sh a = (0, ci)) (hd : decode Y.2.1 pc = .ok (.putfield idx, 3)) (kk : V E R Y mc u (pc + 3) ls st n sh (sr z a k (some v)) K) : V E R Y mc u pc ls (.ref v :: .ref a :: st) n sh z K := by
  intro p e s m args below meth c H locs la Q C hQ hP hS hl hn hu
  show W p E.1 e R s m args below meth c H locs u (2200 * u) Q (F0 m pc la (.ref (rA E.2.1 v) :: ev E.2.1 (.ref a) :: st.map (ev E.2.1)))
  rw [ev_ref (Nat.lt_of_lt_of_le ha hn)]
  refine gPut C hP wd_D hS hF hf ((wd_at ha).trans (by rw [ent_o hs])) (by rw [List.length_mapIdx]; exact (List.getElem?_eq_some_iff.mp hk).1) (hw _) (hfit _) hd (fun H1 l1 hP1 hS1 => ?_)
  rw [wd_set (z' := sr z a k (some v)) ha (by rw [ent_o hs, fs_sr hk]) ent_ne_sr] at hP1
  exact kk p e s m args below meth c H1 l1 la Q C hQ hP1 hS1 hl hn hu
theorem V_putRF {a idx ci k v : Nat} (hci : ci < 9) (hkN : k < (gC ci).2.2) (h : Cond.fieldLink Y.1.cls idx ((gC ci).2.1 k).1 ((gC ci).2.1 k).2.1 ((gC ci).2.1 k).2.2.1 ∈ lw_g) (hk : (gFk ci)[k]? = some 2) (hf : ((gC ci).2.1 k).2.2.2 = true) (hy : Y.1.name = "<init>") (hdecl : ((gC ci).2.1 k).1 = Y.1.cls) (hw : ∀ q, narrow (gT ci k) (.ref q) = .ref q) (hfit : ∀ q, fits (gT ci k) (.ref q) = true) (ha : a < n) (hs : sh a = (0, ci)) (hd : decode Y.2.1 pc = .ok (.putfield idx, 3)) (kk : V E R Y mc u (pc + 3) ls st n sh (sr z a k (some v)) K) : V E R Y mc u pc ls (.ref v :: .ref a :: st) n sh z K := by
  intro p e s m args below meth c H locs la Q C hQ hP hS hl hn hu
  show W p E.1 e R s m args below meth c H locs u (2200 * u) Q (F0 m pc la (.ref (rA E.2.1 v) :: ev E.2.1 (.ref a) :: st.map (ev E.2.1)))
  rw [ev_ref (Nat.lt_of_lt_of_le ha hn)]
  refine gPutF C hP wd_D hS hci hkN h hf hy hdecl ((wd_at ha).trans (by rw [ent_o hs])) (by rw [List.length_mapIdx]; exact (List.getElem?_eq_some_iff.mp hk).1) (hw _) (hfit _) hd (fun H1 l1 hP1 hS1 => ?_)
  rw [wd_set (z' := sr z a k (some v)) ha (by rw [ent_o hs, fs_sr hk]) ent_ne_sr] at hP1
  exact kk p e s m args below meth c H1 l1 la Q C hQ hP1 hS1 hl hn hu
theorem V_iald {a len : Nat} {i : Int32} (ha : a < n) (hs : sh a = (1, len)) (hi : vp_in i len) (hd : decode Y.2.1 pc = .ok (.iaload, 1)) (kk : V E R Y mc u (pc + 1) ls (.int (gi z a i.toNatClampNeg) :: st) n sh z K) : V E R Y mc u pc ls (.int i :: .ref a :: st) n sh z K := by
  intro p e s m args below meth c H locs la Q C hQ hP hS hl hn hu
  have h1 := kk p e s m args below meth c H locs la Q C hQ hP hS hl hn hu
  show W p E.1 e R s m args below meth c H locs u (2200 * u) Q (F0 m pc la (.int i :: ev E.2.1 (.ref a) :: st.map (ev E.2.1)))
  rw [ev_ref (Nat.lt_of_lt_of_le ha hn)]
  exact va_iald C.1 C.2.1 C.2.2.2.2.2.2.2.1 hP a 1 ((wd_at ha).trans (by rw [ent_1 hs])) rfl hi hd h1
theorem V_lald {a len : Nat} {i : Int32} (ha : a < n) (hs : sh a = (2, len)) (hi : vp_in i len) (hd : decode Y.2.1 pc = .ok (.laload, 1)) (kk : V E R Y mc u (pc + 1) ls (.long (gl z a i.toNatClampNeg) :: st) n sh z K) : V E R Y mc u pc ls (.int i :: .ref a :: st) n sh z K := by
  intro p e s m args below meth c H locs la Q C hQ hP hS hl hn hu
  have h1 := kk p e s m args below meth c H locs la Q C hQ hP hS hl hn hu
  show W p E.1 e R s m args below meth c H locs u (2200 * u) Q (F0 m pc la (.int i :: ev E.2.1 (.ref a) :: st.map (ev E.2.1)))
  rw [ev_ref (Nat.lt_of_lt_of_le ha hn)]
  exact va_lald C.1 C.2.1 C.2.2.2.2.2.2.2.1 hP a 2 ((wd_at ha).trans (by rw [ent_2 hs])) rfl hi hd h1
theorem V_cald {a len : Nat} {i : Int32} (ha : a < n) (hs : sh a = (3, len)) (hi : vp_in i len) (hd : decode Y.2.1 pc = .ok (.caload, 1)) (kk : V E R Y mc u (pc + 1) ls (.int (gi z a i.toNatClampNeg) :: st) n sh z K) : V E R Y mc u pc ls (.int i :: .ref a :: st) n sh z K := by
  intro p e s m args below meth c H locs la Q C hQ hP hS hl hn hu
  have h1 := kk p e s m args below meth c H locs la Q C hQ hP hS hl hn hu
  show W p E.1 e R s m args below meth c H locs u (2200 * u) Q (F0 m pc la (.int i :: ev E.2.1 (.ref a) :: st.map (ev E.2.1)))
  rw [ev_ref (Nat.lt_of_lt_of_le ha hn)]
  exact va_cald C.1 C.2.1 C.2.2.2.2.2.2.2.1 hP a 3 ((wd_at ha).trans (by rw [ent_3 hs])) rfl hi hd h1
theorem V_zald {a len : Nat} {i : Int32} (ha : a < n) (hs : sh a = (4, len)) (hi : vp_in i len) (hd : decode Y.2.1 pc = .ok (.baload, 1)) (kk : V E R Y mc u (pc + 1) ls (.int (gi z a i.toNatClampNeg) :: st) n sh z K) : V E R Y mc u pc ls (.int i :: .ref a :: st) n sh z K := by
  intro p e s m args below meth c H locs la Q C hQ hP hS hl hn hu
  have h1 := kk p e s m args below meth c H locs la Q C hQ hP hS hl hn hu
  show W p E.1 e R s m args below meth c H locs u (2200 * u) Q (F0 m pc la (.int i :: ev E.2.1 (.ref a) :: st.map (ev E.2.1)))
  rw [ev_ref (Nat.lt_of_lt_of_le ha hn)]
  exact va_zald C.1 C.2.1 C.2.2.2.2.2.2.2.1 hP a 4 ((wd_at ha).trans (by rw [ent_4 hs])) rfl hi hd h1
theorem V_aald {a len t : Nat} {i : Int32} (ha : a < n) (hs : sh a = (5, len)) (hi : vp_in i len) (ht : gr z a i.toNatClampNeg = some t) (hd : decode Y.2.1 pc = .ok (.aaload, 1)) (kk : V E R Y mc u (pc + 1) ls (.ref t :: st) n sh z K) : V E R Y mc u pc ls (.int i :: .ref a :: st) n sh z K := by
  intro p e s m args below meth c H locs la Q C hQ hP hS hl hn hu
  have h1 := kk p e s m args below meth c H locs la Q C hQ hP hS hl hn hu
  show W p E.1 e R s m args below meth c H locs u (2200 * u) Q (F0 m pc la (.int i :: ev E.2.1 (.ref a) :: st.map (ev E.2.1)))
  rw [ev_ref (Nat.lt_of_lt_of_le ha hn)]
  refine va_aldq C.1 C.2.1 C.2.2.2.2.2.2.2.1 hP a 5 ((wd_at ha).trans (by rw [ent_5 hs])) rfl hi hd ?_
  show W p E.1 e R s m args below meth c H locs u (2200 * u) Q (F0 m (pc + 1) la (va_rf ((gr z a i.toNatClampNeg).map (rA E.2.1)) :: st.map (ev E.2.1)))
  rw [ht]
  exact h1
theorem ent_u1 {G : gG} {z : gS} {a : Nat} {f : Nat → Int32} {k : Nat} {v : Int32} (hf : f = gi z a) : gi (si z a k v) a = upd f k v := by
  subst hf
  funext j
  by_cases h : j = k <;> simp [gi_si, upd, h]
theorem V_iast {a len : Nat} {i x : Int32} (ha : a < n) (hs : sh a = (1, len)) (hi : vp_in i len) (hd : decode Y.2.1 pc = .ok (.iastore, 1)) (kk : V E R Y mc u (pc + 1) ls st n sh (si z a i.toNatClampNeg (x)) K) : V E R Y mc u pc ls (.int x :: .int i :: .ref a :: st) n sh z K := by
  intro p e s m args below meth c H locs la Q C hQ hP hS hl hn hu
  show W p E.1 e R s m args below meth c H locs u (2200 * u) Q (F0 m pc la (.int x :: .int i :: ev E.2.1 (.ref a) :: st.map (ev E.2.1)))
  rw [ev_ref (Nat.lt_of_lt_of_le ha hn)]
  refine va_iast C.1 C.2.1 C.2.2.2.2.2.2.2.1 hP wd_D hS a 1 ((wd_at ha).trans (by rw [ent_1 hs])) rfl hi hd (fun H1 l1 hP1 _ hS1 => ?_)
  rw [wd_set (z' := si z a i.toNatClampNeg (x)) ha (by rw [ent_1 hs, ent_u1 (G := E.2.1) rfl]) ent_ne_si] at hP1
  exact kk p e s m args below meth c H1 l1 la Q C hQ hP1 hS1 hl hn hu
theorem V_cast {a len : Nat} {i x : Int32} (ha : a < n) (hs : sh a = (3, len)) (hi : vp_in i len) (hd : decode Y.2.1 pc = .ok (.castore, 1)) (kk : V E R Y mc u (pc + 1) ls st n sh (si z a i.toNatClampNeg (vp_nar .char x)) K) : V E R Y mc u pc ls (.int x :: .int i :: .ref a :: st) n sh z K := by
  intro p e s m args below meth c H locs la Q C hQ hP hS hl hn hu
  show W p E.1 e R s m args below meth c H locs u (2200 * u) Q (F0 m pc la (.int x :: .int i :: ev E.2.1 (.ref a) :: st.map (ev E.2.1)))
  rw [ev_ref (Nat.lt_of_lt_of_le ha hn)]
  refine va_cast C.1 C.2.1 C.2.2.2.2.2.2.2.1 hP wd_D hS a 3 ((wd_at ha).trans (by rw [ent_3 hs])) rfl hi hd (fun H1 l1 hP1 _ hS1 => ?_)
  rw [wd_set (z' := si z a i.toNatClampNeg (vp_nar .char x)) ha (by rw [ent_3 hs, ent_u1 (G := E.2.1) rfl]) ent_ne_si] at hP1
  exact kk p e s m args below meth c H1 l1 la Q C hQ hP1 hS1 hl hn hu
theorem V_zast {a len : Nat} {i x : Int32} (ha : a < n) (hs : sh a = (4, len)) (hi : vp_in i len) (hd : decode Y.2.1 pc = .ok (.bastore, 1)) (kk : V E R Y mc u (pc + 1) ls st n sh (si z a i.toNatClampNeg (vp_nar .boolean x)) K) : V E R Y mc u pc ls (.int x :: .int i :: .ref a :: st) n sh z K := by
  intro p e s m args below meth c H locs la Q C hQ hP hS hl hn hu
  show W p E.1 e R s m args below meth c H locs u (2200 * u) Q (F0 m pc la (.int x :: .int i :: ev E.2.1 (.ref a) :: st.map (ev E.2.1)))
  rw [ev_ref (Nat.lt_of_lt_of_le ha hn)]
  refine va_zast C.1 C.2.1 C.2.2.2.2.2.2.2.1 hP wd_D hS a 4 ((wd_at ha).trans (by rw [ent_4 hs])) rfl hi hd (fun H1 l1 hP1 _ hS1 => ?_)
  rw [wd_set (z' := si z a i.toNatClampNeg (vp_nar .boolean x)) ha (by rw [ent_4 hs, ent_u1 (G := E.2.1) rfl]) ent_ne_si] at hP1
  exact kk p e s m args below meth c H1 l1 la Q C hQ hP1 hS1 hl hn hu
theorem V_last {a len : Nat} {i : Int32} {x : Int64} (ha : a < n) (hs : sh a = (2, len)) (hi : vp_in i len) (hd : decode Y.2.1 pc = .ok (.lastore, 1)) (kk : V E R Y mc u (pc + 1) ls st n sh (sl z a i.toNatClampNeg x) K) : V E R Y mc u pc ls (.long x :: .int i :: .ref a :: st) n sh z K := by
  intro p e s m args below meth c H locs la Q C hQ hP hS hl hn hu
  show W p E.1 e R s m args below meth c H locs u (2200 * u) Q (F0 m pc la (.long x :: .int i :: ev E.2.1 (.ref a) :: st.map (ev E.2.1)))
  rw [ev_ref (Nat.lt_of_lt_of_le ha hn)]
  refine va_last C.1 C.2.1 C.2.2.2.2.2.2.2.1 hP wd_D hS a 2 ((wd_at ha).trans (by rw [ent_2 hs])) rfl hi hd (fun H1 l1 hP1 _ hS1 => ?_)
  rw [wd_set (z' := sl z a i.toNatClampNeg x) ha (by rw [ent_2 hs]; congr 5; funext j; by_cases h : j = i.toNatClampNeg <;> simp [gl_sl, vp_updL, h]) ent_ne_sl] at hP1
  exact kk p e s m args below meth c H1 l1 la Q C hQ hP1 hS1 hl hn hu
theorem V_alen1 {a len : Nat} (ha : a < n) (hs : sh a = (1, len)) (hd : decode Y.2.1 pc = .ok (.arraylength, 1)) (kk : V E R Y mc u (pc + 1) ls (.int (Int32.ofNat len) :: st) n sh z K) : V E R Y mc u pc ls (.ref a :: st) n sh z K := by
  intro p e s m args below meth c H locs la Q C hQ hP hS hl hn hu
  have h1 := kk p e s m args below meth c H locs la Q C hQ hP hS hl hn hu
  show W p E.1 e R s m args below meth c H locs u (2200 * u) Q (F0 m pc la (ev E.2.1 (.ref a) :: st.map (ev E.2.1)))
  rw [ev_ref (Nat.lt_of_lt_of_le ha hn)]
  have hA := (wd_at (G := E.2.1) (sh := sh) (z := z) ha).trans (congrArg (fun e => some (E.2.1.1 + a, e)) (ent_1 (G := E.2.1) (z := z) hs))
  exact va_alen C.1 C.2.1 C.2.2.2.2.2.2.2.1 hP a 1 hA (ty := .int) rfl rfl hd h1
theorem V_alen2 {a len : Nat} (ha : a < n) (hs : sh a = (2, len)) (hd : decode Y.2.1 pc = .ok (.arraylength, 1)) (kk : V E R Y mc u (pc + 1) ls (.int (Int32.ofNat len) :: st) n sh z K) : V E R Y mc u pc ls (.ref a :: st) n sh z K := by
  intro p e s m args below meth c H locs la Q C hQ hP hS hl hn hu
  have h1 := kk p e s m args below meth c H locs la Q C hQ hP hS hl hn hu
  show W p E.1 e R s m args below meth c H locs u (2200 * u) Q (F0 m pc la (ev E.2.1 (.ref a) :: st.map (ev E.2.1)))
  rw [ev_ref (Nat.lt_of_lt_of_le ha hn)]
  have hA := (wd_at (G := E.2.1) (sh := sh) (z := z) ha).trans (congrArg (fun e => some (E.2.1.1 + a, e)) (ent_2 (G := E.2.1) (z := z) hs))
  exact va_alen C.1 C.2.1 C.2.2.2.2.2.2.2.1 hP a 2 hA (ty := .long) rfl rfl hd h1
theorem V_alen3 {a len : Nat} (ha : a < n) (hs : sh a = (3, len)) (hd : decode Y.2.1 pc = .ok (.arraylength, 1)) (kk : V E R Y mc u (pc + 1) ls (.int (Int32.ofNat len) :: st) n sh z K) : V E R Y mc u pc ls (.ref a :: st) n sh z K := by
  intro p e s m args below meth c H locs la Q C hQ hP hS hl hn hu
  have h1 := kk p e s m args below meth c H locs la Q C hQ hP hS hl hn hu
  show W p E.1 e R s m args below meth c H locs u (2200 * u) Q (F0 m pc la (ev E.2.1 (.ref a) :: st.map (ev E.2.1)))
  rw [ev_ref (Nat.lt_of_lt_of_le ha hn)]
  have hA := (wd_at (G := E.2.1) (sh := sh) (z := z) ha).trans (congrArg (fun e => some (E.2.1.1 + a, e)) (ent_3 (G := E.2.1) (z := z) hs))
  exact va_alen C.1 C.2.1 C.2.2.2.2.2.2.2.1 hP a 3 hA (ty := .char) rfl rfl hd h1
end GM
