/-! LINKS: what the tables say of classes, fields, methods, by places -/
theorem layX0_0 : u_lay RX0 TX0 0 ∈ lw_use := use_t (i := 250) (by decide +kernel) rfl
theorem layX0_1 : u_lay RX0 TX0 1 ∈ lw_use := use_t (i := 252) (by decide +kernel) rfl
theorem layX0_2 : u_lay RX0 TX0 2 ∈ lw_use := use_t (i := 254) (by decide +kernel) rfl
theorem inUX0 : ∀ x ∈ u_ws RX0 TX0 3, x ∈ lw_use := fun x hx => by
  obtain ⟨k, hk, rfl⟩ := List.mem_map.mp hx
  have hk := List.mem_range.mp hk
  match k, hk with
  | 0, _ => exact layX0_0
  | 1, _ => exact layX0_1
  | 2, _ => exact layX0_2
  | k + 3, hk => exact absurd hk (by omega)
theorem okX0 : ClOk 0 RX0 TX0 3 := ⟨by decide, rfl, inUX0, tyX0_ok, nmX0, by decide +kernel⟩
theorem layX1_0 : u_lay RX1 TX1 0 ∈ lw_use := use_t (i := 136) (by decide +kernel) rfl
theorem layX1_1 : u_lay RX1 TX1 1 ∈ lw_use := use_t (i := 138) (by decide +kernel) rfl
theorem layX1_2 : u_lay RX1 TX1 2 ∈ lw_use := use_t (i := 140) (by decide +kernel) rfl
theorem layX1_3 : u_lay RX1 TX1 3 ∈ lw_use := use_t (i := 142) (by decide +kernel) rfl
theorem layX1_4 : u_lay RX1 TX1 4 ∈ lw_use := use_t (i := 144) (by decide +kernel) rfl
theorem layX1_5 : u_lay RX1 TX1 5 ∈ lw_use := use_t (i := 146) (by decide +kernel) rfl
theorem layX1_6 : u_lay RX1 TX1 6 ∈ lw_use := use_t (i := 148) (by decide +kernel) rfl
theorem inUX1 : ∀ x ∈ u_ws RX1 TX1 7, x ∈ lw_use := fun x hx => by
  obtain ⟨k, hk, rfl⟩ := List.mem_map.mp hx
  have hk := List.mem_range.mp hk
  match k, hk with
  | 0, _ => exact layX1_0
  | 1, _ => exact layX1_1
  | 2, _ => exact layX1_2
  | 3, _ => exact layX1_3
  | 4, _ => exact layX1_4
  | 5, _ => exact layX1_5
  | 6, _ => exact layX1_6
  | k + 7, hk => exact absurd hk (by omega)
theorem okX1 : ClOk 1 RX1 TX1 7 := ⟨by decide, rfl, inUX1, tyX1_ok, nmX1, by decide +kernel⟩
theorem layX2_0 : u_lay RX2 TX2 0 ∈ lw_use := use_t (i := 184) (by decide +kernel) rfl
theorem layX2_1 : u_lay RX2 TX2 1 ∈ lw_use := use_t (i := 186) (by decide +kernel) rfl
theorem inUX2 : ∀ x ∈ u_ws RX2 TX2 2, x ∈ lw_use := fun x hx => by
  obtain ⟨k, hk, rfl⟩ := List.mem_map.mp hx
  have hk := List.mem_range.mp hk
  match k, hk with
  | 0, _ => exact layX2_0
  | 1, _ => exact layX2_1
  | k + 2, hk => exact absurd hk (by omega)
theorem okX2 : ClOk 2 RX2 TX2 2 := ⟨by decide, rfl, inUX2, tyX2_ok, nmX2, by decide +kernel⟩
theorem layX3_0 : u_lay RX3 TX3 0 ∈ lw_use := use_t (i := 326) (by decide +kernel) rfl
theorem layX3_1 : u_lay RX3 TX3 1 ∈ lw_use := use_t (i := 328) (by decide +kernel) rfl
theorem layX3_2 : u_lay RX3 TX3 2 ∈ lw_use := use_t (i := 330) (by decide +kernel) rfl
theorem layX3_3 : u_lay RX3 TX3 3 ∈ lw_use := use_t (i := 332) (by decide +kernel) rfl
theorem layX3_4 : u_lay RX3 TX3 4 ∈ lw_use := use_t (i := 334) (by decide +kernel) rfl
theorem layX3_5 : u_lay RX3 TX3 5 ∈ lw_use := use_t (i := 336) (by decide +kernel) rfl
theorem layX3_6 : u_lay RX3 TX3 6 ∈ lw_use := use_t (i := 338) (by decide +kernel) rfl
theorem layX3_7 : u_lay RX3 TX3 7 ∈ lw_use := use_t (i := 340) (by decide +kernel) rfl
theorem layX3_8 : u_lay RX3 TX3 8 ∈ lw_use := use_t (i := 342) (by decide +kernel) rfl
theorem layX3_9 : u_lay RX3 TX3 9 ∈ lw_use := use_t (i := 344) (by decide +kernel) rfl
theorem layX3_10 : u_lay RX3 TX3 10 ∈ lw_use := use_t (i := 346) (by decide +kernel) rfl
theorem layX3_11 : u_lay RX3 TX3 11 ∈ lw_use := use_t (i := 348) (by decide +kernel) rfl
theorem layX3_12 : u_lay RX3 TX3 12 ∈ lw_use := use_t (i := 350) (by decide +kernel) rfl
theorem layX3_13 : u_lay RX3 TX3 13 ∈ lw_use := use_t (i := 352) (by decide +kernel) rfl
theorem layX3_14 : u_lay RX3 TX3 14 ∈ lw_use := use_t (i := 354) (by decide +kernel) rfl
theorem layX3_15 : u_lay RX3 TX3 15 ∈ lw_use := use_t (i := 356) (by decide +kernel) rfl
theorem layX3_16 : u_lay RX3 TX3 16 ∈ lw_use := use_t (i := 358) (by decide +kernel) rfl
theorem layX3_17 : u_lay RX3 TX3 17 ∈ lw_use := use_t (i := 360) (by decide +kernel) rfl
theorem layX3_18 : u_lay RX3 TX3 18 ∈ lw_use := use_t (i := 362) (by decide +kernel) rfl
theorem inUX3 : ∀ x ∈ u_ws RX3 TX3 19, x ∈ lw_use := fun x hx => by
  obtain ⟨k, hk, rfl⟩ := List.mem_map.mp hx
  have hk := List.mem_range.mp hk
  match k, hk with
  | 0, _ => exact layX3_0
  | 1, _ => exact layX3_1
  | 2, _ => exact layX3_2
  | 3, _ => exact layX3_3
  | 4, _ => exact layX3_4
  | 5, _ => exact layX3_5
  | 6, _ => exact layX3_6
  | 7, _ => exact layX3_7
  | 8, _ => exact layX3_8
  | 9, _ => exact layX3_9
  | 10, _ => exact layX3_10
  | 11, _ => exact layX3_11
  | 12, _ => exact layX3_12
  | 13, _ => exact layX3_13
  | 14, _ => exact layX3_14
  | 15, _ => exact layX3_15
  | 16, _ => exact layX3_16
  | 17, _ => exact layX3_17
  | 18, _ => exact layX3_18
  | k + 19, hk => exact absurd hk (by omega)
theorem okX3 : ClOk 3 RX3 TX3 19 := ⟨by decide, rfl, inUX3, tyX3_ok, nmX3, by decide +kernel⟩
theorem layX4_0 : u_lay RX4 TX4 0 ∈ lw_use := use_t (i := 216) (by decide +kernel) rfl
theorem layX4_1 : u_lay RX4 TX4 1 ∈ lw_use := use_t (i := 218) (by decide +kernel) rfl
theorem inUX4 : ∀ x ∈ u_ws RX4 TX4 2, x ∈ lw_use := fun x hx => by
  obtain ⟨k, hk, rfl⟩ := List.mem_map.mp hx
  have hk := List.mem_range.mp hk
  match k, hk with
  | 0, _ => exact layX4_0
  | 1, _ => exact layX4_1
  | k + 2, hk => exact absurd hk (by omega)
theorem okX4 : ClOk 4 RX4 TX4 2 := ⟨by decide, rfl, inUX4, tyX4_ok, nmX4, by decide +kernel⟩
theorem layX5_0 : u_lay RX5 TX5 0 ∈ lw_use := use_t (i := 286) (by decide +kernel) rfl
theorem layX5_1 : u_lay RX5 TX5 1 ∈ lw_use := use_t (i := 288) (by decide +kernel) rfl
theorem inUX5 : ∀ x ∈ u_ws RX5 TX5 2, x ∈ lw_use := fun x hx => by
  obtain ⟨k, hk, rfl⟩ := List.mem_map.mp hx
  have hk := List.mem_range.mp hk
  match k, hk with
  | 0, _ => exact layX5_0
  | 1, _ => exact layX5_1
  | k + 2, hk => exact absurd hk (by omega)
theorem okX5 : ClOk 5 RX5 TX5 2 := ⟨by decide, rfl, inUX5, tyX5_ok, nmX5, by decide +kernel⟩
theorem layX6_0 : u_lay RX6 TX6 0 ∈ lw_use := use_t (i := 199) (by decide +kernel) rfl
theorem layX6_1 : u_lay RX6 TX6 1 ∈ lw_use := use_t (i := 201) (by decide +kernel) rfl
theorem layX6_2 : u_lay RX6 TX6 2 ∈ lw_use := use_t (i := 203) (by decide +kernel) rfl
theorem layX6_3 : u_lay RX6 TX6 3 ∈ lw_use := use_t (i := 205) (by decide +kernel) rfl
theorem inUX6 : ∀ x ∈ u_ws RX6 TX6 4, x ∈ lw_use := fun x hx => by
  obtain ⟨k, hk, rfl⟩ := List.mem_map.mp hx
  have hk := List.mem_range.mp hk
  match k, hk with
  | 0, _ => exact layX6_0
  | 1, _ => exact layX6_1
  | 2, _ => exact layX6_2
  | 3, _ => exact layX6_3
  | k + 4, hk => exact absurd hk (by omega)
theorem okX6 : ClOk 6 RX6 TX6 4 := ⟨by decide, rfl, inUX6, tyX6_ok, nmX6, by decide +kernel⟩
theorem layX7_0 : u_lay RX7 TX7 0 ∈ lw_use := use_t (i := 231) (by decide +kernel) rfl
theorem layX7_1 : u_lay RX7 TX7 1 ∈ lw_use := use_t (i := 233) (by decide +kernel) rfl
theorem layX7_2 : u_lay RX7 TX7 2 ∈ lw_use := use_t (i := 235) (by decide +kernel) rfl
theorem layX7_3 : u_lay RX7 TX7 3 ∈ lw_use := use_t (i := 237) (by decide +kernel) rfl
theorem inUX7 : ∀ x ∈ u_ws RX7 TX7 4, x ∈ lw_use := fun x hx => by
  obtain ⟨k, hk, rfl⟩ := List.mem_map.mp hx
  have hk := List.mem_range.mp hk
  match k, hk with
  | 0, _ => exact layX7_0
  | 1, _ => exact layX7_1
  | 2, _ => exact layX7_2
  | 3, _ => exact layX7_3
  | k + 4, hk => exact absurd hk (by omega)
theorem okX7 : ClOk 7 RX7 TX7 4 := ⟨by decide, rfl, inUX7, tyX7_ok, nmX7, by decide +kernel⟩
theorem layX8_0 : u_lay RX8 TX8 0 ∈ lw_use := use_t (i := 267) (by decide +kernel) rfl
theorem layX8_1 : u_lay RX8 TX8 1 ∈ lw_use := use_t (i := 269) (by decide +kernel) rfl
theorem layX8_2 : u_lay RX8 TX8 2 ∈ lw_use := use_t (i := 271) (by decide +kernel) rfl
theorem layX8_3 : u_lay RX8 TX8 3 ∈ lw_use := use_t (i := 273) (by decide +kernel) rfl
theorem inUX8 : ∀ x ∈ u_ws RX8 TX8 4, x ∈ lw_use := fun x hx => by
  obtain ⟨k, hk, rfl⟩ := List.mem_map.mp hx
  have hk := List.mem_range.mp hk
  match k, hk with
  | 0, _ => exact layX8_0
  | 1, _ => exact layX8_1
  | 2, _ => exact layX8_2
  | 3, _ => exact layX8_3
  | k + 4, hk => exact absurd hk (by omega)
theorem okX8 : ClOk 8 RX8 TX8 4 := ⟨by decide, rfl, inUX8, tyX8_ok, nmX8, by decide +kernel⟩
theorem layX9_0 : u_lay RX9 TX9 0 ∈ lw_use := use_t (i := 164) (by decide +kernel) rfl
theorem layX9_1 : u_lay RX9 TX9 1 ∈ lw_use := use_t (i := 166) (by decide +kernel) rfl
theorem layX9_2 : u_lay RX9 TX9 2 ∈ lw_use := use_t (i := 168) (by decide +kernel) rfl
theorem layX9_3 : u_lay RX9 TX9 3 ∈ lw_use := use_t (i := 170) (by decide +kernel) rfl
theorem inUX9 : ∀ x ∈ u_ws RX9 TX9 4, x ∈ lw_use := fun x hx => by
  obtain ⟨k, hk, rfl⟩ := List.mem_map.mp hx
  have hk := List.mem_range.mp hk
  match k, hk with
  | 0, _ => exact layX9_0
  | 1, _ => exact layX9_1
  | 2, _ => exact layX9_2
  | 3, _ => exact layX9_3
  | k + 4, hk => exact absurd hk (by omega)
theorem okX9 : ClOk 9 RX9 TX9 4 := ⟨by decide, rfl, inUX9, tyX9_ok, nmX9, by decide +kernel⟩
theorem layX10_0 : u_lay RX10 TX10 0 ∈ lw_use := use_t (i := 62) (by decide +kernel) rfl
theorem layX10_1 : u_lay RX10 TX10 1 ∈ lw_use := use_t (i := 64) (by decide +kernel) rfl
theorem layX10_2 : u_lay RX10 TX10 2 ∈ lw_use := use_t (i := 66) (by decide +kernel) rfl
theorem layX10_3 : u_lay RX10 TX10 3 ∈ lw_use := use_t (i := 68) (by decide +kernel) rfl
theorem layX10_4 : u_lay RX10 TX10 4 ∈ lw_use := use_t (i := 70) (by decide +kernel) rfl
theorem layX10_5 : u_lay RX10 TX10 5 ∈ lw_use := use_t (i := 72) (by decide +kernel) rfl
theorem layX10_6 : u_lay RX10 TX10 6 ∈ lw_use := use_t (i := 74) (by decide +kernel) rfl
theorem layX10_7 : u_lay RX10 TX10 7 ∈ lw_use := use_t (i := 76) (by decide +kernel) rfl
theorem layX10_8 : u_lay RX10 TX10 8 ∈ lw_use := use_t (i := 78) (by decide +kernel) rfl
theorem layX10_9 : u_lay RX10 TX10 9 ∈ lw_use := use_t (i := 80) (by decide +kernel) rfl
theorem layX10_10 : u_lay RX10 TX10 10 ∈ lw_use := use_t (i := 82) (by decide +kernel) rfl
theorem layX10_11 : u_lay RX10 TX10 11 ∈ lw_use := use_t (i := 84) (by decide +kernel) rfl
theorem layX10_12 : u_lay RX10 TX10 12 ∈ lw_use := use_t (i := 86) (by decide +kernel) rfl
theorem layX10_13 : u_lay RX10 TX10 13 ∈ lw_use := use_t (i := 88) (by decide +kernel) rfl
theorem layX10_14 : u_lay RX10 TX10 14 ∈ lw_use := use_t (i := 90) (by decide +kernel) rfl
theorem layX10_15 : u_lay RX10 TX10 15 ∈ lw_use := use_t (i := 92) (by decide +kernel) rfl
theorem inUX10 : ∀ x ∈ u_ws RX10 TX10 16, x ∈ lw_use := fun x hx => by
  obtain ⟨k, hk, rfl⟩ := List.mem_map.mp hx
  have hk := List.mem_range.mp hk
  match k, hk with
  | 0, _ => exact layX10_0
  | 1, _ => exact layX10_1
  | 2, _ => exact layX10_2
  | 3, _ => exact layX10_3
  | 4, _ => exact layX10_4
  | 5, _ => exact layX10_5
  | 6, _ => exact layX10_6
  | 7, _ => exact layX10_7
  | 8, _ => exact layX10_8
  | 9, _ => exact layX10_9
  | 10, _ => exact layX10_10
  | 11, _ => exact layX10_11
  | 12, _ => exact layX10_12
  | 13, _ => exact layX10_13
  | 14, _ => exact layX10_14
  | 15, _ => exact layX10_15
  | k + 16, hk => exact absurd hk (by omega)
theorem okX10 : ClOk 10 RX10 TX10 16 := ⟨by decide, rfl, inUX10, tyX10_ok, nmX10, by decide +kernel⟩
theorem layX11_0 : u_lay RX11 TX11 0 ∈ lw_use := use_t (i := 380) (by decide +kernel) rfl
theorem layX11_1 : u_lay RX11 TX11 1 ∈ lw_use := use_t (i := 382) (by decide +kernel) rfl
theorem layX11_2 : u_lay RX11 TX11 2 ∈ lw_use := use_t (i := 384) (by decide +kernel) rfl
theorem layX11_3 : u_lay RX11 TX11 3 ∈ lw_use := use_t (i := 386) (by decide +kernel) rfl
theorem layX11_4 : u_lay RX11 TX11 4 ∈ lw_use := use_t (i := 388) (by decide +kernel) rfl
theorem layX11_5 : u_lay RX11 TX11 5 ∈ lw_use := use_t (i := 390) (by decide +kernel) rfl
theorem layX11_6 : u_lay RX11 TX11 6 ∈ lw_use := use_t (i := 392) (by decide +kernel) rfl
theorem layX11_7 : u_lay RX11 TX11 7 ∈ lw_use := use_t (i := 394) (by decide +kernel) rfl
theorem layX11_8 : u_lay RX11 TX11 8 ∈ lw_use := use_t (i := 396) (by decide +kernel) rfl
theorem layX11_9 : u_lay RX11 TX11 9 ∈ lw_use := use_t (i := 398) (by decide +kernel) rfl
theorem layX11_10 : u_lay RX11 TX11 10 ∈ lw_use := use_t (i := 400) (by decide +kernel) rfl
theorem layX11_11 : u_lay RX11 TX11 11 ∈ lw_use := use_t (i := 402) (by decide +kernel) rfl
theorem layX11_12 : u_lay RX11 TX11 12 ∈ lw_use := use_t (i := 404) (by decide +kernel) rfl
theorem layX11_13 : u_lay RX11 TX11 13 ∈ lw_use := use_t (i := 406) (by decide +kernel) rfl
theorem inUX11 : ∀ x ∈ u_ws RX11 TX11 14, x ∈ lw_use := fun x hx => by
  obtain ⟨k, hk, rfl⟩ := List.mem_map.mp hx
  have hk := List.mem_range.mp hk
  match k, hk with
  | 0, _ => exact layX11_0
  | 1, _ => exact layX11_1
  | 2, _ => exact layX11_2
  | 3, _ => exact layX11_3
  | 4, _ => exact layX11_4
  | 5, _ => exact layX11_5
  | 6, _ => exact layX11_6
  | 7, _ => exact layX11_7
  | 8, _ => exact layX11_8
  | 9, _ => exact layX11_9
  | 10, _ => exact layX11_10
  | 11, _ => exact layX11_11
  | 12, _ => exact layX11_12
  | 13, _ => exact layX11_13
  | k + 14, hk => exact absurd hk (by omega)
theorem okX11 : ClOk 11 RX11 TX11 14 := ⟨by decide, rfl, inUX11, tyX11_ok, nmX11, by decide +kernel⟩
theorem layX12_0 : u_lay RX12 TX12 0 ∈ lw_use := use_t (i := 1197) (by decide +kernel) rfl
theorem layX12_1 : u_lay RX12 TX12 1 ∈ lw_use := use_t (i := 1199) (by decide +kernel) rfl
theorem layX12_2 : u_lay RX12 TX12 2 ∈ lw_use := use_t (i := 1201) (by decide +kernel) rfl
theorem layX12_3 : u_lay RX12 TX12 3 ∈ lw_use := use_t (i := 1203) (by decide +kernel) rfl
theorem layX12_4 : u_lay RX12 TX12 4 ∈ lw_use := use_t (i := 1205) (by decide +kernel) rfl
theorem layX12_5 : u_lay RX12 TX12 5 ∈ lw_use := use_t (i := 1207) (by decide +kernel) rfl
theorem layX12_6 : u_lay RX12 TX12 6 ∈ lw_use := use_t (i := 1209) (by decide +kernel) rfl
theorem layX12_7 : u_lay RX12 TX12 7 ∈ lw_use := use_t (i := 1211) (by decide +kernel) rfl
theorem layX12_8 : u_lay RX12 TX12 8 ∈ lw_use := use_t (i := 1213) (by decide +kernel) rfl
theorem layX12_9 : u_lay RX12 TX12 9 ∈ lw_use := use_t (i := 1215) (by decide +kernel) rfl
theorem layX12_10 : u_lay RX12 TX12 10 ∈ lw_use := use_t (i := 1217) (by decide +kernel) rfl
theorem layX12_11 : u_lay RX12 TX12 11 ∈ lw_use := use_t (i := 1219) (by decide +kernel) rfl
theorem layX12_12 : u_lay RX12 TX12 12 ∈ lw_use := use_t (i := 1221) (by decide +kernel) rfl
theorem layX12_13 : u_lay RX12 TX12 13 ∈ lw_use := use_t (i := 1223) (by decide +kernel) rfl
theorem layX12_14 : u_lay RX12 TX12 14 ∈ lw_use := use_t (i := 1225) (by decide +kernel) rfl
theorem layX12_15 : u_lay RX12 TX12 15 ∈ lw_use := use_t (i := 1227) (by decide +kernel) rfl
theorem layX12_16 : u_lay RX12 TX12 16 ∈ lw_use := use_t (i := 1229) (by decide +kernel) rfl
theorem layX12_17 : u_lay RX12 TX12 17 ∈ lw_use := use_t (i := 1231) (by decide +kernel) rfl
theorem layX12_18 : u_lay RX12 TX12 18 ∈ lw_use := use_t (i := 1233) (by decide +kernel) rfl
theorem layX12_19 : u_lay RX12 TX12 19 ∈ lw_use := use_t (i := 1235) (by decide +kernel) rfl
theorem layX12_20 : u_lay RX12 TX12 20 ∈ lw_use := use_t (i := 1237) (by decide +kernel) rfl
theorem layX12_21 : u_lay RX12 TX12 21 ∈ lw_use := use_t (i := 1239) (by decide +kernel) rfl
theorem layX12_22 : u_lay RX12 TX12 22 ∈ lw_use := use_t (i := 1241) (by decide +kernel) rfl
theorem layX12_23 : u_lay RX12 TX12 23 ∈ lw_use := use_t (i := 1243) (by decide +kernel) rfl
theorem layX12_24 : u_lay RX12 TX12 24 ∈ lw_use := use_t (i := 1245) (by decide +kernel) rfl
theorem layX12_25 : u_lay RX12 TX12 25 ∈ lw_use := use_t (i := 1247) (by decide +kernel) rfl
theorem layX12_26 : u_lay RX12 TX12 26 ∈ lw_use := use_t (i := 1249) (by decide +kernel) rfl
theorem layX12_27 : u_lay RX12 TX12 27 ∈ lw_use := use_t (i := 1251) (by decide +kernel) rfl
theorem layX12_28 : u_lay RX12 TX12 28 ∈ lw_use := use_t (i := 1253) (by decide +kernel) rfl
theorem layX12_29 : u_lay RX12 TX12 29 ∈ lw_use := use_t (i := 1255) (by decide +kernel) rfl
theorem layX12_30 : u_lay RX12 TX12 30 ∈ lw_use := use_t (i := 1257) (by decide +kernel) rfl
theorem layX12_31 : u_lay RX12 TX12 31 ∈ lw_use := use_t (i := 1259) (by decide +kernel) rfl
theorem layX12_32 : u_lay RX12 TX12 32 ∈ lw_use := use_t (i := 1261) (by decide +kernel) rfl
theorem layX12_33 : u_lay RX12 TX12 33 ∈ lw_use := use_t (i := 1263) (by decide +kernel) rfl
theorem layX12_34 : u_lay RX12 TX12 34 ∈ lw_use := use_t (i := 1265) (by decide +kernel) rfl
theorem layX12_35 : u_lay RX12 TX12 35 ∈ lw_use := use_t (i := 1267) (by decide +kernel) rfl
theorem layX12_36 : u_lay RX12 TX12 36 ∈ lw_use := use_t (i := 1269) (by decide +kernel) rfl
theorem layX12_37 : u_lay RX12 TX12 37 ∈ lw_use := use_t (i := 1271) (by decide +kernel) rfl
theorem layX12_38 : u_lay RX12 TX12 38 ∈ lw_use := use_t (i := 1273) (by decide +kernel) rfl
theorem layX12_39 : u_lay RX12 TX12 39 ∈ lw_use := use_t (i := 1275) (by decide +kernel) rfl
theorem layX12_40 : u_lay RX12 TX12 40 ∈ lw_use := use_t (i := 1277) (by decide +kernel) rfl
theorem layX12_41 : u_lay RX12 TX12 41 ∈ lw_use := use_t (i := 1279) (by decide +kernel) rfl
theorem layX12_42 : u_lay RX12 TX12 42 ∈ lw_use := use_t (i := 1281) (by decide +kernel) rfl
theorem layX12_43 : u_lay RX12 TX12 43 ∈ lw_use := use_t (i := 1283) (by decide +kernel) rfl
theorem layX12_44 : u_lay RX12 TX12 44 ∈ lw_use := use_t (i := 1285) (by decide +kernel) rfl
theorem layX12_45 : u_lay RX12 TX12 45 ∈ lw_use := use_t (i := 1287) (by decide +kernel) rfl
theorem layX12_46 : u_lay RX12 TX12 46 ∈ lw_use := use_t (i := 1289) (by decide +kernel) rfl
theorem layX12_47 : u_lay RX12 TX12 47 ∈ lw_use := use_t (i := 1291) (by decide +kernel) rfl
theorem layX12_48 : u_lay RX12 TX12 48 ∈ lw_use := use_t (i := 1293) (by decide +kernel) rfl
theorem layX12_49 : u_lay RX12 TX12 49 ∈ lw_use := use_t (i := 1295) (by decide +kernel) rfl
theorem inUX12 : ∀ x ∈ u_ws RX12 TX12 50, x ∈ lw_use := fun x hx => by
  obtain ⟨k, hk, rfl⟩ := List.mem_map.mp hx
  have hk := List.mem_range.mp hk
  match k, hk with
  | 0, _ => exact layX12_0
  | 1, _ => exact layX12_1
  | 2, _ => exact layX12_2
  | 3, _ => exact layX12_3
  | 4, _ => exact layX12_4
  | 5, _ => exact layX12_5
  | 6, _ => exact layX12_6
  | 7, _ => exact layX12_7
  | 8, _ => exact layX12_8
  | 9, _ => exact layX12_9
  | 10, _ => exact layX12_10
  | 11, _ => exact layX12_11
  | 12, _ => exact layX12_12
  | 13, _ => exact layX12_13
  | 14, _ => exact layX12_14
  | 15, _ => exact layX12_15
  | 16, _ => exact layX12_16
  | 17, _ => exact layX12_17
  | 18, _ => exact layX12_18
  | 19, _ => exact layX12_19
  | 20, _ => exact layX12_20
  | 21, _ => exact layX12_21
  | 22, _ => exact layX12_22
  | 23, _ => exact layX12_23
  | 24, _ => exact layX12_24
  | 25, _ => exact layX12_25
  | 26, _ => exact layX12_26
  | 27, _ => exact layX12_27
  | 28, _ => exact layX12_28
  | 29, _ => exact layX12_29
  | 30, _ => exact layX12_30
  | 31, _ => exact layX12_31
  | 32, _ => exact layX12_32
  | 33, _ => exact layX12_33
  | 34, _ => exact layX12_34
  | 35, _ => exact layX12_35
  | 36, _ => exact layX12_36
  | 37, _ => exact layX12_37
  | 38, _ => exact layX12_38
  | 39, _ => exact layX12_39
  | 40, _ => exact layX12_40
  | 41, _ => exact layX12_41
  | 42, _ => exact layX12_42
  | 43, _ => exact layX12_43
  | 44, _ => exact layX12_44
  | 45, _ => exact layX12_45
  | 46, _ => exact layX12_46
  | 47, _ => exact layX12_47
  | 48, _ => exact layX12_48
  | 49, _ => exact layX12_49
  | k + 50, hk => exact absurd hk (by omega)
theorem okX12 : ClOk 12 RX12 TX12 50 := ⟨by decide, rfl, inUX12, tyX12_ok, nmX12, by decide +kernel⟩
theorem flwX10_9 : Cond.fieldLink RX10 9 RX10 (TX10 0).2.1 (TX10 0).2.2.1 ∈ lw_use := use_t (i := 34) (by decide +kernel) rfl
theorem flX10_9 : FL RX10 9 10 0 := ⟨RX10, TX10, 16, okX10, by decide, Or.inl flwX10_9⟩
theorem fpX10_9 : FP RX10 true 9 10 0 := ⟨RX10, TX10, 16, okX10, by decide, Or.inr ⟨flwX10_9, rfl, rfl, rfl⟩⟩
theorem flwX10_15 : Cond.fieldLink RX10 15 RX10 (TX10 1).2.1 (TX10 1).2.2.1 ∈ lw_use := use_t (i := 35) (by decide +kernel) rfl
theorem flX10_15 : FL RX10 15 10 1 := ⟨RX10, TX10, 16, okX10, by decide, Or.inl flwX10_15⟩
theorem fpX10_15 : FP RX10 true 15 10 1 := ⟨RX10, TX10, 16, okX10, by decide, Or.inr ⟨flwX10_15, rfl, rfl, rfl⟩⟩
theorem flwX10_19 : Cond.fieldLink RX10 19 RX10 (TX10 2).2.1 (TX10 2).2.2.1 ∈ lw_use := use_t (i := 36) (by decide +kernel) rfl
theorem flX10_19 : FL RX10 19 10 2 := ⟨RX10, TX10, 16, okX10, by decide, Or.inl flwX10_19⟩
theorem fpX10_19 : FP RX10 true 19 10 2 := ⟨RX10, TX10, 16, okX10, by decide, Or.inr ⟨flwX10_19, rfl, rfl, rfl⟩⟩
theorem flwX10_22 : Cond.fieldLink RX10 22 RX10 (TX10 3).2.1 (TX10 3).2.2.1 ∈ lw_use := use_t (i := 37) (by decide +kernel) rfl
theorem flX10_22 : FL RX10 22 10 3 := ⟨RX10, TX10, 16, okX10, by decide, Or.inl flwX10_22⟩
theorem fpX10_22 : FP RX10 true 22 10 3 := ⟨RX10, TX10, 16, okX10, by decide, Or.inr ⟨flwX10_22, rfl, rfl, rfl⟩⟩
theorem flwX10_25 : Cond.fieldLink RX10 25 RX10 (TX10 4).2.1 (TX10 4).2.2.1 ∈ lw_use := use_t (i := 38) (by decide +kernel) rfl
theorem flX10_25 : FL RX10 25 10 4 := ⟨RX10, TX10, 16, okX10, by decide, Or.inl flwX10_25⟩
theorem fpX10_25 : FP RX10 true 25 10 4 := ⟨RX10, TX10, 16, okX10, by decide, Or.inr ⟨flwX10_25, rfl, rfl, rfl⟩⟩
theorem flwX11_99 : Cond.fieldLinkNest RX11 99 RX10 (TX10 5).2.1 (TX10 5).2.2.1 "ToldPowers" ∈ lw_use := use_t (i := 39) (by decide +kernel) rfl
theorem flX11_99 : FL RX11 99 10 5 := ⟨RX10, TX10, 16, okX10, by decide, Or.inr ⟨_, flwX11_99⟩⟩
theorem fpX11_99 {b : Bool} : FP RX11 b 99 10 5 := ⟨RX10, TX10, 16, okX10, by decide, Or.inl ⟨Or.inr ⟨_, flwX11_99⟩, rfl⟩⟩
theorem flwX10_38 : Cond.fieldLink RX10 38 RX10 (TX10 5).2.1 (TX10 5).2.2.1 ∈ lw_use := use_t (i := 40) (by decide +kernel) rfl
theorem flX10_38 : FL RX10 38 10 5 := ⟨RX10, TX10, 16, okX10, by decide, Or.inl flwX10_38⟩
theorem fpX10_38 {b : Bool} : FP RX10 b 38 10 5 := ⟨RX10, TX10, 16, okX10, by decide, Or.inl ⟨Or.inl flwX10_38, rfl⟩⟩
theorem flwX10_53 : Cond.fieldLink RX10 53 RX10 (TX10 6).2.1 (TX10 6).2.2.1 ∈ lw_use := use_t (i := 41) (by decide +kernel) rfl
theorem flX10_53 : FL RX10 53 10 6 := ⟨RX10, TX10, 16, okX10, by decide, Or.inl flwX10_53⟩
theorem fpX10_53 {b : Bool} : FP RX10 b 53 10 6 := ⟨RX10, TX10, 16, okX10, by decide, Or.inl ⟨Or.inl flwX10_53, rfl⟩⟩
theorem flwX10_56 : Cond.fieldLink RX10 56 RX10 (TX10 7).2.1 (TX10 7).2.2.1 ∈ lw_use := use_t (i := 42) (by decide +kernel) rfl
theorem flX10_56 : FL RX10 56 10 7 := ⟨RX10, TX10, 16, okX10, by decide, Or.inl flwX10_56⟩
theorem fpX10_56 {b : Bool} : FP RX10 b 56 10 7 := ⟨RX10, TX10, 16, okX10, by decide, Or.inl ⟨Or.inl flwX10_56, rfl⟩⟩
theorem flwX10_50 : Cond.fieldLink RX10 50 RX10 (TX10 8).2.1 (TX10 8).2.2.1 ∈ lw_use := use_t (i := 43) (by decide +kernel) rfl
theorem flX10_50 : FL RX10 50 10 8 := ⟨RX10, TX10, 16, okX10, by decide, Or.inl flwX10_50⟩
theorem fpX10_50 {b : Bool} : FP RX10 b 50 10 8 := ⟨RX10, TX10, 16, okX10, by decide, Or.inl ⟨Or.inl flwX10_50, rfl⟩⟩
theorem flwX6_55 : Cond.fieldLinkNest RX6 55 RX10 (TX10 9).2.1 (TX10 9).2.2.1 "ToldPowers" ∈ lw_use := use_t (i := 44) (by decide +kernel) rfl
theorem flX6_55 : FL RX6 55 10 9 := ⟨RX10, TX10, 16, okX10, by decide, Or.inr ⟨_, flwX6_55⟩⟩
theorem fpX6_55 {b : Bool} : FP RX6 b 55 10 9 := ⟨RX10, TX10, 16, okX10, by decide, Or.inl ⟨Or.inr ⟨_, flwX6_55⟩, rfl⟩⟩
theorem flwX2_88 : Cond.fieldLinkNest RX2 88 RX10 (TX10 9).2.1 (TX10 9).2.2.1 "ToldPowers" ∈ lw_use := use_t (i := 45) (by decide +kernel) rfl
theorem flX2_88 : FL RX2 88 10 9 := ⟨RX10, TX10, 16, okX10, by decide, Or.inr ⟨_, flwX2_88⟩⟩
theorem fpX2_88 {b : Bool} : FP RX2 b 88 10 9 := ⟨RX10, TX10, 16, okX10, by decide, Or.inl ⟨Or.inr ⟨_, flwX2_88⟩, rfl⟩⟩
theorem flwX10_108 : Cond.fieldLink RX10 108 RX10 (TX10 9).2.1 (TX10 9).2.2.1 ∈ lw_use := use_t (i := 46) (by decide +kernel) rfl
theorem flX10_108 : FL RX10 108 10 9 := ⟨RX10, TX10, 16, okX10, by decide, Or.inl flwX10_108⟩
theorem fpX10_108 {b : Bool} : FP RX10 b 108 10 9 := ⟨RX10, TX10, 16, okX10, by decide, Or.inl ⟨Or.inl flwX10_108, rfl⟩⟩
theorem flwX2_32 : Cond.fieldLinkNest RX2 32 RX10 (TX10 10).2.1 (TX10 10).2.2.1 "ToldPowers" ∈ lw_use := use_t (i := 47) (by decide +kernel) rfl
theorem flX2_32 : FL RX2 32 10 10 := ⟨RX10, TX10, 16, okX10, by decide, Or.inr ⟨_, flwX2_32⟩⟩
theorem fpX2_32 {b : Bool} : FP RX2 b 32 10 10 := ⟨RX10, TX10, 16, okX10, by decide, Or.inl ⟨Or.inr ⟨_, flwX2_32⟩, rfl⟩⟩
theorem flwX6_33 : Cond.fieldLinkNest RX6 33 RX10 (TX10 10).2.1 (TX10 10).2.2.1 "ToldPowers" ∈ lw_use := use_t (i := 48) (by decide +kernel) rfl
theorem flX6_33 : FL RX6 33 10 10 := ⟨RX10, TX10, 16, okX10, by decide, Or.inr ⟨_, flwX6_33⟩⟩
theorem fpX6_33 {b : Bool} : FP RX6 b 33 10 10 := ⟨RX10, TX10, 16, okX10, by decide, Or.inl ⟨Or.inr ⟨_, flwX6_33⟩, rfl⟩⟩
theorem flwX4_48 : Cond.fieldLinkNest RX4 48 RX10 (TX10 10).2.1 (TX10 10).2.2.1 "ToldPowers" ∈ lw_use := use_t (i := 49) (by decide +kernel) rfl
theorem flX4_48 : FL RX4 48 10 10 := ⟨RX10, TX10, 16, okX10, by decide, Or.inr ⟨_, flwX4_48⟩⟩
theorem fpX4_48 {b : Bool} : FP RX4 b 48 10 10 := ⟨RX10, TX10, 16, okX10, by decide, Or.inl ⟨Or.inr ⟨_, flwX4_48⟩, rfl⟩⟩
theorem flwX10_44 : Cond.fieldLink RX10 44 RX10 (TX10 10).2.1 (TX10 10).2.2.1 ∈ lw_use := use_t (i := 50) (by decide +kernel) rfl
theorem flX10_44 : FL RX10 44 10 10 := ⟨RX10, TX10, 16, okX10, by decide, Or.inl flwX10_44⟩
theorem fpX10_44 {b : Bool} : FP RX10 b 44 10 10 := ⟨RX10, TX10, 16, okX10, by decide, Or.inl ⟨Or.inl flwX10_44, rfl⟩⟩
theorem flwX10_47 : Cond.fieldLink RX10 47 RX10 (TX10 11).2.1 (TX10 11).2.2.1 ∈ lw_use := use_t (i := 51) (by decide +kernel) rfl
theorem flX10_47 : FL RX10 47 10 11 := ⟨RX10, TX10, 16, okX10, by decide, Or.inl flwX10_47⟩
theorem fpX10_47 {b : Bool} : FP RX10 b 47 10 11 := ⟨RX10, TX10, 16, okX10, by decide, Or.inl ⟨Or.inl flwX10_47, rfl⟩⟩
theorem flwX6_96 : Cond.fieldLinkNest RX6 96 RX10 (TX10 11).2.1 (TX10 11).2.2.1 "ToldPowers" ∈ lw_use := use_t (i := 52) (by decide +kernel) rfl
theorem flX6_96 : FL RX6 96 10 11 := ⟨RX10, TX10, 16, okX10, by decide, Or.inr ⟨_, flwX6_96⟩⟩
theorem fpX6_96 {b : Bool} : FP RX6 b 96 10 11 := ⟨RX10, TX10, 16, okX10, by decide, Or.inl ⟨Or.inr ⟨_, flwX6_96⟩, rfl⟩⟩
theorem flwX4_96 : Cond.fieldLinkNest RX4 96 RX10 (TX10 11).2.1 (TX10 11).2.2.1 "ToldPowers" ∈ lw_use := use_t (i := 53) (by decide +kernel) rfl
theorem flX4_96 : FL RX4 96 10 11 := ⟨RX10, TX10, 16, okX10, by decide, Or.inr ⟨_, flwX4_96⟩⟩
theorem fpX4_96 {b : Bool} : FP RX4 b 96 10 11 := ⟨RX10, TX10, 16, okX10, by decide, Or.inl ⟨Or.inr ⟨_, flwX4_96⟩, rfl⟩⟩
theorem flwX10_41 : Cond.fieldLink RX10 41 RX10 (TX10 12).2.1 (TX10 12).2.2.1 ∈ lw_use := use_t (i := 54) (by decide +kernel) rfl
theorem flX10_41 : FL RX10 41 10 12 := ⟨RX10, TX10, 16, okX10, by decide, Or.inl flwX10_41⟩
theorem fpX10_41 {b : Bool} : FP RX10 b 41 10 12 := ⟨RX10, TX10, 16, okX10, by decide, Or.inl ⟨Or.inl flwX10_41, rfl⟩⟩
theorem flwX11_145 : Cond.fieldLinkNest RX11 145 RX10 (TX10 12).2.1 (TX10 12).2.2.1 "ToldPowers" ∈ lw_use := use_t (i := 55) (by decide +kernel) rfl
theorem flX11_145 : FL RX11 145 10 12 := ⟨RX10, TX10, 16, okX10, by decide, Or.inr ⟨_, flwX11_145⟩⟩
theorem fpX11_145 {b : Bool} : FP RX11 b 145 10 12 := ⟨RX10, TX10, 16, okX10, by decide, Or.inl ⟨Or.inr ⟨_, flwX11_145⟩, rfl⟩⟩
theorem flwX10_28 : Cond.fieldLink RX10 28 RX10 (TX10 13).2.1 (TX10 13).2.2.1 ∈ lw_use := use_t (i := 56) (by decide +kernel) rfl
theorem flX10_28 : FL RX10 28 10 13 := ⟨RX10, TX10, 16, okX10, by decide, Or.inl flwX10_28⟩
theorem fpX10_28 {b : Bool} : FP RX10 b 28 10 13 := ⟨RX10, TX10, 16, okX10, by decide, Or.inl ⟨Or.inl flwX10_28, rfl⟩⟩
theorem flwX11_148 : Cond.fieldLinkNest RX11 148 RX10 (TX10 13).2.1 (TX10 13).2.2.1 "ToldPowers" ∈ lw_use := use_t (i := 57) (by decide +kernel) rfl
theorem flX11_148 : FL RX11 148 10 13 := ⟨RX10, TX10, 16, okX10, by decide, Or.inr ⟨_, flwX11_148⟩⟩
theorem fpX11_148 {b : Bool} : FP RX11 b 148 10 13 := ⟨RX10, TX10, 16, okX10, by decide, Or.inl ⟨Or.inr ⟨_, flwX11_148⟩, rfl⟩⟩
theorem flwX10_32 : Cond.fieldLink RX10 32 RX10 (TX10 14).2.1 (TX10 14).2.2.1 ∈ lw_use := use_t (i := 58) (by decide +kernel) rfl
theorem flX10_32 : FL RX10 32 10 14 := ⟨RX10, TX10, 16, okX10, by decide, Or.inl flwX10_32⟩
theorem fpX10_32 {b : Bool} : FP RX10 b 32 10 14 := ⟨RX10, TX10, 16, okX10, by decide, Or.inl ⟨Or.inl flwX10_32, rfl⟩⟩
theorem flwX11_151 : Cond.fieldLinkNest RX11 151 RX10 (TX10 14).2.1 (TX10 14).2.2.1 "ToldPowers" ∈ lw_use := use_t (i := 59) (by decide +kernel) rfl
theorem flX11_151 : FL RX11 151 10 14 := ⟨RX10, TX10, 16, okX10, by decide, Or.inr ⟨_, flwX11_151⟩⟩
theorem fpX11_151 {b : Bool} : FP RX11 b 151 10 14 := ⟨RX10, TX10, 16, okX10, by decide, Or.inl ⟨Or.inr ⟨_, flwX11_151⟩, rfl⟩⟩
theorem flwX10_35 : Cond.fieldLink RX10 35 RX10 (TX10 15).2.1 (TX10 15).2.2.1 ∈ lw_use := use_t (i := 60) (by decide +kernel) rfl
theorem flX10_35 : FL RX10 35 10 15 := ⟨RX10, TX10, 16, okX10, by decide, Or.inl flwX10_35⟩
theorem fpX10_35 {b : Bool} : FP RX10 b 35 10 15 := ⟨RX10, TX10, 16, okX10, by decide, Or.inl ⟨Or.inl flwX10_35, rfl⟩⟩
theorem flwX11_154 : Cond.fieldLinkNest RX11 154 RX10 (TX10 15).2.1 (TX10 15).2.2.1 "ToldPowers" ∈ lw_use := use_t (i := 61) (by decide +kernel) rfl
theorem flX11_154 : FL RX11 154 10 15 := ⟨RX10, TX10, 16, okX10, by decide, Or.inr ⟨_, flwX11_154⟩⟩
theorem fpX11_154 {b : Bool} : FP RX11 b 154 10 15 := ⟨RX10, TX10, 16, okX10, by decide, Or.inl ⟨Or.inr ⟨_, flwX11_154⟩, rfl⟩⟩
theorem flwX1_30 : Cond.fieldLink RX1 30 RX1 (TX1 0).2.1 (TX1 0).2.2.1 ∈ lw_use := use_t (i := 106) (by decide +kernel) rfl
theorem flX1_30 : FL RX1 30 1 0 := ⟨RX1, TX1, 7, okX1, by decide, Or.inl flwX1_30⟩
theorem fpX1_30 {b : Bool} : FP RX1 b 30 1 0 := ⟨RX1, TX1, 7, okX1, by decide, Or.inl ⟨Or.inl flwX1_30, rfl⟩⟩
theorem flwX2_22 : Cond.fieldLinkNest RX2 22 RX1 (TX1 0).2.1 (TX1 0).2.2.1 "ToldPowers" ∈ lw_use := use_t (i := 107) (by decide +kernel) rfl
theorem flX2_22 : FL RX2 22 1 0 := ⟨RX1, TX1, 7, okX1, by decide, Or.inr ⟨_, flwX2_22⟩⟩
theorem fpX2_22 {b : Bool} : FP RX2 b 22 1 0 := ⟨RX1, TX1, 7, okX1, by decide, Or.inl ⟨Or.inr ⟨_, flwX2_22⟩, rfl⟩⟩
theorem flwX0_32 : Cond.fieldLinkNest RX0 32 RX1 (TX1 0).2.1 (TX1 0).2.2.1 "ToldPowers" ∈ lw_use := use_t (i := 108) (by decide +kernel) rfl
theorem flX0_32 : FL RX0 32 1 0 := ⟨RX1, TX1, 7, okX1, by decide, Or.inr ⟨_, flwX0_32⟩⟩
theorem fpX0_32 {b : Bool} : FP RX0 b 32 1 0 := ⟨RX1, TX1, 7, okX1, by decide, Or.inl ⟨Or.inr ⟨_, flwX0_32⟩, rfl⟩⟩
theorem flwX7_30 : Cond.fieldLinkNest RX7 30 RX1 (TX1 0).2.1 (TX1 0).2.2.1 "ToldPowers" ∈ lw_use := use_t (i := 109) (by decide +kernel) rfl
theorem flX7_30 : FL RX7 30 1 0 := ⟨RX1, TX1, 7, okX1, by decide, Or.inr ⟨_, flwX7_30⟩⟩
theorem fpX7_30 {b : Bool} : FP RX7 b 30 1 0 := ⟨RX1, TX1, 7, okX1, by decide, Or.inl ⟨Or.inr ⟨_, flwX7_30⟩, rfl⟩⟩
theorem flwX11_125 : Cond.fieldLinkNest RX11 125 RX1 (TX1 0).2.1 (TX1 0).2.2.1 "ToldPowers" ∈ lw_use := use_t (i := 110) (by decide +kernel) rfl
theorem flX11_125 : FL RX11 125 1 0 := ⟨RX1, TX1, 7, okX1, by decide, Or.inr ⟨_, flwX11_125⟩⟩
theorem fpX11_125 {b : Bool} : FP RX11 b 125 1 0 := ⟨RX1, TX1, 7, okX1, by decide, Or.inl ⟨Or.inr ⟨_, flwX11_125⟩, rfl⟩⟩
theorem flwX6_80 : Cond.fieldLinkNest RX6 80 RX1 (TX1 0).2.1 (TX1 0).2.2.1 "ToldPowers" ∈ lw_use := use_t (i := 111) (by decide +kernel) rfl
theorem flX6_80 : FL RX6 80 1 0 := ⟨RX1, TX1, 7, okX1, by decide, Or.inr ⟨_, flwX6_80⟩⟩
theorem fpX6_80 {b : Bool} : FP RX6 b 80 1 0 := ⟨RX1, TX1, 7, okX1, by decide, Or.inl ⟨Or.inr ⟨_, flwX6_80⟩, rfl⟩⟩
theorem flwX1_9 : Cond.fieldLink RX1 9 RX1 (TX1 1).2.1 (TX1 1).2.2.1 ∈ lw_use := use_t (i := 112) (by decide +kernel) rfl
theorem flX1_9 : FL RX1 9 1 1 := ⟨RX1, TX1, 7, okX1, by decide, Or.inl flwX1_9⟩
theorem fpX1_9 : FP RX1 true 9 1 1 := ⟨RX1, TX1, 7, okX1, by decide, Or.inr ⟨flwX1_9, rfl, rfl, rfl⟩⟩
theorem flwX8_43 : Cond.fieldLinkNest RX8 43 RX1 (TX1 1).2.1 (TX1 1).2.2.1 "ToldPowers" ∈ lw_use := use_t (i := 113) (by decide +kernel) rfl
theorem flX8_43 : FL RX8 43 1 1 := ⟨RX1, TX1, 7, okX1, by decide, Or.inr ⟨_, flwX8_43⟩⟩
theorem flwX11_162 : Cond.fieldLinkNest RX11 162 RX1 (TX1 1).2.1 (TX1 1).2.2.1 "ToldPowers" ∈ lw_use := use_t (i := 114) (by decide +kernel) rfl
theorem flX11_162 : FL RX11 162 1 1 := ⟨RX1, TX1, 7, okX1, by decide, Or.inr ⟨_, flwX11_162⟩⟩
theorem flwX0_66 : Cond.fieldLinkNest RX0 66 RX1 (TX1 1).2.1 (TX1 1).2.2.1 "ToldPowers" ∈ lw_use := use_t (i := 115) (by decide +kernel) rfl
theorem flX0_66 : FL RX0 66 1 1 := ⟨RX1, TX1, 7, okX1, by decide, Or.inr ⟨_, flwX0_66⟩⟩
theorem flwX7_95 : Cond.fieldLinkNest RX7 95 RX1 (TX1 1).2.1 (TX1 1).2.2.1 "ToldPowers" ∈ lw_use := use_t (i := 116) (by decide +kernel) rfl
theorem flX7_95 : FL RX7 95 1 1 := ⟨RX1, TX1, 7, okX1, by decide, Or.inr ⟨_, flwX7_95⟩⟩
theorem flwX1_15 : Cond.fieldLink RX1 15 RX1 (TX1 2).2.1 (TX1 2).2.2.1 ∈ lw_use := use_t (i := 117) (by decide +kernel) rfl
theorem flX1_15 : FL RX1 15 1 2 := ⟨RX1, TX1, 7, okX1, by decide, Or.inl flwX1_15⟩
theorem fpX1_15 : FP RX1 true 15 1 2 := ⟨RX1, TX1, 7, okX1, by decide, Or.inr ⟨flwX1_15, rfl, rfl, rfl⟩⟩
theorem flwX8_40 : Cond.fieldLinkNest RX8 40 RX1 (TX1 2).2.1 (TX1 2).2.2.1 "ToldPowers" ∈ lw_use := use_t (i := 118) (by decide +kernel) rfl
theorem flX8_40 : FL RX8 40 1 2 := ⟨RX1, TX1, 7, okX1, by decide, Or.inr ⟨_, flwX8_40⟩⟩
theorem flwX7_51 : Cond.fieldLinkNest RX7 51 RX1 (TX1 2).2.1 (TX1 2).2.2.1 "ToldPowers" ∈ lw_use := use_t (i := 119) (by decide +kernel) rfl
theorem flX7_51 : FL RX7 51 1 2 := ⟨RX1, TX1, 7, okX1, by decide, Or.inr ⟨_, flwX7_51⟩⟩
theorem flwX0_63 : Cond.fieldLinkNest RX0 63 RX1 (TX1 2).2.1 (TX1 2).2.2.1 "ToldPowers" ∈ lw_use := use_t (i := 120) (by decide +kernel) rfl
theorem flX0_63 : FL RX0 63 1 2 := ⟨RX1, TX1, 7, okX1, by decide, Or.inr ⟨_, flwX0_63⟩⟩
theorem flwX11_165 : Cond.fieldLinkNest RX11 165 RX1 (TX1 2).2.1 (TX1 2).2.2.1 "ToldPowers" ∈ lw_use := use_t (i := 121) (by decide +kernel) rfl
theorem flX11_165 : FL RX11 165 1 2 := ⟨RX1, TX1, 7, okX1, by decide, Or.inr ⟨_, flwX11_165⟩⟩
theorem flwX1_18 : Cond.fieldLink RX1 18 RX1 (TX1 3).2.1 (TX1 3).2.2.1 ∈ lw_use := use_t (i := 122) (by decide +kernel) rfl
theorem flX1_18 : FL RX1 18 1 3 := ⟨RX1, TX1, 7, okX1, by decide, Or.inl flwX1_18⟩
theorem fpX1_18 : FP RX1 true 18 1 3 := ⟨RX1, TX1, 7, okX1, by decide, Or.inr ⟨flwX1_18, rfl, rfl, rfl⟩⟩
theorem flwX8_49 : Cond.fieldLinkNest RX8 49 RX1 (TX1 3).2.1 (TX1 3).2.2.1 "ToldPowers" ∈ lw_use := use_t (i := 123) (by decide +kernel) rfl
theorem flX8_49 : FL RX8 49 1 3 := ⟨RX1, TX1, 7, okX1, by decide, Or.inr ⟨_, flwX8_49⟩⟩
theorem flwX6_102 : Cond.fieldLinkNest RX6 102 RX1 (TX1 3).2.1 (TX1 3).2.2.1 "ToldPowers" ∈ lw_use := use_t (i := 124) (by decide +kernel) rfl
theorem flX6_102 : FL RX6 102 1 3 := ⟨RX1, TX1, 7, okX1, by decide, Or.inr ⟨_, flwX6_102⟩⟩
theorem flwX11_168 : Cond.fieldLinkNest RX11 168 RX1 (TX1 3).2.1 (TX1 3).2.2.1 "ToldPowers" ∈ lw_use := use_t (i := 125) (by decide +kernel) rfl
theorem flX11_168 : FL RX11 168 1 3 := ⟨RX1, TX1, 7, okX1, by decide, Or.inr ⟨_, flwX11_168⟩⟩
theorem flwX7_86 : Cond.fieldLinkNest RX7 86 RX1 (TX1 3).2.1 (TX1 3).2.2.1 "ToldPowers" ∈ lw_use := use_t (i := 126) (by decide +kernel) rfl
theorem flX7_86 : FL RX7 86 1 3 := ⟨RX1, TX1, 7, okX1, by decide, Or.inr ⟨_, flwX7_86⟩⟩
theorem flwX1_21 : Cond.fieldLink RX1 21 RX1 (TX1 4).2.1 (TX1 4).2.2.1 ∈ lw_use := use_t (i := 127) (by decide +kernel) rfl
theorem flX1_21 : FL RX1 21 1 4 := ⟨RX1, TX1, 7, okX1, by decide, Or.inl flwX1_21⟩
theorem fpX1_21 : FP RX1 true 21 1 4 := ⟨RX1, TX1, 7, okX1, by decide, Or.inr ⟨flwX1_21, rfl, rfl, rfl⟩⟩
theorem flwX8_46 : Cond.fieldLinkNest RX8 46 RX1 (TX1 4).2.1 (TX1 4).2.2.1 "ToldPowers" ∈ lw_use := use_t (i := 128) (by decide +kernel) rfl
theorem flX8_46 : FL RX8 46 1 4 := ⟨RX1, TX1, 7, okX1, by decide, Or.inr ⟨_, flwX8_46⟩⟩
theorem flwX6_105 : Cond.fieldLinkNest RX6 105 RX1 (TX1 4).2.1 (TX1 4).2.2.1 "ToldPowers" ∈ lw_use := use_t (i := 129) (by decide +kernel) rfl
theorem flX6_105 : FL RX6 105 1 4 := ⟨RX1, TX1, 7, okX1, by decide, Or.inr ⟨_, flwX6_105⟩⟩
theorem flwX11_171 : Cond.fieldLinkNest RX11 171 RX1 (TX1 4).2.1 (TX1 4).2.2.1 "ToldPowers" ∈ lw_use := use_t (i := 130) (by decide +kernel) rfl
theorem flX11_171 : FL RX11 171 1 4 := ⟨RX1, TX1, 7, okX1, by decide, Or.inr ⟨_, flwX11_171⟩⟩
theorem flwX7_89 : Cond.fieldLinkNest RX7 89 RX1 (TX1 4).2.1 (TX1 4).2.2.1 "ToldPowers" ∈ lw_use := use_t (i := 131) (by decide +kernel) rfl
theorem flX7_89 : FL RX7 89 1 4 := ⟨RX1, TX1, 7, okX1, by decide, Or.inr ⟨_, flwX7_89⟩⟩
theorem flwX1_24 : Cond.fieldLink RX1 24 RX1 (TX1 5).2.1 (TX1 5).2.2.1 ∈ lw_use := use_t (i := 132) (by decide +kernel) rfl
theorem flX1_24 : FL RX1 24 1 5 := ⟨RX1, TX1, 7, okX1, by decide, Or.inl flwX1_24⟩
theorem fpX1_24 : FP RX1 true 24 1 5 := ⟨RX1, TX1, 7, okX1, by decide, Or.inr ⟨flwX1_24, rfl, rfl, rfl⟩⟩
theorem flwX8_37 : Cond.fieldLinkNest RX8 37 RX1 (TX1 5).2.1 (TX1 5).2.2.1 "ToldPowers" ∈ lw_use := use_t (i := 133) (by decide +kernel) rfl
theorem flX8_37 : FL RX8 37 1 5 := ⟨RX1, TX1, 7, okX1, by decide, Or.inr ⟨_, flwX8_37⟩⟩
theorem flwX7_75 : Cond.fieldLinkNest RX7 75 RX1 (TX1 5).2.1 (TX1 5).2.2.1 "ToldPowers" ∈ lw_use := use_t (i := 134) (by decide +kernel) rfl
theorem flX7_75 : FL RX7 75 1 5 := ⟨RX1, TX1, 7, okX1, by decide, Or.inr ⟨_, flwX7_75⟩⟩
theorem flwX1_27 : Cond.fieldLink RX1 27 RX1 (TX1 6).2.1 (TX1 6).2.2.1 ∈ lw_use := use_t (i := 135) (by decide +kernel) rfl
theorem flX1_27 : FL RX1 27 1 6 := ⟨RX1, TX1, 7, okX1, by decide, Or.inl flwX1_27⟩
theorem fpX1_27 : FP RX1 true 27 1 6 := ⟨RX1, TX1, 7, okX1, by decide, Or.inr ⟨flwX1_27, rfl, rfl, rfl⟩⟩
theorem flwX9_18 : Cond.fieldLink RX9 18 RX9 (TX9 0).2.1 (TX9 0).2.2.1 ∈ lw_use := use_t (i := 156) (by decide +kernel) rfl
theorem flX9_18 : FL RX9 18 9 0 := ⟨RX9, TX9, 4, okX9, by decide, Or.inl flwX9_18⟩
theorem fpX9_18 {b : Bool} : FP RX9 b 18 9 0 := ⟨RX9, TX9, 4, okX9, by decide, Or.inl ⟨Or.inl flwX9_18, rfl⟩⟩
theorem flwX11_311 : Cond.fieldLinkNest RX11 311 RX9 (TX9 0).2.1 (TX9 0).2.2.1 "ToldPowers" ∈ lw_use := use_t (i := 157) (by decide +kernel) rfl
theorem flX11_311 : FL RX11 311 9 0 := ⟨RX9, TX9, 4, okX9, by decide, Or.inr ⟨_, flwX11_311⟩⟩
theorem fpX11_311 {b : Bool} : FP RX11 b 311 9 0 := ⟨RX9, TX9, 4, okX9, by decide, Or.inl ⟨Or.inr ⟨_, flwX11_311⟩, rfl⟩⟩
theorem flwX9_28 : Cond.fieldLink RX9 28 RX9 (TX9 1).2.1 (TX9 1).2.2.1 ∈ lw_use := use_t (i := 158) (by decide +kernel) rfl
theorem flX9_28 : FL RX9 28 9 1 := ⟨RX9, TX9, 4, okX9, by decide, Or.inl flwX9_28⟩
theorem fpX9_28 {b : Bool} : FP RX9 b 28 9 1 := ⟨RX9, TX9, 4, okX9, by decide, Or.inl ⟨Or.inl flwX9_28, rfl⟩⟩
theorem flwX11_325 : Cond.fieldLinkNest RX11 325 RX9 (TX9 1).2.1 (TX9 1).2.2.1 "ToldPowers" ∈ lw_use := use_t (i := 159) (by decide +kernel) rfl
theorem flX11_325 : FL RX11 325 9 1 := ⟨RX9, TX9, 4, okX9, by decide, Or.inr ⟨_, flwX11_325⟩⟩
theorem fpX11_325 {b : Bool} : FP RX11 b 325 9 1 := ⟨RX9, TX9, 4, okX9, by decide, Or.inl ⟨Or.inr ⟨_, flwX11_325⟩, rfl⟩⟩
theorem flwX9_9 : Cond.fieldLink RX9 9 RX9 (TX9 2).2.1 (TX9 2).2.2.1 ∈ lw_use := use_t (i := 160) (by decide +kernel) rfl
theorem flX9_9 : FL RX9 9 9 2 := ⟨RX9, TX9, 4, okX9, by decide, Or.inl flwX9_9⟩
theorem fpX9_9 {b : Bool} : FP RX9 b 9 9 2 := ⟨RX9, TX9, 4, okX9, by decide, Or.inl ⟨Or.inl flwX9_9, rfl⟩⟩
theorem flwX11_307 : Cond.fieldLinkNest RX11 307 RX9 (TX9 2).2.1 (TX9 2).2.2.1 "ToldPowers" ∈ lw_use := use_t (i := 161) (by decide +kernel) rfl
theorem flX11_307 : FL RX11 307 9 2 := ⟨RX9, TX9, 4, okX9, by decide, Or.inr ⟨_, flwX11_307⟩⟩
theorem fpX11_307 {b : Bool} : FP RX11 b 307 9 2 := ⟨RX9, TX9, 4, okX9, by decide, Or.inl ⟨Or.inr ⟨_, flwX11_307⟩, rfl⟩⟩
theorem flwX9_15 : Cond.fieldLink RX9 15 RX9 (TX9 3).2.1 (TX9 3).2.2.1 ∈ lw_use := use_t (i := 162) (by decide +kernel) rfl
theorem flX9_15 : FL RX9 15 9 3 := ⟨RX9, TX9, 4, okX9, by decide, Or.inl flwX9_15⟩
theorem fpX9_15 {b : Bool} : FP RX9 b 15 9 3 := ⟨RX9, TX9, 4, okX9, by decide, Or.inl ⟨Or.inl flwX9_15, rfl⟩⟩
theorem flwX11_322 : Cond.fieldLinkNest RX11 322 RX9 (TX9 3).2.1 (TX9 3).2.2.1 "ToldPowers" ∈ lw_use := use_t (i := 163) (by decide +kernel) rfl
theorem flX11_322 : FL RX11 322 9 3 := ⟨RX9, TX9, 4, okX9, by decide, Or.inr ⟨_, flwX11_322⟩⟩
theorem fpX11_322 {b : Bool} : FP RX11 b 322 9 3 := ⟨RX9, TX9, 4, okX9, by decide, Or.inl ⟨Or.inr ⟨_, flwX11_322⟩, rfl⟩⟩
theorem flwX2_9 : Cond.fieldLink RX2 9 RX2 (TX2 0).2.1 (TX2 0).2.2.1 ∈ lw_use := use_t (i := 181) (by decide +kernel) rfl
theorem flX2_9 : FL RX2 9 2 0 := ⟨RX2, TX2, 2, okX2, by decide, Or.inl flwX2_9⟩
theorem fpX2_9 : FP RX2 true 9 2 0 := ⟨RX2, TX2, 2, okX2, by decide, Or.inr ⟨flwX2_9, rfl, rfl, rfl⟩⟩
theorem flwX2_18 : Cond.fieldLink RX2 18 RX2 (TX2 1).2.1 (TX2 1).2.2.1 ∈ lw_use := use_t (i := 182) (by decide +kernel) rfl
theorem flX2_18 : FL RX2 18 2 1 := ⟨RX2, TX2, 2, okX2, by decide, Or.inl flwX2_18⟩
theorem fpX2_18 : FP RX2 true 18 2 1 := ⟨RX2, TX2, 2, okX2, by decide, Or.inr ⟨flwX2_18, rfl, rfl, rfl⟩⟩
theorem flwX11_118 : Cond.fieldLinkNest RX11 118 RX2 (TX2 1).2.1 (TX2 1).2.2.1 "ToldPowers" ∈ lw_use := use_t (i := 183) (by decide +kernel) rfl
theorem flX11_118 : FL RX11 118 2 1 := ⟨RX2, TX2, 2, okX2, by decide, Or.inr ⟨_, flwX11_118⟩⟩
theorem flwX6_9 : Cond.fieldLink RX6 9 RX6 (TX6 0).2.1 (TX6 0).2.2.1 ∈ lw_use := use_t (i := 195) (by decide +kernel) rfl
theorem flX6_9 : FL RX6 9 6 0 := ⟨RX6, TX6, 4, okX6, by decide, Or.inl flwX6_9⟩
theorem fpX6_9 : FP RX6 true 9 6 0 := ⟨RX6, TX6, 4, okX6, by decide, Or.inr ⟨flwX6_9, rfl, rfl, rfl⟩⟩
theorem flwX6_15 : Cond.fieldLink RX6 15 RX6 (TX6 1).2.1 (TX6 1).2.2.1 ∈ lw_use := use_t (i := 196) (by decide +kernel) rfl
theorem flX6_15 : FL RX6 15 6 1 := ⟨RX6, TX6, 4, okX6, by decide, Or.inl flwX6_15⟩
theorem fpX6_15 : FP RX6 true 15 6 1 := ⟨RX6, TX6, 4, okX6, by decide, Or.inr ⟨flwX6_15, rfl, rfl, rfl⟩⟩
theorem flwX6_19 : Cond.fieldLink RX6 19 RX6 (TX6 2).2.1 (TX6 2).2.2.1 ∈ lw_use := use_t (i := 197) (by decide +kernel) rfl
theorem flX6_19 : FL RX6 19 6 2 := ⟨RX6, TX6, 4, okX6, by decide, Or.inl flwX6_19⟩
theorem fpX6_19 {b : Bool} : FP RX6 b 19 6 2 := ⟨RX6, TX6, 4, okX6, by decide, Or.inl ⟨Or.inl flwX6_19, rfl⟩⟩
theorem flwX6_23 : Cond.fieldLink RX6 23 RX6 (TX6 3).2.1 (TX6 3).2.2.1 ∈ lw_use := use_t (i := 198) (by decide +kernel) rfl
theorem flX6_23 : FL RX6 23 6 3 := ⟨RX6, TX6, 4, okX6, by decide, Or.inl flwX6_23⟩
theorem fpX6_23 {b : Bool} : FP RX6 b 23 6 3 := ⟨RX6, TX6, 4, okX6, by decide, Or.inl ⟨Or.inl flwX6_23, rfl⟩⟩
theorem flwX4_9 : Cond.fieldLink RX4 9 RX4 (TX4 0).2.1 (TX4 0).2.2.1 ∈ lw_use := use_t (i := 214) (by decide +kernel) rfl
theorem flX4_9 : FL RX4 9 4 0 := ⟨RX4, TX4, 2, okX4, by decide, Or.inl flwX4_9⟩
theorem fpX4_9 : FP RX4 true 9 4 0 := ⟨RX4, TX4, 2, okX4, by decide, Or.inr ⟨flwX4_9, rfl, rfl, rfl⟩⟩
theorem flwX4_15 : Cond.fieldLink RX4 15 RX4 (TX4 1).2.1 (TX4 1).2.2.1 ∈ lw_use := use_t (i := 215) (by decide +kernel) rfl
theorem flX4_15 : FL RX4 15 4 1 := ⟨RX4, TX4, 2, okX4, by decide, Or.inl flwX4_15⟩
theorem fpX4_15 {b : Bool} : FP RX4 b 15 4 1 := ⟨RX4, TX4, 2, okX4, by decide, Or.inl ⟨Or.inl flwX4_15, rfl⟩⟩
theorem flwX7_9 : Cond.fieldLink RX7 9 RX7 (TX7 0).2.1 (TX7 0).2.2.1 ∈ lw_use := use_t (i := 227) (by decide +kernel) rfl
theorem flX7_9 : FL RX7 9 7 0 := ⟨RX7, TX7, 4, okX7, by decide, Or.inl flwX7_9⟩
theorem fpX7_9 : FP RX7 true 9 7 0 := ⟨RX7, TX7, 4, okX7, by decide, Or.inr ⟨flwX7_9, rfl, rfl, rfl⟩⟩
theorem flwX7_15 : Cond.fieldLink RX7 15 RX7 (TX7 1).2.1 (TX7 1).2.2.1 ∈ lw_use := use_t (i := 228) (by decide +kernel) rfl
theorem flX7_15 : FL RX7 15 7 1 := ⟨RX7, TX7, 4, okX7, by decide, Or.inl flwX7_15⟩
theorem fpX7_15 {b : Bool} : FP RX7 b 15 7 1 := ⟨RX7, TX7, 4, okX7, by decide, Or.inl ⟨Or.inl flwX7_15, rfl⟩⟩
theorem flwX7_19 : Cond.fieldLink RX7 19 RX7 (TX7 2).2.1 (TX7 2).2.2.1 ∈ lw_use := use_t (i := 229) (by decide +kernel) rfl
theorem flX7_19 : FL RX7 19 7 2 := ⟨RX7, TX7, 4, okX7, by decide, Or.inl flwX7_19⟩
theorem fpX7_19 {b : Bool} : FP RX7 b 19 7 2 := ⟨RX7, TX7, 4, okX7, by decide, Or.inl ⟨Or.inl flwX7_19, rfl⟩⟩
theorem flwX7_23 : Cond.fieldLink RX7 23 RX7 (TX7 3).2.1 (TX7 3).2.2.1 ∈ lw_use := use_t (i := 230) (by decide +kernel) rfl
theorem flX7_23 : FL RX7 23 7 3 := ⟨RX7, TX7, 4, okX7, by decide, Or.inl flwX7_23⟩
theorem fpX7_23 {b : Bool} : FP RX7 b 23 7 3 := ⟨RX7, TX7, 4, okX7, by decide, Or.inl ⟨Or.inl flwX7_23, rfl⟩⟩
theorem flwX0_9 : Cond.fieldLink RX0 9 RX0 (TX0 0).2.1 (TX0 0).2.2.1 ∈ lw_use := use_t (i := 247) (by decide +kernel) rfl
theorem flX0_9 : FL RX0 9 0 0 := ⟨RX0, TX0, 3, okX0, by decide, Or.inl flwX0_9⟩
theorem fpX0_9 : FP RX0 true 9 0 0 := ⟨RX0, TX0, 3, okX0, by decide, Or.inr ⟨flwX0_9, rfl, rfl, rfl⟩⟩
theorem flwX0_15 : Cond.fieldLink RX0 15 RX0 (TX0 1).2.1 (TX0 1).2.2.1 ∈ lw_use := use_t (i := 248) (by decide +kernel) rfl
theorem flX0_15 : FL RX0 15 0 1 := ⟨RX0, TX0, 3, okX0, by decide, Or.inl flwX0_15⟩
theorem fpX0_15 : FP RX0 true 15 0 1 := ⟨RX0, TX0, 3, okX0, by decide, Or.inr ⟨flwX0_15, rfl, rfl, rfl⟩⟩
theorem flwX0_19 : Cond.fieldLink RX0 19 RX0 (TX0 2).2.1 (TX0 2).2.2.1 ∈ lw_use := use_t (i := 249) (by decide +kernel) rfl
theorem flX0_19 : FL RX0 19 0 2 := ⟨RX0, TX0, 3, okX0, by decide, Or.inl flwX0_19⟩
theorem fpX0_19 {b : Bool} : FP RX0 b 19 0 2 := ⟨RX0, TX0, 3, okX0, by decide, Or.inl ⟨Or.inl flwX0_19, rfl⟩⟩
theorem flwX8_11 : Cond.fieldLink RX8 11 RX8 (TX8 0).2.1 (TX8 0).2.2.1 ∈ lw_use := use_t (i := 263) (by decide +kernel) rfl
theorem flX8_11 : FL RX8 11 8 0 := ⟨RX8, TX8, 4, okX8, by decide, Or.inl flwX8_11⟩
theorem fpX8_11 {b : Bool} : FP RX8 b 11 8 0 := ⟨RX8, TX8, 4, okX8, by decide, Or.inl ⟨Or.inl flwX8_11, rfl⟩⟩
theorem flwX8_15 : Cond.fieldLink RX8 15 RX8 (TX8 1).2.1 (TX8 1).2.2.1 ∈ lw_use := use_t (i := 264) (by decide +kernel) rfl
theorem flX8_15 : FL RX8 15 8 1 := ⟨RX8, TX8, 4, okX8, by decide, Or.inl flwX8_15⟩
theorem fpX8_15 {b : Bool} : FP RX8 b 15 8 1 := ⟨RX8, TX8, 4, okX8, by decide, Or.inl ⟨Or.inl flwX8_15, rfl⟩⟩
theorem flwX8_18 : Cond.fieldLink RX8 18 RX8 (TX8 2).2.1 (TX8 2).2.2.1 ∈ lw_use := use_t (i := 265) (by decide +kernel) rfl
theorem flX8_18 : FL RX8 18 8 2 := ⟨RX8, TX8, 4, okX8, by decide, Or.inl flwX8_18⟩
theorem fpX8_18 {b : Bool} : FP RX8 b 18 8 2 := ⟨RX8, TX8, 4, okX8, by decide, Or.inl ⟨Or.inl flwX8_18, rfl⟩⟩
theorem flwX8_22 : Cond.fieldLink RX8 22 RX8 (TX8 3).2.1 (TX8 3).2.2.1 ∈ lw_use := use_t (i := 266) (by decide +kernel) rfl
theorem flX8_22 : FL RX8 22 8 3 := ⟨RX8, TX8, 4, okX8, by decide, Or.inl flwX8_22⟩
theorem fpX8_22 {b : Bool} : FP RX8 b 22 8 3 := ⟨RX8, TX8, 4, okX8, by decide, Or.inl ⟨Or.inl flwX8_22, rfl⟩⟩
theorem flwX5_9 : Cond.fieldLink RX5 9 RX5 (TX5 0).2.1 (TX5 0).2.2.1 ∈ lw_use := use_t (i := 282) (by decide +kernel) rfl
theorem flX5_9 : FL RX5 9 5 0 := ⟨RX5, TX5, 2, okX5, by decide, Or.inl flwX5_9⟩
theorem fpX5_9 : FP RX5 true 9 5 0 := ⟨RX5, TX5, 2, okX5, by decide, Or.inr ⟨flwX5_9, rfl, rfl, rfl⟩⟩
theorem flwX11_292 : Cond.fieldLinkNest RX11 292 RX5 (TX5 0).2.1 (TX5 0).2.2.1 "ToldPowers" ∈ lw_use := use_t (i := 283) (by decide +kernel) rfl
theorem flX11_292 : FL RX11 292 5 0 := ⟨RX5, TX5, 2, okX5, by decide, Or.inr ⟨_, flwX11_292⟩⟩
theorem flwX5_15 : Cond.fieldLink RX5 15 RX5 (TX5 1).2.1 (TX5 1).2.2.1 ∈ lw_use := use_t (i := 284) (by decide +kernel) rfl
theorem flX5_15 : FL RX5 15 5 1 := ⟨RX5, TX5, 2, okX5, by decide, Or.inl flwX5_15⟩
theorem fpX5_15 {b : Bool} : FP RX5 b 15 5 1 := ⟨RX5, TX5, 2, okX5, by decide, Or.inl ⟨Or.inl flwX5_15, rfl⟩⟩
theorem flwX11_278 : Cond.fieldLinkNest RX11 278 RX5 (TX5 1).2.1 (TX5 1).2.2.1 "ToldPowers" ∈ lw_use := use_t (i := 285) (by decide +kernel) rfl
theorem flX11_278 : FL RX11 278 5 1 := ⟨RX5, TX5, 2, okX5, by decide, Or.inr ⟨_, flwX11_278⟩⟩
theorem fpX11_278 {b : Bool} : FP RX11 b 278 5 1 := ⟨RX5, TX5, 2, okX5, by decide, Or.inl ⟨Or.inr ⟨_, flwX11_278⟩, rfl⟩⟩
theorem flwX3_11 : Cond.fieldLink RX3 11 RX3 (TX3 0).2.1 (TX3 0).2.2.1 ∈ lw_use := use_t (i := 297) (by decide +kernel) rfl
theorem flX3_11 : FL RX3 11 3 0 := ⟨RX3, TX3, 19, okX3, by decide, Or.inl flwX3_11⟩
theorem fpX3_11 : FP RX3 true 11 3 0 := ⟨RX3, TX3, 19, okX3, by decide, Or.inr ⟨flwX3_11, rfl, rfl, rfl⟩⟩
theorem flwX3_15 : Cond.fieldLink RX3 15 RX3 (TX3 1).2.1 (TX3 1).2.2.1 ∈ lw_use := use_t (i := 298) (by decide +kernel) rfl
theorem flX3_15 : FL RX3 15 3 1 := ⟨RX3, TX3, 19, okX3, by decide, Or.inl flwX3_15⟩
theorem fpX3_15 : FP RX3 true 15 3 1 := ⟨RX3, TX3, 19, okX3, by decide, Or.inr ⟨flwX3_15, rfl, rfl, rfl⟩⟩
theorem flwX3_18 : Cond.fieldLink RX3 18 RX3 (TX3 2).2.1 (TX3 2).2.2.1 ∈ lw_use := use_t (i := 299) (by decide +kernel) rfl
theorem flX3_18 : FL RX3 18 3 2 := ⟨RX3, TX3, 19, okX3, by decide, Or.inl flwX3_18⟩
theorem fpX3_18 : FP RX3 true 18 3 2 := ⟨RX3, TX3, 19, okX3, by decide, Or.inr ⟨flwX3_18, rfl, rfl, rfl⟩⟩
theorem flwX3_21 : Cond.fieldLink RX3 21 RX3 (TX3 3).2.1 (TX3 3).2.2.1 ∈ lw_use := use_t (i := 300) (by decide +kernel) rfl
theorem flX3_21 : FL RX3 21 3 3 := ⟨RX3, TX3, 19, okX3, by decide, Or.inl flwX3_21⟩
theorem fpX3_21 : FP RX3 true 21 3 3 := ⟨RX3, TX3, 19, okX3, by decide, Or.inr ⟨flwX3_21, rfl, rfl, rfl⟩⟩
theorem flwX3_24 : Cond.fieldLink RX3 24 RX3 (TX3 4).2.1 (TX3 4).2.2.1 ∈ lw_use := use_t (i := 301) (by decide +kernel) rfl
theorem flX3_24 : FL RX3 24 3 4 := ⟨RX3, TX3, 19, okX3, by decide, Or.inl flwX3_24⟩
theorem fpX3_24 : FP RX3 true 24 3 4 := ⟨RX3, TX3, 19, okX3, by decide, Or.inr ⟨flwX3_24, rfl, rfl, rfl⟩⟩
theorem flwX3_27 : Cond.fieldLink RX3 27 RX3 (TX3 5).2.1 (TX3 5).2.2.1 ∈ lw_use := use_t (i := 302) (by decide +kernel) rfl
theorem flX3_27 : FL RX3 27 3 5 := ⟨RX3, TX3, 19, okX3, by decide, Or.inl flwX3_27⟩
theorem fpX3_27 : FP RX3 true 27 3 5 := ⟨RX3, TX3, 19, okX3, by decide, Or.inr ⟨flwX3_27, rfl, rfl, rfl⟩⟩
theorem flwX3_31 : Cond.fieldLink RX3 31 RX3 (TX3 6).2.1 (TX3 6).2.2.1 ∈ lw_use := use_t (i := 303) (by decide +kernel) rfl
theorem flX3_31 : FL RX3 31 3 6 := ⟨RX3, TX3, 19, okX3, by decide, Or.inl flwX3_31⟩
theorem fpX3_31 : FP RX3 true 31 3 6 := ⟨RX3, TX3, 19, okX3, by decide, Or.inr ⟨flwX3_31, rfl, rfl, rfl⟩⟩
theorem flwX3_35 : Cond.fieldLink RX3 35 RX3 (TX3 7).2.1 (TX3 7).2.2.1 ∈ lw_use := use_t (i := 304) (by decide +kernel) rfl
theorem flX3_35 : FL RX3 35 3 7 := ⟨RX3, TX3, 19, okX3, by decide, Or.inl flwX3_35⟩
theorem fpX3_35 : FP RX3 true 35 3 7 := ⟨RX3, TX3, 19, okX3, by decide, Or.inr ⟨flwX3_35, rfl, rfl, rfl⟩⟩
theorem flwX3_38 : Cond.fieldLink RX3 38 RX3 (TX3 8).2.1 (TX3 8).2.2.1 ∈ lw_use := use_t (i := 305) (by decide +kernel) rfl
theorem flX3_38 : FL RX3 38 3 8 := ⟨RX3, TX3, 19, okX3, by decide, Or.inl flwX3_38⟩
theorem fpX3_38 : FP RX3 true 38 3 8 := ⟨RX3, TX3, 19, okX3, by decide, Or.inr ⟨flwX3_38, rfl, rfl, rfl⟩⟩
theorem flwX11_268 : Cond.fieldLinkNest RX11 268 RX3 (TX3 8).2.1 (TX3 8).2.2.1 "ToldPowers" ∈ lw_use := use_t (i := 306) (by decide +kernel) rfl
theorem flX11_268 : FL RX11 268 3 8 := ⟨RX3, TX3, 19, okX3, by decide, Or.inr ⟨_, flwX11_268⟩⟩
theorem flwX3_41 : Cond.fieldLink RX3 41 RX3 (TX3 9).2.1 (TX3 9).2.2.1 ∈ lw_use := use_t (i := 307) (by decide +kernel) rfl
theorem flX3_41 : FL RX3 41 3 9 := ⟨RX3, TX3, 19, okX3, by decide, Or.inl flwX3_41⟩
theorem fpX3_41 : FP RX3 true 41 3 9 := ⟨RX3, TX3, 19, okX3, by decide, Or.inr ⟨flwX3_41, rfl, rfl, rfl⟩⟩
theorem flwX11_253 : Cond.fieldLinkNest RX11 253 RX3 (TX3 9).2.1 (TX3 9).2.2.1 "ToldPowers" ∈ lw_use := use_t (i := 308) (by decide +kernel) rfl
theorem flX11_253 : FL RX11 253 3 9 := ⟨RX3, TX3, 19, okX3, by decide, Or.inr ⟨_, flwX11_253⟩⟩
theorem flwX3_44 : Cond.fieldLink RX3 44 RX3 (TX3 10).2.1 (TX3 10).2.2.1 ∈ lw_use := use_t (i := 309) (by decide +kernel) rfl
theorem flX3_44 : FL RX3 44 3 10 := ⟨RX3, TX3, 19, okX3, by decide, Or.inl flwX3_44⟩
theorem fpX3_44 : FP RX3 true 44 3 10 := ⟨RX3, TX3, 19, okX3, by decide, Or.inr ⟨flwX3_44, rfl, rfl, rfl⟩⟩
theorem flwX11_256 : Cond.fieldLinkNest RX11 256 RX3 (TX3 10).2.1 (TX3 10).2.2.1 "ToldPowers" ∈ lw_use := use_t (i := 310) (by decide +kernel) rfl
theorem flX11_256 : FL RX11 256 3 10 := ⟨RX3, TX3, 19, okX3, by decide, Or.inr ⟨_, flwX11_256⟩⟩
theorem flwX3_47 : Cond.fieldLink RX3 47 RX3 (TX3 11).2.1 (TX3 11).2.2.1 ∈ lw_use := use_t (i := 311) (by decide +kernel) rfl
theorem flX3_47 : FL RX3 47 3 11 := ⟨RX3, TX3, 19, okX3, by decide, Or.inl flwX3_47⟩
theorem fpX3_47 : FP RX3 true 47 3 11 := ⟨RX3, TX3, 19, okX3, by decide, Or.inr ⟨flwX3_47, rfl, rfl, rfl⟩⟩
theorem flwX11_259 : Cond.fieldLinkNest RX11 259 RX3 (TX3 11).2.1 (TX3 11).2.2.1 "ToldPowers" ∈ lw_use := use_t (i := 312) (by decide +kernel) rfl
theorem flX11_259 : FL RX11 259 3 11 := ⟨RX3, TX3, 19, okX3, by decide, Or.inr ⟨_, flwX11_259⟩⟩
theorem flwX3_50 : Cond.fieldLink RX3 50 RX3 (TX3 12).2.1 (TX3 12).2.2.1 ∈ lw_use := use_t (i := 313) (by decide +kernel) rfl
theorem flX3_50 : FL RX3 50 3 12 := ⟨RX3, TX3, 19, okX3, by decide, Or.inl flwX3_50⟩
theorem fpX3_50 : FP RX3 true 50 3 12 := ⟨RX3, TX3, 19, okX3, by decide, Or.inr ⟨flwX3_50, rfl, rfl, rfl⟩⟩
theorem flwX3_53 : Cond.fieldLink RX3 53 RX3 (TX3 13).2.1 (TX3 13).2.2.1 ∈ lw_use := use_t (i := 314) (by decide +kernel) rfl
theorem flX3_53 : FL RX3 53 3 13 := ⟨RX3, TX3, 19, okX3, by decide, Or.inl flwX3_53⟩
theorem fpX3_53 {b : Bool} : FP RX3 b 53 3 13 := ⟨RX3, TX3, 19, okX3, by decide, Or.inl ⟨Or.inl flwX3_53, rfl⟩⟩
theorem flwX4_41 : Cond.fieldLinkNest RX4 41 RX3 (TX3 13).2.1 (TX3 13).2.2.1 "ToldPowers" ∈ lw_use := use_t (i := 315) (by decide +kernel) rfl
theorem flX4_41 : FL RX4 41 3 13 := ⟨RX3, TX3, 19, okX3, by decide, Or.inr ⟨_, flwX4_41⟩⟩
theorem fpX4_41 {b : Bool} : FP RX4 b 41 3 13 := ⟨RX3, TX3, 19, okX3, by decide, Or.inl ⟨Or.inr ⟨_, flwX4_41⟩, rfl⟩⟩
theorem flwX3_57 : Cond.fieldLink RX3 57 RX3 (TX3 14).2.1 (TX3 14).2.2.1 ∈ lw_use := use_t (i := 316) (by decide +kernel) rfl
theorem flX3_57 : FL RX3 57 3 14 := ⟨RX3, TX3, 19, okX3, by decide, Or.inl flwX3_57⟩
theorem fpX3_57 {b : Bool} : FP RX3 b 57 3 14 := ⟨RX3, TX3, 19, okX3, by decide, Or.inl ⟨Or.inl flwX3_57, rfl⟩⟩
theorem flwX3_60 : Cond.fieldLink RX3 60 RX3 (TX3 15).2.1 (TX3 15).2.2.1 ∈ lw_use := use_t (i := 317) (by decide +kernel) rfl
theorem flX3_60 : FL RX3 60 3 15 := ⟨RX3, TX3, 19, okX3, by decide, Or.inl flwX3_60⟩
theorem fpX3_60 {b : Bool} : FP RX3 b 60 3 15 := ⟨RX3, TX3, 19, okX3, by decide, Or.inl ⟨Or.inl flwX3_60, rfl⟩⟩
theorem flwX4_45 : Cond.fieldLinkNest RX4 45 RX3 (TX3 15).2.1 (TX3 15).2.2.1 "ToldPowers" ∈ lw_use := use_t (i := 318) (by decide +kernel) rfl
theorem flX4_45 : FL RX4 45 3 15 := ⟨RX3, TX3, 19, okX3, by decide, Or.inr ⟨_, flwX4_45⟩⟩
theorem fpX4_45 {b : Bool} : FP RX4 b 45 3 15 := ⟨RX3, TX3, 19, okX3, by decide, Or.inl ⟨Or.inr ⟨_, flwX4_45⟩, rfl⟩⟩
theorem flwX3_63 : Cond.fieldLink RX3 63 RX3 (TX3 16).2.1 (TX3 16).2.2.1 ∈ lw_use := use_t (i := 319) (by decide +kernel) rfl
theorem flX3_63 : FL RX3 63 3 16 := ⟨RX3, TX3, 19, okX3, by decide, Or.inl flwX3_63⟩
theorem fpX3_63 {b : Bool} : FP RX3 b 63 3 16 := ⟨RX3, TX3, 19, okX3, by decide, Or.inl ⟨Or.inl flwX3_63, rfl⟩⟩
theorem flwX11_296 : Cond.fieldLinkNest RX11 296 RX3 (TX3 16).2.1 (TX3 16).2.2.1 "ToldPowers" ∈ lw_use := use_t (i := 320) (by decide +kernel) rfl
theorem flX11_296 : FL RX11 296 3 16 := ⟨RX3, TX3, 19, okX3, by decide, Or.inr ⟨_, flwX11_296⟩⟩
theorem fpX11_296 {b : Bool} : FP RX11 b 296 3 16 := ⟨RX3, TX3, 19, okX3, by decide, Or.inl ⟨Or.inr ⟨_, flwX11_296⟩, rfl⟩⟩
theorem flwX3_66 : Cond.fieldLink RX3 66 RX3 (TX3 17).2.1 (TX3 17).2.2.1 ∈ lw_use := use_t (i := 321) (by decide +kernel) rfl
theorem flX3_66 : FL RX3 66 3 17 := ⟨RX3, TX3, 19, okX3, by decide, Or.inl flwX3_66⟩
theorem fpX3_66 {b : Bool} : FP RX3 b 66 3 17 := ⟨RX3, TX3, 19, okX3, by decide, Or.inl ⟨Or.inl flwX3_66, rfl⟩⟩
theorem flwX4_84 : Cond.fieldLinkNest RX4 84 RX3 (TX3 17).2.1 (TX3 17).2.2.1 "ToldPowers" ∈ lw_use := use_t (i := 322) (by decide +kernel) rfl
theorem flX4_84 : FL RX4 84 3 17 := ⟨RX3, TX3, 19, okX3, by decide, Or.inr ⟨_, flwX4_84⟩⟩
theorem fpX4_84 {b : Bool} : FP RX4 b 84 3 17 := ⟨RX3, TX3, 19, okX3, by decide, Or.inl ⟨Or.inr ⟨_, flwX4_84⟩, rfl⟩⟩
theorem flwX11_299 : Cond.fieldLinkNest RX11 299 RX3 (TX3 17).2.1 (TX3 17).2.2.1 "ToldPowers" ∈ lw_use := use_t (i := 323) (by decide +kernel) rfl
theorem flX11_299 : FL RX11 299 3 17 := ⟨RX3, TX3, 19, okX3, by decide, Or.inr ⟨_, flwX11_299⟩⟩
theorem fpX11_299 {b : Bool} : FP RX11 b 299 3 17 := ⟨RX3, TX3, 19, okX3, by decide, Or.inl ⟨Or.inr ⟨_, flwX11_299⟩, rfl⟩⟩
theorem flwX3_87 : Cond.fieldLink RX3 87 RX3 (TX3 18).2.1 (TX3 18).2.2.1 ∈ lw_use := use_t (i := 324) (by decide +kernel) rfl
theorem flX3_87 : FL RX3 87 3 18 := ⟨RX3, TX3, 19, okX3, by decide, Or.inl flwX3_87⟩
theorem fpX3_87 {b : Bool} : FP RX3 b 87 3 18 := ⟨RX3, TX3, 19, okX3, by decide, Or.inl ⟨Or.inl flwX3_87, rfl⟩⟩
theorem flwX11_274 : Cond.fieldLinkNest RX11 274 RX3 (TX3 18).2.1 (TX3 18).2.2.1 "ToldPowers" ∈ lw_use := use_t (i := 325) (by decide +kernel) rfl
theorem flX11_274 : FL RX11 274 3 18 := ⟨RX3, TX3, 19, okX3, by decide, Or.inr ⟨_, flwX11_274⟩⟩
theorem fpX11_274 {b : Bool} : FP RX11 b 274 3 18 := ⟨RX3, TX3, 19, okX3, by decide, Or.inl ⟨Or.inr ⟨_, flwX11_274⟩, rfl⟩⟩
theorem flwX11_12 : Cond.fieldLink RX11 12 RX11 (TX11 0).2.1 (TX11 0).2.2.1 ∈ lw_use := use_t (i := 366) (by decide +kernel) rfl
theorem flX11_12 : FL RX11 12 11 0 := ⟨RX11, TX11, 14, okX11, by decide, Or.inl flwX11_12⟩
theorem fpX11_12 : FP RX11 true 12 11 0 := ⟨RX11, TX11, 14, okX11, by decide, Or.inr ⟨flwX11_12, rfl, rfl, rfl⟩⟩
theorem flwX11_18 : Cond.fieldLink RX11 18 RX11 (TX11 1).2.1 (TX11 1).2.2.1 ∈ lw_use := use_t (i := 367) (by decide +kernel) rfl
theorem flX11_18 : FL RX11 18 11 1 := ⟨RX11, TX11, 14, okX11, by decide, Or.inl flwX11_18⟩
theorem fpX11_18 : FP RX11 true 18 11 1 := ⟨RX11, TX11, 14, okX11, by decide, Or.inr ⟨flwX11_18, rfl, rfl, rfl⟩⟩
theorem flwX11_24 : Cond.fieldLink RX11 24 RX11 (TX11 2).2.1 (TX11 2).2.2.1 ∈ lw_use := use_t (i := 368) (by decide +kernel) rfl
theorem flX11_24 : FL RX11 24 11 2 := ⟨RX11, TX11, 14, okX11, by decide, Or.inl flwX11_24⟩
theorem fpX11_24 : FP RX11 true 24 11 2 := ⟨RX11, TX11, 14, okX11, by decide, Or.inr ⟨flwX11_24, rfl, rfl, rfl⟩⟩
theorem flwX11_30 : Cond.fieldLink RX11 30 RX11 (TX11 3).2.1 (TX11 3).2.2.1 ∈ lw_use := use_t (i := 369) (by decide +kernel) rfl
theorem flX11_30 : FL RX11 30 11 3 := ⟨RX11, TX11, 14, okX11, by decide, Or.inl flwX11_30⟩
theorem fpX11_30 : FP RX11 true 30 11 3 := ⟨RX11, TX11, 14, okX11, by decide, Or.inr ⟨flwX11_30, rfl, rfl, rfl⟩⟩
theorem flwX11_39 : Cond.fieldLink RX11 39 RX11 (TX11 4).2.1 (TX11 4).2.2.1 ∈ lw_use := use_t (i := 370) (by decide +kernel) rfl
theorem flX11_39 : FL RX11 39 11 4 := ⟨RX11, TX11, 14, okX11, by decide, Or.inl flwX11_39⟩
theorem fpX11_39 : FP RX11 true 39 11 4 := ⟨RX11, TX11, 14, okX11, by decide, Or.inr ⟨flwX11_39, rfl, rfl, rfl⟩⟩
theorem flwX11_46 : Cond.fieldLink RX11 46 RX11 (TX11 5).2.1 (TX11 5).2.2.1 ∈ lw_use := use_t (i := 371) (by decide +kernel) rfl
theorem flX11_46 : FL RX11 46 11 5 := ⟨RX11, TX11, 14, okX11, by decide, Or.inl flwX11_46⟩
theorem fpX11_46 : FP RX11 true 46 11 5 := ⟨RX11, TX11, 14, okX11, by decide, Or.inr ⟨flwX11_46, rfl, rfl, rfl⟩⟩
theorem flwX11_53 : Cond.fieldLink RX11 53 RX11 (TX11 6).2.1 (TX11 6).2.2.1 ∈ lw_use := use_t (i := 372) (by decide +kernel) rfl
theorem flX11_53 : FL RX11 53 11 6 := ⟨RX11, TX11, 14, okX11, by decide, Or.inl flwX11_53⟩
theorem fpX11_53 : FP RX11 true 53 11 6 := ⟨RX11, TX11, 14, okX11, by decide, Or.inr ⟨flwX11_53, rfl, rfl, rfl⟩⟩
theorem flwX11_60 : Cond.fieldLink RX11 60 RX11 (TX11 7).2.1 (TX11 7).2.2.1 ∈ lw_use := use_t (i := 373) (by decide +kernel) rfl
theorem flX11_60 : FL RX11 60 11 7 := ⟨RX11, TX11, 14, okX11, by decide, Or.inl flwX11_60⟩
theorem fpX11_60 : FP RX11 true 60 11 7 := ⟨RX11, TX11, 14, okX11, by decide, Or.inr ⟨flwX11_60, rfl, rfl, rfl⟩⟩
theorem flwX11_67 : Cond.fieldLink RX11 67 RX11 (TX11 8).2.1 (TX11 8).2.2.1 ∈ lw_use := use_t (i := 374) (by decide +kernel) rfl
theorem flX11_67 : FL RX11 67 11 8 := ⟨RX11, TX11, 14, okX11, by decide, Or.inl flwX11_67⟩
theorem fpX11_67 : FP RX11 true 67 11 8 := ⟨RX11, TX11, 14, okX11, by decide, Or.inr ⟨flwX11_67, rfl, rfl, rfl⟩⟩
theorem flwX11_74 : Cond.fieldLink RX11 74 RX11 (TX11 9).2.1 (TX11 9).2.2.1 ∈ lw_use := use_t (i := 375) (by decide +kernel) rfl
theorem flX11_74 : FL RX11 74 11 9 := ⟨RX11, TX11, 14, okX11, by decide, Or.inl flwX11_74⟩
theorem fpX11_74 : FP RX11 true 74 11 9 := ⟨RX11, TX11, 14, okX11, by decide, Or.inr ⟨flwX11_74, rfl, rfl, rfl⟩⟩
theorem flwX11_81 : Cond.fieldLink RX11 81 RX11 (TX11 10).2.1 (TX11 10).2.2.1 ∈ lw_use := use_t (i := 376) (by decide +kernel) rfl
theorem flX11_81 : FL RX11 81 11 10 := ⟨RX11, TX11, 14, okX11, by decide, Or.inl flwX11_81⟩
theorem fpX11_81 : FP RX11 true 81 11 10 := ⟨RX11, TX11, 14, okX11, by decide, Or.inr ⟨flwX11_81, rfl, rfl, rfl⟩⟩
theorem flwX11_85 : Cond.fieldLink RX11 85 RX11 (TX11 11).2.1 (TX11 11).2.2.1 ∈ lw_use := use_t (i := 377) (by decide +kernel) rfl
theorem flX11_85 : FL RX11 85 11 11 := ⟨RX11, TX11, 14, okX11, by decide, Or.inl flwX11_85⟩
theorem fpX11_85 : FP RX11 true 85 11 11 := ⟨RX11, TX11, 14, okX11, by decide, Or.inr ⟨flwX11_85, rfl, rfl, rfl⟩⟩
theorem flwX11_92 : Cond.fieldLink RX11 92 RX11 (TX11 12).2.1 (TX11 12).2.2.1 ∈ lw_use := use_t (i := 378) (by decide +kernel) rfl
theorem flX11_92 : FL RX11 92 11 12 := ⟨RX11, TX11, 14, okX11, by decide, Or.inl flwX11_92⟩
theorem fpX11_92 {b : Bool} : FP RX11 b 92 11 12 := ⟨RX11, TX11, 14, okX11, by decide, Or.inl ⟨Or.inl flwX11_92, rfl⟩⟩
theorem flwX11_96 : Cond.fieldLink RX11 96 RX11 (TX11 13).2.1 (TX11 13).2.2.1 ∈ lw_use := use_t (i := 379) (by decide +kernel) rfl
theorem flX11_96 : FL RX11 96 11 13 := ⟨RX11, TX11, 14, okX11, by decide, Or.inl flwX11_96⟩
theorem fpX11_96 {b : Bool} : FP RX11 b 96 11 13 := ⟨RX11, TX11, 14, okX11, by decide, Or.inl ⟨Or.inl flwX11_96, rfl⟩⟩
theorem flwX12_9 : Cond.fieldLink RX12 9 RX12 (TX12 0).2.1 (TX12 0).2.2.1 ∈ lw_use := use_t (i := 1147) (by decide +kernel) rfl
theorem flX12_9 : FL RX12 9 12 0 := ⟨RX12, TX12, 50, okX12, by decide, Or.inl flwX12_9⟩
theorem fpX12_9 : FP RX12 true 9 12 0 := ⟨RX12, TX12, 50, okX12, by decide, Or.inr ⟨flwX12_9, rfl, rfl, rfl⟩⟩
theorem flwX12_15 : Cond.fieldLink RX12 15 RX12 (TX12 1).2.1 (TX12 1).2.2.1 ∈ lw_use := use_t (i := 1148) (by decide +kernel) rfl
theorem flX12_15 : FL RX12 15 12 1 := ⟨RX12, TX12, 50, okX12, by decide, Or.inl flwX12_15⟩
theorem fpX12_15 : FP RX12 true 15 12 1 := ⟨RX12, TX12, 50, okX12, by decide, Or.inr ⟨flwX12_15, rfl, rfl, rfl⟩⟩
theorem flwX12_18 : Cond.fieldLink RX12 18 RX12 (TX12 2).2.1 (TX12 2).2.2.1 ∈ lw_use := use_t (i := 1149) (by decide +kernel) rfl
theorem flX12_18 : FL RX12 18 12 2 := ⟨RX12, TX12, 50, okX12, by decide, Or.inl flwX12_18⟩
theorem fpX12_18 : FP RX12 true 18 12 2 := ⟨RX12, TX12, 50, okX12, by decide, Or.inr ⟨flwX12_18, rfl, rfl, rfl⟩⟩
theorem flwX12_115 : Cond.fieldLink RX12 115 RX12 (TX12 3).2.1 (TX12 3).2.2.1 ∈ lw_use := use_t (i := 1150) (by decide +kernel) rfl
theorem flX12_115 : FL RX12 115 12 3 := ⟨RX12, TX12, 50, okX12, by decide, Or.inl flwX12_115⟩
theorem fpX12_115 {b : Bool} : FP RX12 b 115 12 3 := ⟨RX12, TX12, 50, okX12, by decide, Or.inl ⟨Or.inl flwX12_115, rfl⟩⟩
theorem flwX12_193 : Cond.fieldLink RX12 193 RX12 (TX12 4).2.1 (TX12 4).2.2.1 ∈ lw_use := use_t (i := 1151) (by decide +kernel) rfl
theorem flX12_193 : FL RX12 193 12 4 := ⟨RX12, TX12, 50, okX12, by decide, Or.inl flwX12_193⟩
theorem fpX12_193 {b : Bool} : FP RX12 b 193 12 4 := ⟨RX12, TX12, 50, okX12, by decide, Or.inl ⟨Or.inl flwX12_193, rfl⟩⟩
theorem flwX12_21 : Cond.fieldLink RX12 21 RX12 (TX12 5).2.1 (TX12 5).2.2.1 ∈ lw_use := use_t (i := 1152) (by decide +kernel) rfl
theorem flX12_21 : FL RX12 21 12 5 := ⟨RX12, TX12, 50, okX12, by decide, Or.inl flwX12_21⟩
theorem fpX12_21 {b : Bool} : FP RX12 b 21 12 5 := ⟨RX12, TX12, 50, okX12, by decide, Or.inl ⟨Or.inl flwX12_21, rfl⟩⟩
theorem flwX12_25 : Cond.fieldLink RX12 25 RX12 (TX12 6).2.1 (TX12 6).2.2.1 ∈ lw_use := use_t (i := 1153) (by decide +kernel) rfl
theorem flX12_25 : FL RX12 25 12 6 := ⟨RX12, TX12, 50, okX12, by decide, Or.inl flwX12_25⟩
theorem fpX12_25 {b : Bool} : FP RX12 b 25 12 6 := ⟨RX12, TX12, 50, okX12, by decide, Or.inl ⟨Or.inl flwX12_25, rfl⟩⟩
theorem flwX12_28 : Cond.fieldLink RX12 28 RX12 (TX12 7).2.1 (TX12 7).2.2.1 ∈ lw_use := use_t (i := 1154) (by decide +kernel) rfl
theorem flX12_28 : FL RX12 28 12 7 := ⟨RX12, TX12, 50, okX12, by decide, Or.inl flwX12_28⟩
theorem fpX12_28 {b : Bool} : FP RX12 b 28 12 7 := ⟨RX12, TX12, 50, okX12, by decide, Or.inl ⟨Or.inl flwX12_28, rfl⟩⟩
theorem flwX12_153 : Cond.fieldLink RX12 153 RX12 (TX12 8).2.1 (TX12 8).2.2.1 ∈ lw_use := use_t (i := 1155) (by decide +kernel) rfl
theorem flX12_153 : FL RX12 153 12 8 := ⟨RX12, TX12, 50, okX12, by decide, Or.inl flwX12_153⟩
theorem fpX12_153 {b : Bool} : FP RX12 b 153 12 8 := ⟨RX12, TX12, 50, okX12, by decide, Or.inl ⟨Or.inl flwX12_153, rfl⟩⟩
theorem flwX12_156 : Cond.fieldLink RX12 156 RX12 (TX12 9).2.1 (TX12 9).2.2.1 ∈ lw_use := use_t (i := 1156) (by decide +kernel) rfl
theorem flX12_156 : FL RX12 156 12 9 := ⟨RX12, TX12, 50, okX12, by decide, Or.inl flwX12_156⟩
theorem fpX12_156 {b : Bool} : FP RX12 b 156 12 9 := ⟨RX12, TX12, 50, okX12, by decide, Or.inl ⟨Or.inl flwX12_156, rfl⟩⟩
theorem flwX12_162 : Cond.fieldLink RX12 162 RX12 (TX12 10).2.1 (TX12 10).2.2.1 ∈ lw_use := use_t (i := 1157) (by decide +kernel) rfl
theorem flX12_162 : FL RX12 162 12 10 := ⟨RX12, TX12, 50, okX12, by decide, Or.inl flwX12_162⟩
theorem fpX12_162 {b : Bool} : FP RX12 b 162 12 10 := ⟨RX12, TX12, 50, okX12, by decide, Or.inl ⟨Or.inl flwX12_162, rfl⟩⟩
theorem flwX12_168 : Cond.fieldLink RX12 168 RX12 (TX12 11).2.1 (TX12 11).2.2.1 ∈ lw_use := use_t (i := 1158) (by decide +kernel) rfl
theorem flX12_168 : FL RX12 168 12 11 := ⟨RX12, TX12, 50, okX12, by decide, Or.inl flwX12_168⟩
theorem fpX12_168 {b : Bool} : FP RX12 b 168 12 11 := ⟨RX12, TX12, 50, okX12, by decide, Or.inl ⟨Or.inl flwX12_168, rfl⟩⟩
theorem flwX12_142 : Cond.fieldLink RX12 142 RX12 (TX12 12).2.1 (TX12 12).2.2.1 ∈ lw_use := use_t (i := 1159) (by decide +kernel) rfl
theorem flX12_142 : FL RX12 142 12 12 := ⟨RX12, TX12, 50, okX12, by decide, Or.inl flwX12_142⟩
theorem fpX12_142 {b : Bool} : FP RX12 b 142 12 12 := ⟨RX12, TX12, 50, okX12, by decide, Or.inl ⟨Or.inl flwX12_142, rfl⟩⟩
theorem flwX12_129 : Cond.fieldLink RX12 129 RX12 (TX12 13).2.1 (TX12 13).2.2.1 ∈ lw_use := use_t (i := 1160) (by decide +kernel) rfl
theorem flX12_129 : FL RX12 129 12 13 := ⟨RX12, TX12, 50, okX12, by decide, Or.inl flwX12_129⟩
theorem fpX12_129 {b : Bool} : FP RX12 b 129 12 13 := ⟨RX12, TX12, 50, okX12, by decide, Or.inl ⟨Or.inl flwX12_129, rfl⟩⟩
theorem flwX12_122 : Cond.fieldLink RX12 122 RX12 (TX12 14).2.1 (TX12 14).2.2.1 ∈ lw_use := use_t (i := 1161) (by decide +kernel) rfl
theorem flX12_122 : FL RX12 122 12 14 := ⟨RX12, TX12, 50, okX12, by decide, Or.inl flwX12_122⟩
theorem fpX12_122 {b : Bool} : FP RX12 b 122 12 14 := ⟨RX12, TX12, 50, okX12, by decide, Or.inl ⟨Or.inl flwX12_122, rfl⟩⟩
theorem flwX12_132 : Cond.fieldLink RX12 132 RX12 (TX12 15).2.1 (TX12 15).2.2.1 ∈ lw_use := use_t (i := 1162) (by decide +kernel) rfl
theorem flX12_132 : FL RX12 132 12 15 := ⟨RX12, TX12, 50, okX12, by decide, Or.inl flwX12_132⟩
theorem fpX12_132 {b : Bool} : FP RX12 b 132 12 15 := ⟨RX12, TX12, 50, okX12, by decide, Or.inl ⟨Or.inl flwX12_132, rfl⟩⟩
theorem flwX12_136 : Cond.fieldLink RX12 136 RX12 (TX12 16).2.1 (TX12 16).2.2.1 ∈ lw_use := use_t (i := 1163) (by decide +kernel) rfl
theorem flX12_136 : FL RX12 136 12 16 := ⟨RX12, TX12, 50, okX12, by decide, Or.inl flwX12_136⟩
theorem fpX12_136 {b : Bool} : FP RX12 b 136 12 16 := ⟨RX12, TX12, 50, okX12, by decide, Or.inl ⟨Or.inl flwX12_136, rfl⟩⟩
theorem flwX12_139 : Cond.fieldLink RX12 139 RX12 (TX12 17).2.1 (TX12 17).2.2.1 ∈ lw_use := use_t (i := 1164) (by decide +kernel) rfl
theorem flX12_139 : FL RX12 139 12 17 := ⟨RX12, TX12, 50, okX12, by decide, Or.inl flwX12_139⟩
theorem fpX12_139 {b : Bool} : FP RX12 b 139 12 17 := ⟨RX12, TX12, 50, okX12, by decide, Or.inl ⟨Or.inl flwX12_139, rfl⟩⟩
theorem flwX12_159 : Cond.fieldLink RX12 159 RX12 (TX12 18).2.1 (TX12 18).2.2.1 ∈ lw_use := use_t (i := 1165) (by decide +kernel) rfl
theorem flX12_159 : FL RX12 159 12 18 := ⟨RX12, TX12, 50, okX12, by decide, Or.inl flwX12_159⟩
theorem fpX12_159 {b : Bool} : FP RX12 b 159 12 18 := ⟨RX12, TX12, 50, okX12, by decide, Or.inl ⟨Or.inl flwX12_159, rfl⟩⟩
theorem flwX12_165 : Cond.fieldLink RX12 165 RX12 (TX12 19).2.1 (TX12 19).2.2.1 ∈ lw_use := use_t (i := 1166) (by decide +kernel) rfl
theorem flX12_165 : FL RX12 165 12 19 := ⟨RX12, TX12, 50, okX12, by decide, Or.inl flwX12_165⟩
theorem fpX12_165 {b : Bool} : FP RX12 b 165 12 19 := ⟨RX12, TX12, 50, okX12, by decide, Or.inl ⟨Or.inl flwX12_165, rfl⟩⟩
theorem flwX12_210 : Cond.fieldLink RX12 210 RX12 (TX12 20).2.1 (TX12 20).2.2.1 ∈ lw_use := use_t (i := 1167) (by decide +kernel) rfl
theorem flX12_210 : FL RX12 210 12 20 := ⟨RX12, TX12, 50, okX12, by decide, Or.inl flwX12_210⟩
theorem fpX12_210 {b : Bool} : FP RX12 b 210 12 20 := ⟨RX12, TX12, 50, okX12, by decide, Or.inl ⟨Or.inl flwX12_210, rfl⟩⟩
theorem flwX12_31 : Cond.fieldLink RX12 31 RX12 (TX12 21).2.1 (TX12 21).2.2.1 ∈ lw_use := use_t (i := 1168) (by decide +kernel) rfl
theorem flX12_31 : FL RX12 31 12 21 := ⟨RX12, TX12, 50, okX12, by decide, Or.inl flwX12_31⟩
theorem fpX12_31 {b : Bool} : FP RX12 b 31 12 21 := ⟨RX12, TX12, 50, okX12, by decide, Or.inl ⟨Or.inl flwX12_31, rfl⟩⟩
theorem flwX12_35 : Cond.fieldLink RX12 35 RX12 (TX12 22).2.1 (TX12 22).2.2.1 ∈ lw_use := use_t (i := 1169) (by decide +kernel) rfl
theorem flX12_35 : FL RX12 35 12 22 := ⟨RX12, TX12, 50, okX12, by decide, Or.inl flwX12_35⟩
theorem fpX12_35 : FP RX12 true 35 12 22 := ⟨RX12, TX12, 50, okX12, by decide, Or.inr ⟨flwX12_35, rfl, rfl, rfl⟩⟩
theorem flwX12_39 : Cond.fieldLink RX12 39 RX12 (TX12 23).2.1 (TX12 23).2.2.1 ∈ lw_use := use_t (i := 1170) (by decide +kernel) rfl
theorem flX12_39 : FL RX12 39 12 23 := ⟨RX12, TX12, 50, okX12, by decide, Or.inl flwX12_39⟩
theorem fpX12_39 {b : Bool} : FP RX12 b 39 12 23 := ⟨RX12, TX12, 50, okX12, by decide, Or.inl ⟨Or.inl flwX12_39, rfl⟩⟩
theorem flwX12_42 : Cond.fieldLink RX12 42 RX12 (TX12 24).2.1 (TX12 24).2.2.1 ∈ lw_use := use_t (i := 1171) (by decide +kernel) rfl
theorem flX12_42 : FL RX12 42 12 24 := ⟨RX12, TX12, 50, okX12, by decide, Or.inl flwX12_42⟩
theorem fpX12_42 : FP RX12 true 42 12 24 := ⟨RX12, TX12, 50, okX12, by decide, Or.inr ⟨flwX12_42, rfl, rfl, rfl⟩⟩
theorem flwX12_45 : Cond.fieldLink RX12 45 RX12 (TX12 25).2.1 (TX12 25).2.2.1 ∈ lw_use := use_t (i := 1172) (by decide +kernel) rfl
theorem flX12_45 : FL RX12 45 12 25 := ⟨RX12, TX12, 50, okX12, by decide, Or.inl flwX12_45⟩
theorem fpX12_45 : FP RX12 true 45 12 25 := ⟨RX12, TX12, 50, okX12, by decide, Or.inr ⟨flwX12_45, rfl, rfl, rfl⟩⟩
theorem flwX12_48 : Cond.fieldLink RX12 48 RX12 (TX12 26).2.1 (TX12 26).2.2.1 ∈ lw_use := use_t (i := 1173) (by decide +kernel) rfl
theorem flX12_48 : FL RX12 48 12 26 := ⟨RX12, TX12, 50, okX12, by decide, Or.inl flwX12_48⟩
theorem fpX12_48 : FP RX12 true 48 12 26 := ⟨RX12, TX12, 50, okX12, by decide, Or.inr ⟨flwX12_48, rfl, rfl, rfl⟩⟩
theorem flwX12_51 : Cond.fieldLink RX12 51 RX12 (TX12 27).2.1 (TX12 27).2.2.1 ∈ lw_use := use_t (i := 1174) (by decide +kernel) rfl
theorem flX12_51 : FL RX12 51 12 27 := ⟨RX12, TX12, 50, okX12, by decide, Or.inl flwX12_51⟩
theorem fpX12_51 : FP RX12 true 51 12 27 := ⟨RX12, TX12, 50, okX12, by decide, Or.inr ⟨flwX12_51, rfl, rfl, rfl⟩⟩
theorem flwX12_54 : Cond.fieldLink RX12 54 RX12 (TX12 28).2.1 (TX12 28).2.2.1 ∈ lw_use := use_t (i := 1175) (by decide +kernel) rfl
theorem flX12_54 : FL RX12 54 12 28 := ⟨RX12, TX12, 50, okX12, by decide, Or.inl flwX12_54⟩
theorem fpX12_54 : FP RX12 true 54 12 28 := ⟨RX12, TX12, 50, okX12, by decide, Or.inr ⟨flwX12_54, rfl, rfl, rfl⟩⟩
theorem flwX12_289 : Cond.fieldLink RX12 289 RX12 (TX12 29).2.1 (TX12 29).2.2.1 ∈ lw_use := use_t (i := 1176) (by decide +kernel) rfl
theorem flX12_289 : FL RX12 289 12 29 := ⟨RX12, TX12, 50, okX12, by decide, Or.inl flwX12_289⟩
theorem fpX12_289 {b : Bool} : FP RX12 b 289 12 29 := ⟨RX12, TX12, 50, okX12, by decide, Or.inl ⟨Or.inl flwX12_289, rfl⟩⟩
theorem flwX12_57 : Cond.fieldLink RX12 57 RX12 (TX12 30).2.1 (TX12 30).2.2.1 ∈ lw_use := use_t (i := 1177) (by decide +kernel) rfl
theorem flX12_57 : FL RX12 57 12 30 := ⟨RX12, TX12, 50, okX12, by decide, Or.inl flwX12_57⟩
theorem fpX12_57 : FP RX12 true 57 12 30 := ⟨RX12, TX12, 50, okX12, by decide, Or.inr ⟨flwX12_57, rfl, rfl, rfl⟩⟩
theorem flwX12_60 : Cond.fieldLink RX12 60 RX12 (TX12 31).2.1 (TX12 31).2.2.1 ∈ lw_use := use_t (i := 1178) (by decide +kernel) rfl
theorem flX12_60 : FL RX12 60 12 31 := ⟨RX12, TX12, 50, okX12, by decide, Or.inl flwX12_60⟩
theorem fpX12_60 : FP RX12 true 60 12 31 := ⟨RX12, TX12, 50, okX12, by decide, Or.inr ⟨flwX12_60, rfl, rfl, rfl⟩⟩
theorem flwX12_324 : Cond.fieldLink RX12 324 RX12 (TX12 32).2.1 (TX12 32).2.2.1 ∈ lw_use := use_t (i := 1179) (by decide +kernel) rfl
theorem flX12_324 : FL RX12 324 12 32 := ⟨RX12, TX12, 50, okX12, by decide, Or.inl flwX12_324⟩
theorem fpX12_324 {b : Bool} : FP RX12 b 324 12 32 := ⟨RX12, TX12, 50, okX12, by decide, Or.inl ⟨Or.inl flwX12_324, rfl⟩⟩
theorem flwX12_63 : Cond.fieldLink RX12 63 RX12 (TX12 33).2.1 (TX12 33).2.2.1 ∈ lw_use := use_t (i := 1180) (by decide +kernel) rfl
theorem flX12_63 : FL RX12 63 12 33 := ⟨RX12, TX12, 50, okX12, by decide, Or.inl flwX12_63⟩
theorem fpX12_63 : FP RX12 true 63 12 33 := ⟨RX12, TX12, 50, okX12, by decide, Or.inr ⟨flwX12_63, rfl, rfl, rfl⟩⟩
theorem flwX12_66 : Cond.fieldLink RX12 66 RX12 (TX12 34).2.1 (TX12 34).2.2.1 ∈ lw_use := use_t (i := 1181) (by decide +kernel) rfl
theorem flX12_66 : FL RX12 66 12 34 := ⟨RX12, TX12, 50, okX12, by decide, Or.inl flwX12_66⟩
theorem fpX12_66 : FP RX12 true 66 12 34 := ⟨RX12, TX12, 50, okX12, by decide, Or.inr ⟨flwX12_66, rfl, rfl, rfl⟩⟩
theorem flwX12_69 : Cond.fieldLink RX12 69 RX12 (TX12 35).2.1 (TX12 35).2.2.1 ∈ lw_use := use_t (i := 1182) (by decide +kernel) rfl
theorem flX12_69 : FL RX12 69 12 35 := ⟨RX12, TX12, 50, okX12, by decide, Or.inl flwX12_69⟩
theorem fpX12_69 : FP RX12 true 69 12 35 := ⟨RX12, TX12, 50, okX12, by decide, Or.inr ⟨flwX12_69, rfl, rfl, rfl⟩⟩
theorem flwX12_338 : Cond.fieldLink RX12 338 RX12 (TX12 36).2.1 (TX12 36).2.2.1 ∈ lw_use := use_t (i := 1183) (by decide +kernel) rfl
theorem flX12_338 : FL RX12 338 12 36 := ⟨RX12, TX12, 50, okX12, by decide, Or.inl flwX12_338⟩
theorem fpX12_338 {b : Bool} : FP RX12 b 338 12 36 := ⟨RX12, TX12, 50, okX12, by decide, Or.inl ⟨Or.inl flwX12_338, rfl⟩⟩
theorem flwX12_370 : Cond.fieldLink RX12 370 RX12 (TX12 37).2.1 (TX12 37).2.2.1 ∈ lw_use := use_t (i := 1184) (by decide +kernel) rfl
theorem flX12_370 : FL RX12 370 12 37 := ⟨RX12, TX12, 50, okX12, by decide, Or.inl flwX12_370⟩
theorem fpX12_370 {b : Bool} : FP RX12 b 370 12 37 := ⟨RX12, TX12, 50, okX12, by decide, Or.inl ⟨Or.inl flwX12_370, rfl⟩⟩
theorem flwX12_355 : Cond.fieldLink RX12 355 RX12 (TX12 38).2.1 (TX12 38).2.2.1 ∈ lw_use := use_t (i := 1185) (by decide +kernel) rfl
theorem flX12_355 : FL RX12 355 12 38 := ⟨RX12, TX12, 50, okX12, by decide, Or.inl flwX12_355⟩
theorem fpX12_355 {b : Bool} : FP RX12 b 355 12 38 := ⟨RX12, TX12, 50, okX12, by decide, Or.inl ⟨Or.inl flwX12_355, rfl⟩⟩
theorem flwX12_373 : Cond.fieldLink RX12 373 RX12 (TX12 39).2.1 (TX12 39).2.2.1 ∈ lw_use := use_t (i := 1186) (by decide +kernel) rfl
theorem flX12_373 : FL RX12 373 12 39 := ⟨RX12, TX12, 50, okX12, by decide, Or.inl flwX12_373⟩
theorem fpX12_373 {b : Bool} : FP RX12 b 373 12 39 := ⟨RX12, TX12, 50, okX12, by decide, Or.inl ⟨Or.inl flwX12_373, rfl⟩⟩
theorem flwX12_361 : Cond.fieldLink RX12 361 RX12 (TX12 40).2.1 (TX12 40).2.2.1 ∈ lw_use := use_t (i := 1187) (by decide +kernel) rfl
theorem flX12_361 : FL RX12 361 12 40 := ⟨RX12, TX12, 50, okX12, by decide, Or.inl flwX12_361⟩
theorem fpX12_361 {b : Bool} : FP RX12 b 361 12 40 := ⟨RX12, TX12, 50, okX12, by decide, Or.inl ⟨Or.inl flwX12_361, rfl⟩⟩
theorem flwX12_367 : Cond.fieldLink RX12 367 RX12 (TX12 41).2.1 (TX12 41).2.2.1 ∈ lw_use := use_t (i := 1188) (by decide +kernel) rfl
theorem flX12_367 : FL RX12 367 12 41 := ⟨RX12, TX12, 50, okX12, by decide, Or.inl flwX12_367⟩
theorem fpX12_367 {b : Bool} : FP RX12 b 367 12 41 := ⟨RX12, TX12, 50, okX12, by decide, Or.inl ⟨Or.inl flwX12_367, rfl⟩⟩
theorem flwX12_72 : Cond.fieldLink RX12 72 RX12 (TX12 42).2.1 (TX12 42).2.2.1 ∈ lw_use := use_t (i := 1189) (by decide +kernel) rfl
theorem flX12_72 : FL RX12 72 12 42 := ⟨RX12, TX12, 50, okX12, by decide, Or.inl flwX12_72⟩
theorem fpX12_72 : FP RX12 true 72 12 42 := ⟨RX12, TX12, 50, okX12, by decide, Or.inr ⟨flwX12_72, rfl, rfl, rfl⟩⟩
theorem flwX12_75 : Cond.fieldLink RX12 75 RX12 (TX12 43).2.1 (TX12 43).2.2.1 ∈ lw_use := use_t (i := 1190) (by decide +kernel) rfl
theorem flX12_75 : FL RX12 75 12 43 := ⟨RX12, TX12, 50, okX12, by decide, Or.inl flwX12_75⟩
theorem fpX12_75 : FP RX12 true 75 12 43 := ⟨RX12, TX12, 50, okX12, by decide, Or.inr ⟨flwX12_75, rfl, rfl, rfl⟩⟩
theorem flwX12_381 : Cond.fieldLink RX12 381 RX12 (TX12 44).2.1 (TX12 44).2.2.1 ∈ lw_use := use_t (i := 1191) (by decide +kernel) rfl
theorem flX12_381 : FL RX12 381 12 44 := ⟨RX12, TX12, 50, okX12, by decide, Or.inl flwX12_381⟩
theorem fpX12_381 {b : Bool} : FP RX12 b 381 12 44 := ⟨RX12, TX12, 50, okX12, by decide, Or.inl ⟨Or.inl flwX12_381, rfl⟩⟩
theorem flwX12_78 : Cond.fieldLink RX12 78 RX12 (TX12 45).2.1 (TX12 45).2.2.1 ∈ lw_use := use_t (i := 1192) (by decide +kernel) rfl
theorem flX12_78 : FL RX12 78 12 45 := ⟨RX12, TX12, 50, okX12, by decide, Or.inl flwX12_78⟩
theorem fpX12_78 : FP RX12 true 78 12 45 := ⟨RX12, TX12, 50, okX12, by decide, Or.inr ⟨flwX12_78, rfl, rfl, rfl⟩⟩
theorem flwX12_81 : Cond.fieldLink RX12 81 RX12 (TX12 46).2.1 (TX12 46).2.2.1 ∈ lw_use := use_t (i := 1193) (by decide +kernel) rfl
theorem flX12_81 : FL RX12 81 12 46 := ⟨RX12, TX12, 50, okX12, by decide, Or.inl flwX12_81⟩
theorem fpX12_81 : FP RX12 true 81 12 46 := ⟨RX12, TX12, 50, okX12, by decide, Or.inr ⟨flwX12_81, rfl, rfl, rfl⟩⟩
theorem flwX12_84 : Cond.fieldLink RX12 84 RX12 (TX12 47).2.1 (TX12 47).2.2.1 ∈ lw_use := use_t (i := 1194) (by decide +kernel) rfl
theorem flX12_84 : FL RX12 84 12 47 := ⟨RX12, TX12, 50, okX12, by decide, Or.inl flwX12_84⟩
theorem fpX12_84 : FP RX12 true 84 12 47 := ⟨RX12, TX12, 50, okX12, by decide, Or.inr ⟨flwX12_84, rfl, rfl, rfl⟩⟩
theorem flwX12_88 : Cond.fieldLink RX12 88 RX12 (TX12 48).2.1 (TX12 48).2.2.1 ∈ lw_use := use_t (i := 1195) (by decide +kernel) rfl
theorem flX12_88 : FL RX12 88 12 48 := ⟨RX12, TX12, 50, okX12, by decide, Or.inl flwX12_88⟩
theorem fpX12_88 : FP RX12 true 88 12 48 := ⟨RX12, TX12, 50, okX12, by decide, Or.inr ⟨flwX12_88, rfl, rfl, rfl⟩⟩
theorem flwX12_442 : Cond.fieldLink RX12 442 RX12 (TX12 49).2.1 (TX12 49).2.2.1 ∈ lw_use := use_t (i := 1196) (by decide +kernel) rfl
theorem flX12_442 : FL RX12 442 12 49 := ⟨RX12, TX12, 50, okX12, by decide, Or.inl flwX12_442⟩
theorem fpX12_442 {b : Bool} : FP RX12 b 442 12 49 := ⟨RX12, TX12, 50, okX12, by decide, Or.inl ⟨Or.inl flwX12_442, rfl⟩⟩
def mX0_init : MD := (yX0_init, cX0_init, 1, (none : Option FieldType))
theorem mkX0_init : MK mX0_init 0 := ⟨use_t (i := 245) (by decide +kernel) rfl, use_t (i := 9) (by decide +kernel) rfl, by decide +kernel, by decide⟩
theorem mnX0_init : MN mX0_init 0 := ⟨mkX0_init, use_t (i := 244) (by decide +kernel) rfl, rfl, rfl⟩
def mX0_fill : MD := (yX0_fill, cX0_fill, 5, (none : Option FieldType))
theorem mkX0_fill : MK mX0_fill 2 := ⟨use_t (i := 889) (by decide +kernel) rfl, use_t (i := 9) (by decide +kernel) rfl, by decide +kernel, by decide⟩
theorem mvX0_fill : MV mX0_fill 2 := ⟨mkX0_fill, use_t (i := 887) (by decide +kernel) rfl, use_t (i := 888) (by decide +kernel) rfl⟩
def mX0_rowsFrom : MD := (yX0_rowsFrom, cX0_rowsFrom, 4, (Option.some FieldType.long))
theorem mkX0_rowsFrom : MK mX0_rowsFrom 2 := ⟨use_t (i := 918) (by decide +kernel) rfl, use_t (i := 9) (by decide +kernel) rfl, by decide +kernel, by decide⟩
theorem mvX0_rowsFrom : MV mX0_rowsFrom 2 := ⟨mkX0_rowsFrom, use_t (i := 916) (by decide +kernel) rfl, use_t (i := 917) (by decide +kernel) rfl⟩
def mX0_firstRow : MD := (yX0_firstRow, cX0_firstRow, 7, (Option.some FieldType.int))
theorem mkX0_firstRow : MK mX0_firstRow 3 := ⟨use_t (i := 957) (by decide +kernel) rfl, use_t (i := 9) (by decide +kernel) rfl, by decide +kernel, by decide⟩
theorem mvX0_firstRow : MV mX0_firstRow 3 := ⟨mkX0_firstRow, use_t (i := 955) (by decide +kernel) rfl, use_t (i := 956) (by decide +kernel) rfl⟩
def mX0_firstX : MD := (yX0_firstX, cX0_firstX, 5, (Option.some FieldType.int))
theorem mkX0_firstX : MK mX0_firstX 3 := ⟨use_t (i := 961) (by decide +kernel) rfl, use_t (i := 9) (by decide +kernel) rfl, by decide +kernel, by decide⟩
theorem mvX0_firstX : MV mX0_firstX 3 := ⟨mkX0_firstX, use_t (i := 960) (by decide +kernel) rfl, use_p (i := 39) (by decide +kernel) rfl⟩
def mX0_takeHits : MD := (yX0_takeHits, cX0_takeHits, 4, (none : Option FieldType))
theorem mkX0_takeHits : MK mX0_takeHits 2 := ⟨use_t (i := 895) (by decide +kernel) rfl, use_t (i := 9) (by decide +kernel) rfl, by decide +kernel, by decide⟩
theorem mvX0_takeHits : MV mX0_takeHits 2 := ⟨mkX0_takeHits, use_t (i := 894) (by decide +kernel) rfl, use_p (i := 35) (by decide +kernel) rfl⟩
def mX0_addHits : MD := (yX0_addHits, cX0_addHits, 7, (none : Option FieldType))
theorem mkX0_addHits : MK mX0_addHits 2 := ⟨use_t (i := 911) (by decide +kernel) rfl, use_t (i := 9) (by decide +kernel) rfl, by decide +kernel, by decide⟩
theorem mvX0_addHits : MV mX0_addHits 2 := ⟨mkX0_addHits, use_t (i := 910) (by decide +kernel) rfl, use_p (i := 38) (by decide +kernel) rfl⟩
def mX0_rowLength : MD := (yX0_rowLength, cX0_rowLength, 3, (Option.some FieldType.int))
theorem mkX0_rowLength : MK mX0_rowLength 2 := ⟨use_t (i := 899) (by decide +kernel) rfl, use_t (i := 9) (by decide +kernel) rfl, by decide +kernel, by decide⟩
theorem mvX0_rowLength : MV mX0_rowLength 2 := ⟨mkX0_rowLength, use_t (i := 898) (by decide +kernel) rfl, use_p (i := 36) (by decide +kernel) rfl⟩
def mX0_remainder : MD := (yX0_remainder, cX0_remainder, 4, (Option.some FieldType.int))
theorem mkX0_remainder : MK mX0_remainder 3 := ⟨use_t (i := 903) (by decide +kernel) rfl, use_t (i := 9) (by decide +kernel) rfl, by decide +kernel, by decide⟩
theorem mvX0_remainder : MV mX0_remainder 3 := ⟨mkX0_remainder, use_t (i := 902) (by decide +kernel) rfl, use_p (i := 37) (by decide +kernel) rfl⟩
def mX1_init : MD := (yX1_init, cX1_init, 1, (none : Option FieldType))
theorem mkX1_init : MK mX1_init 0 := ⟨use_t (i := 104) (by decide +kernel) rfl, use_t (i := 3) (by decide +kernel) rfl, by decide +kernel, by decide⟩
theorem mnX1_init : MN mX1_init 0 := ⟨mkX1_init, use_t (i := 103) (by decide +kernel) rfl, rfl, rfl⟩
def mX1_addNew : MD := (yX1_addNew, cX1_addNew, 7, (none : Option FieldType))
theorem mkX1_addNew : MK mX1_addNew 4 := ⟨use_t (i := 580) (by decide +kernel) rfl, use_t (i := 3) (by decide +kernel) rfl, by decide +kernel, by decide⟩
theorem mvX1_addNew : MV mX1_addNew 4 := ⟨mkX1_addNew, use_t (i := 578) (by decide +kernel) rfl, use_t (i := 579) (by decide +kernel) rfl⟩
def mX1_addTermOf : MD := (yX1_addTermOf, cX1_addTermOf, 3, (none : Option FieldType))
theorem mkX1_addTermOf : MK mX1_addTermOf 2 := ⟨use_t (i := 612) (by decide +kernel) rfl, use_t (i := 3) (by decide +kernel) rfl, by decide +kernel, by decide⟩
theorem mvX1_addTermOf : MV mX1_addTermOf 2 := ⟨mkX1_addTermOf, use_t (i := 610) (by decide +kernel) rfl, use_t (i := 611) (by decide +kernel) rfl⟩
def mX1_addAll : MD := (yX1_addAll, cX1_addAll, 3, (none : Option FieldType))
theorem mkX1_addAll : MK mX1_addAll 1 := ⟨use_t (i := 608) (by decide +kernel) rfl, use_t (i := 3) (by decide +kernel) rfl, by decide +kernel, by decide⟩
theorem mvX1_addAll : MV mX1_addAll 1 := ⟨mkX1_addAll, use_t (i := 606) (by decide +kernel) rfl, use_t (i := 607) (by decide +kernel) rfl⟩
def mX1_valueOf : MD := (yX1_valueOf, cX1_valueOf, 3, (Option.some FieldType.int))
theorem mkX1_valueOf : MK mX1_valueOf 2 := ⟨use_t (i := 584) (by decide +kernel) rfl, use_t (i := 3) (by decide +kernel) rfl, by decide +kernel, by decide⟩
theorem mvX1_valueOf : MV mX1_valueOf 2 := ⟨mkX1_valueOf, use_t (i := 582) (by decide +kernel) rfl, use_t (i := 583) (by decide +kernel) rfl⟩
def mX1_spread : MD := (yX1_spread, cX1_spread, 2, (Option.some FieldType.int))
theorem mkX1_spread : MK mX1_spread 1 := ⟨use_t (i := 669) (by decide +kernel) rfl, use_t (i := 3) (by decide +kernel) rfl, by decide +kernel, by decide⟩
theorem mvX1_spread : MV mX1_spread 1 := ⟨mkX1_spread, use_t (i := 667) (by decide +kernel) rfl, use_t (i := 668) (by decide +kernel) rfl⟩
def mX1_areLike : MD := (yX1_areLike, cX1_areLike, 3, (Option.some FieldType.boolean))
theorem mkX1_areLike : MK mX1_areLike 2 := ⟨use_t (i := 841) (by decide +kernel) rfl, use_t (i := 3) (by decide +kernel) rfl, by decide +kernel, by decide⟩
theorem mvX1_areLike : MV mX1_areLike 2 := ⟨mkX1_areLike, use_t (i := 839) (by decide +kernel) rfl, use_t (i := 840) (by decide +kernel) rfl⟩
def mX1_likeFrom : MD := (yX1_likeFrom, cX1_likeFrom, 4, (Option.some FieldType.int))
theorem mkX1_likeFrom : MK mX1_likeFrom 1 := ⟨use_t (i := 837) (by decide +kernel) rfl, use_t (i := 3) (by decide +kernel) rfl, by decide +kernel, by decide⟩
theorem mvX1_likeFrom : MV mX1_likeFrom 1 := ⟨mkX1_likeFrom, use_t (i := 835) (by decide +kernel) rfl, use_t (i := 836) (by decide +kernel) rfl⟩
def mX2_init : MD := (yX2_init, cX2_init, 2, (none : Option FieldType))
theorem mkX2_init : MK mX2_init 1 := ⟨use_t (i := 177) (by decide +kernel) rfl, use_t (i := 5) (by decide +kernel) rfl, by decide +kernel, by decide⟩
theorem mnX2_init : MN mX2_init 1 := ⟨mkX2_init, use_t (i := 176) (by decide +kernel) rfl, rfl, rfl⟩
def mX2_readAll : MD := (yX2_readAll, cX2_readAll, 2, (Option.some FieldType.boolean))
theorem mkX2_readAll : MK mX2_readAll 0 := ⟨use_t (i := 435) (by decide +kernel) rfl, use_t (i := 5) (by decide +kernel) rfl, by decide +kernel, by decide⟩
theorem mvX2_readAll : MV mX2_readAll 0 := ⟨mkX2_readAll, use_t (i := 433) (by decide +kernel) rfl, use_t (i := 434) (by decide +kernel) rfl⟩
def mX2_checkFirstToken : MD := (yX2_checkFirstToken, cX2_checkFirstToken, 2, (Option.some FieldType.boolean))
theorem mkX2_checkFirstToken : MK mX2_checkFirstToken 0 := ⟨use_t (i := 465) (by decide +kernel) rfl, use_t (i := 5) (by decide +kernel) rfl, by decide +kernel, by decide⟩
theorem mvX2_checkFirstToken : MV mX2_checkFirstToken 0 := ⟨mkX2_checkFirstToken, use_t (i := 464) (by decide +kernel) rfl, use_p (i := 4) (by decide +kernel) rfl⟩
def mX2_readTerm : MD := (yX2_readTerm, cX2_readTerm, 3, (Option.some FieldType.boolean))
theorem mkX2_readTerm : MK mX2_readTerm 0 := ⟨use_t (i := 461) (by decide +kernel) rfl, use_t (i := 5) (by decide +kernel) rfl, by decide +kernel, by decide⟩
theorem mvX2_readTerm : MV mX2_readTerm 0 := ⟨mkX2_readTerm, use_t (i := 460) (by decide +kernel) rfl, use_p (i := 3) (by decide +kernel) rfl⟩
def mX2_readRange : MD := (yX2_readRange, cX2_readRange, 4, (Option.some FieldType.boolean))
theorem mkX2_readRange : MK mX2_readRange 2 := ⟨use_t (i := 551) (by decide +kernel) rfl, use_t (i := 5) (by decide +kernel) rfl, by decide +kernel, by decide⟩
theorem mvX2_readRange : MV mX2_readRange 2 := ⟨mkX2_readRange, use_t (i := 550) (by decide +kernel) rfl, use_p (i := 5) (by decide +kernel) rfl⟩
def mX2_readBound : MD := (yX2_readBound, cX2_readBound, 5, (Option.some FieldType.boolean))
theorem mkX2_readBound : MK mX2_readBound 3 := ⟨use_t (i := 555) (by decide +kernel) rfl, use_t (i := 5) (by decide +kernel) rfl, by decide +kernel, by decide⟩
theorem mvX2_readBound : MV mX2_readBound 3 := ⟨mkX2_readBound, use_t (i := 554) (by decide +kernel) rfl, use_p (i := 6) (by decide +kernel) rfl⟩
def mX3_init : MD := (yX3_init, cX3_init, 1, (none : Option FieldType))
theorem mkX3_init : MK mX3_init 0 := ⟨use_t (i := 295) (by decide +kernel) rfl, use_t (i := 12) (by decide +kernel) rfl, by decide +kernel, by decide⟩
theorem mnX3_init : MN mX3_init 0 := ⟨mkX3_init, use_t (i := 294) (by decide +kernel) rfl, rfl, rfl⟩
def mX3_clear : MD := (yX3_clear, cX3_clear, 2, (none : Option FieldType))
theorem mkX3_clear : MK mX3_clear 0 := ⟨use_t (i := 737) (by decide +kernel) rfl, use_t (i := 12) (by decide +kernel) rfl, by decide +kernel, by decide⟩
theorem mvX3_clear : MV mX3_clear 0 := ⟨mkX3_clear, use_t (i := 735) (by decide +kernel) rfl, use_t (i := 736) (by decide +kernel) rfl⟩
def mX3_isThere : MD := (yX3_isThere, cX3_isThere, 1, (Option.some FieldType.boolean))
theorem mkX3_isThere : MK mX3_isThere 0 := ⟨use_t (i := 1034) (by decide +kernel) rfl, use_t (i := 12) (by decide +kernel) rfl, by decide +kernel, by decide⟩
theorem mvX3_isThere : MV mX3_isThere 0 := ⟨mkX3_isThere, use_t (i := 1032) (by decide +kernel) rfl, use_t (i := 1033) (by decide +kernel) rfl⟩
def mX3_addNumber : MD := (yX3_addNumber, cX3_addNumber, 2, (none : Option FieldType))
theorem mkX3_addNumber : MK mX3_addNumber 1 := ⟨use_t (i := 779) (by decide +kernel) rfl, use_t (i := 12) (by decide +kernel) rfl, by decide +kernel, by decide⟩
theorem mvX3_addNumber : MV mX3_addNumber 1 := ⟨mkX3_addNumber, use_t (i := 777) (by decide +kernel) rfl, use_t (i := 778) (by decide +kernel) rfl⟩
def mX3_addLetter : MD := (yX3_addLetter, cX3_addLetter, 2, (none : Option FieldType))
theorem mkX3_addLetter : MK mX3_addLetter 1 := ⟨use_t (i := 770) (by decide +kernel) rfl, use_t (i := 12) (by decide +kernel) rfl, by decide +kernel, by decide⟩
theorem mvX3_addLetter : MV mX3_addLetter 1 := ⟨mkX3_addLetter, use_t (i := 768) (by decide +kernel) rfl, use_t (i := 769) (by decide +kernel) rfl⟩
def mX3_addPower : MD := (yX3_addPower, cX3_addPower, 3, (none : Option FieldType))
theorem mkX3_addPower : MK mX3_addPower 1 := ⟨use_t (i := 783) (by decide +kernel) rfl, use_t (i := 12) (by decide +kernel) rfl, by decide +kernel, by decide⟩
theorem mvX3_addPower : MV mX3_addPower 1 := ⟨mkX3_addPower, use_t (i := 781) (by decide +kernel) rfl, use_t (i := 782) (by decide +kernel) rfl⟩
def mX3_addJoint : MD := (yX3_addJoint, cX3_addJoint, 4, (none : Option FieldType))
theorem mkX3_addJoint : MK mX3_addJoint 1 := ⟨use_t (i := 791) (by decide +kernel) rfl, use_t (i := 12) (by decide +kernel) rfl, by decide +kernel, by decide⟩
theorem mvX3_addJoint : MV mX3_addJoint 1 := ⟨mkX3_addJoint, use_t (i := 789) (by decide +kernel) rfl, use_t (i := 790) (by decide +kernel) rfl⟩
def mX3_addStep : MD := (yX3_addStep, cX3_addStep, 4, (none : Option FieldType))
theorem mkX3_addStep : MK mX3_addStep 3 := ⟨use_t (i := 774) (by decide +kernel) rfl, use_t (i := 12) (by decide +kernel) rfl, by decide +kernel, by decide⟩
theorem mvX3_addStep : MV mX3_addStep 3 := ⟨mkX3_addStep, use_t (i := 773) (by decide +kernel) rfl, use_p (i := 27) (by decide +kernel) rfl⟩
def mX3_takeOpen : MD := (yX3_takeOpen, cX3_takeOpen, 1, (Option.some FieldType.int))
theorem mkX3_takeOpen : MK mX3_takeOpen 0 := ⟨use_t (i := 787) (by decide +kernel) rfl, use_t (i := 12) (by decide +kernel) rfl, by decide +kernel, by decide⟩
theorem mvX3_takeOpen : MV mX3_takeOpen 0 := ⟨mkX3_takeOpen, use_t (i := 786) (by decide +kernel) rfl, use_p (i := 28) (by decide +kernel) rfl⟩
def mX3_isUsed : MD := (yX3_isUsed, cX3_isUsed, 2, (Option.some FieldType.boolean))
theorem mkX3_isUsed : MK mX3_isUsed 1 := ⟨use_t (i := 1042) (by decide +kernel) rfl, use_t (i := 12) (by decide +kernel) rfl, by decide +kernel, by decide⟩
theorem mvX3_isUsed : MV mX3_isUsed 1 := ⟨mkX3_isUsed, use_t (i := 1041) (by decide +kernel) rfl, use_p (i := 43) (by decide +kernel) rfl⟩
def mX3_letterCount : MD := (yX3_letterCount, cX3_letterCount, 1, (Option.some FieldType.int))
theorem mkX3_letterCount : MK mX3_letterCount 0 := ⟨use_t (i := 796) (by decide +kernel) rfl, use_t (i := 12) (by decide +kernel) rfl, by decide +kernel, by decide⟩
theorem mvX3_letterCount : MV mX3_letterCount 0 := ⟨mkX3_letterCount, use_t (i := 794) (by decide +kernel) rfl, use_t (i := 795) (by decide +kernel) rfl⟩
def mX3_evaluate : MD := (yX3_evaluate, cX3_evaluate, 3, (Option.some FieldType.boolean))
theorem mkX3_evaluate : MK mX3_evaluate 1 := ⟨use_t (i := 1092) (by decide +kernel) rfl, use_t (i := 12) (by decide +kernel) rfl, by decide +kernel, by decide⟩
theorem mvX3_evaluate : MV mX3_evaluate 1 := ⟨mkX3_evaluate, use_t (i := 1090) (by decide +kernel) rfl, use_t (i := 1091) (by decide +kernel) rfl⟩
def mX3_tryBox : MD := (yX3_tryBox, cX3_tryBox, 6, (none : Option FieldType))
theorem mkX3_tryBox : MK mX3_tryBox 1 := ⟨use_t (i := 1038) (by decide +kernel) rfl, use_t (i := 12) (by decide +kernel) rfl, by decide +kernel, by decide⟩
theorem mvX3_tryBox : MV mX3_tryBox 1 := ⟨mkX3_tryBox, use_t (i := 1036) (by decide +kernel) rfl, use_t (i := 1037) (by decide +kernel) rfl⟩
def mX3_noteBroken : MD := (yX3_noteBroken, cX3_noteBroken, 4, (none : Option FieldType))
theorem mkX3_noteBroken : MK mX3_noteBroken 2 := ⟨use_t (i := 1076) (by decide +kernel) rfl, use_t (i := 12) (by decide +kernel) rfl, by decide +kernel, by decide⟩
theorem mvX3_noteBroken : MV mX3_noteBroken 2 := ⟨mkX3_noteBroken, use_t (i := 1075) (by decide +kernel) rfl, use_p (i := 49) (by decide +kernel) rfl⟩
def mX3_judgeRow : MD := (yX3_judgeRow, cX3_judgeRow, 3, (Option.some FieldType.int))
theorem mkX3_judgeRow : MK mX3_judgeRow 0 := ⟨use_t (i := 1072) (by decide +kernel) rfl, use_t (i := 12) (by decide +kernel) rfl, by decide +kernel, by decide⟩
theorem mvX3_judgeRow : MV mX3_judgeRow 0 := ⟨mkX3_judgeRow, use_t (i := 1071) (by decide +kernel) rfl, use_p (i := 48) (by decide +kernel) rfl⟩
def mX3_stepRow : MD := (yX3_stepRow, cX3_stepRow, 4, (Option.some FieldType.int))
theorem mkX3_stepRow : MK mX3_stepRow 1 := ⟨use_t (i := 1080) (by decide +kernel) rfl, use_t (i := 12) (by decide +kernel) rfl, by decide +kernel, by decide⟩
theorem mvX3_stepRow : MV mX3_stepRow 1 := ⟨mkX3_stepRow, use_t (i := 1079) (by decide +kernel) rfl, use_p (i := 50) (by decide +kernel) rfl⟩
def mX3_retake : MD := (yX3_retake, cX3_retake, 3, (none : Option FieldType))
theorem mkX3_retake : MK mX3_retake 1 := ⟨use_t (i := 1046) (by decide +kernel) rfl, use_t (i := 12) (by decide +kernel) rfl, by decide +kernel, by decide⟩
theorem mvX3_retake : MV mX3_retake 1 := ⟨mkX3_retake, use_t (i := 1045) (by decide +kernel) rfl, use_p (i := 44) (by decide +kernel) rfl⟩
def mX3_takeStep : MD := (yX3_takeStep, cX3_takeStep, 4, (none : Option FieldType))
theorem mkX3_takeStep : MK mX3_takeStep 1 := ⟨use_t (i := 1050) (by decide +kernel) rfl, use_t (i := 12) (by decide +kernel) rfl, by decide +kernel, by decide⟩
theorem mvX3_takeStep : MV mX3_takeStep 1 := ⟨mkX3_takeStep, use_t (i := 1049) (by decide +kernel) rfl, use_p (i := 45) (by decide +kernel) rfl⟩
def mX3_combine : MD := (yX3_combine, cX3_combine, 6, (Option.some FieldType.boolean))
theorem mkX3_combine : MK mX3_combine 3 := ⟨use_t (i := 1068) (by decide +kernel) rfl, use_t (i := 12) (by decide +kernel) rfl, by decide +kernel, by decide⟩
theorem mvX3_combine : MV mX3_combine 3 := ⟨mkX3_combine, use_t (i := 1067) (by decide +kernel) rfl, use_p (i := 47) (by decide +kernel) rfl⟩
def mX3_raise : MD := (yX3_raise, cX3_raise, 5, (Option.some FieldType.boolean))
theorem mkX3_raise : MK mX3_raise 2 := ⟨use_t (i := 1054) (by decide +kernel) rfl, use_t (i := 12) (by decide +kernel) rfl, by decide +kernel, by decide⟩
theorem mvX3_raise : MV mX3_raise 2 := ⟨mkX3_raise, use_t (i := 1053) (by decide +kernel) rfl, use_p (i := 46) (by decide +kernel) rfl⟩
def mX3_isSmall : MD := (yX3_isSmall, cX3_isSmall, 2, (Option.some FieldType.boolean))
theorem mkX3_isSmall : MK mX3_isSmall 1 := ⟨use_t (i := 1060) (by decide +kernel) rfl, use_t (i := 12) (by decide +kernel) rfl, by decide +kernel, by decide⟩
theorem msX3_isSmall : MS mX3_isSmall 1 := ⟨mkX3_isSmall, use_t (i := 1059) (by decide +kernel) rfl⟩
def mX3_productFits : MD := (yX3_productFits, cX3_productFits, 4, (Option.some FieldType.boolean))
theorem mkX3_productFits : MK mX3_productFits 2 := ⟨use_t (i := 1057) (by decide +kernel) rfl, use_t (i := 12) (by decide +kernel) rfl, by decide +kernel, by decide⟩
theorem msX3_productFits : MS mX3_productFits 2 := ⟨mkX3_productFits, use_t (i := 1056) (by decide +kernel) rfl⟩
def mX4_init : MD := (yX4_init, cX4_init, 2, (none : Option FieldType))
theorem mkX4_init : MK mX4_init 1 := ⟨use_t (i := 212) (by decide +kernel) rfl, use_t (i := 7) (by decide +kernel) rfl, by decide +kernel, by decide⟩
theorem mnX4_init : MN mX4_init 1 := ⟨mkX4_init, use_t (i := 211) (by decide +kernel) rfl, rfl, rfl⟩
def mX4_readAll : MD := (yX4_readAll, cX4_readAll, 2, (Option.some FieldType.boolean))
theorem mkX4_readAll : MK mX4_readAll 1 := ⟨use_t (i := 733) (by decide +kernel) rfl, use_t (i := 7) (by decide +kernel) rfl, by decide +kernel, by decide⟩
theorem mvX4_readAll : MV mX4_readAll 1 := ⟨mkX4_readAll, use_t (i := 731) (by decide +kernel) rfl, use_t (i := 732) (by decide +kernel) rfl⟩
def mX4_readSum : MD := (yX4_readSum, cX4_readSum, 4, (Option.some FieldType.boolean))
theorem mkX4_readSum : MK mX4_readSum 1 := ⟨use_t (i := 742) (by decide +kernel) rfl, use_t (i := 7) (by decide +kernel) rfl, by decide +kernel, by decide⟩
theorem mvX4_readSum : MV mX4_readSum 1 := ⟨mkX4_readSum, use_t (i := 741) (by decide +kernel) rfl, use_p (i := 22) (by decide +kernel) rfl⟩
def mX4_readProduct : MD := (yX4_readProduct, cX4_readProduct, 3, (Option.some FieldType.boolean))
theorem mkX4_readProduct : MK mX4_readProduct 1 := ⟨use_t (i := 746) (by decide +kernel) rfl, use_t (i := 7) (by decide +kernel) rfl, by decide +kernel, by decide⟩
theorem mvX4_readProduct : MV mX4_readProduct 1 := ⟨mkX4_readProduct, use_t (i := 745) (by decide +kernel) rfl, use_p (i := 23) (by decide +kernel) rfl⟩
def mX4_readPower : MD := (yX4_readPower, cX4_readPower, 2, (Option.some FieldType.boolean))
theorem mkX4_readPower : MK mX4_readPower 1 := ⟨use_t (i := 750) (by decide +kernel) rfl, use_t (i := 7) (by decide +kernel) rfl, by decide +kernel, by decide⟩
theorem mvX4_readPower : MV mX4_readPower 1 := ⟨mkX4_readPower, use_t (i := 749) (by decide +kernel) rfl, use_p (i := 24) (by decide +kernel) rfl⟩
def mX4_readPart : MD := (yX4_readPart, cX4_readPart, 4, (Option.some FieldType.boolean))
theorem mkX4_readPart : MK mX4_readPart 1 := ⟨use_t (i := 754) (by decide +kernel) rfl, use_t (i := 7) (by decide +kernel) rfl, by decide +kernel, by decide⟩
theorem mvX4_readPart : MV mX4_readPart 1 := ⟨mkX4_readPart, use_t (i := 753) (by decide +kernel) rfl, use_p (i := 25) (by decide +kernel) rfl⟩
def mX4_readInner : MD := (yX4_readInner, cX4_readInner, 2, (Option.some FieldType.boolean))
theorem mkX4_readInner : MK mX4_readInner 1 := ⟨use_t (i := 765) (by decide +kernel) rfl, use_t (i := 7) (by decide +kernel) rfl, by decide +kernel, by decide⟩
theorem mvX4_readInner : MV mX4_readInner 1 := ⟨mkX4_readInner, use_t (i := 764) (by decide +kernel) rfl, use_p (i := 26) (by decide +kernel) rfl⟩
def mX5_init : MD := (yX5_init, cX5_init, 1, (none : Option FieldType))
theorem mkX5_init : MK mX5_init 0 := ⟨use_t (i := 280) (by decide +kernel) rfl, use_t (i := 11) (by decide +kernel) rfl, by decide +kernel, by decide⟩
theorem mnX5_init : MN mX5_init 0 := ⟨mkX5_init, use_t (i := 279) (by decide +kernel) rfl, rfl, rfl⟩
def mX5_putSign : MD := (yX5_putSign, cX5_putSign, 2, (none : Option FieldType))
theorem mkX5_putSign : MK mX5_putSign 1 := ⟨use_t (i := 1100) (by decide +kernel) rfl, use_t (i := 11) (by decide +kernel) rfl, by decide +kernel, by decide⟩
theorem mvX5_putSign : MV mX5_putSign 1 := ⟨mkX5_putSign, use_t (i := 1098) (by decide +kernel) rfl, use_t (i := 1099) (by decide +kernel) rfl⟩
def mX5_putText : MD := (yX5_putText, cX5_putText, 3, (none : Option FieldType))
theorem mkX5_putText : MK mX5_putText 1 := ⟨use_t (i := 1117) (by decide +kernel) rfl, use_t (i := 11) (by decide +kernel) rfl, by decide +kernel, by decide⟩
theorem mvX5_putText : MV mX5_putText 1 := ⟨mkX5_putText, use_t (i := 1115) (by decide +kernel) rfl, use_t (i := 1116) (by decide +kernel) rfl⟩
def mX5_putInt : MD := (yX5_putInt, cX5_putInt, 6, (none : Option FieldType))
theorem mkX5_putInt : MK mX5_putInt 1 := ⟨use_t (i := 1108) (by decide +kernel) rfl, use_t (i := 11) (by decide +kernel) rfl, by decide +kernel, by decide⟩
theorem mvX5_putInt : MV mX5_putInt 1 := ⟨mkX5_putInt, use_t (i := 1106) (by decide +kernel) rfl, use_t (i := 1107) (by decide +kernel) rfl⟩
def mX6_init : MD := (yX6_init, cX6_init, 2, (none : Option FieldType))
theorem mkX6_init : MK mX6_init 1 := ⟨use_t (i := 193) (by decide +kernel) rfl, use_t (i := 6) (by decide +kernel) rfl, by decide +kernel, by decide⟩
theorem mnX6_init : MN mX6_init 1 := ⟨mkX6_init, use_t (i := 192) (by decide +kernel) rfl, rfl, rfl⟩
def mX6_readAll : MD := (yX6_readAll, cX6_readAll, 4, (Option.some FieldType.int))
theorem mkX6_readAll : MK mX6_readAll 2 := ⟨use_t (i := 685) (by decide +kernel) rfl, use_t (i := 6) (by decide +kernel) rfl, by decide +kernel, by decide⟩
theorem mvX6_readAll : MV mX6_readAll 2 := ⟨mkX6_readAll, use_t (i := 683) (by decide +kernel) rfl, use_t (i := 684) (by decide +kernel) rfl⟩
def mX6_readLine : MD := (yX6_readLine, cX6_readLine, 4, (Option.some FieldType.boolean))
theorem mkX6_readLine : MK mX6_readLine 1 := ⟨use_t (i := 691) (by decide +kernel) rfl, use_t (i := 6) (by decide +kernel) rfl, by decide +kernel, by decide⟩
theorem mvX6_readLine : MV mX6_readLine 1 := ⟨mkX6_readLine, use_t (i := 690) (by decide +kernel) rfl, use_p (i := 16) (by decide +kernel) rfl⟩
def mX6_isTold : MD := (yX6_isTold, cX6_isTold, 4, (Option.some FieldType.boolean))
theorem mkX6_isTold : MK mX6_isTold 2 := ⟨use_t (i := 701) (by decide +kernel) rfl, use_t (i := 6) (by decide +kernel) rfl, by decide +kernel, by decide⟩
theorem mvX6_isTold : MV mX6_isTold 2 := ⟨mkX6_isTold, use_t (i := 700) (by decide +kernel) rfl, use_p (i := 17) (by decide +kernel) rfl⟩
def mX6_readNot : MD := (yX6_readNot, cX6_readNot, 2, (Option.some FieldType.boolean))
theorem mkX6_readNot : MK mX6_readNot 1 := ⟨use_t (i := 725) (by decide +kernel) rfl, use_t (i := 6) (by decide +kernel) rfl, by decide +kernel, by decide⟩
theorem mvX6_readNot : MV mX6_readNot 1 := ⟨mkX6_readNot, use_t (i := 724) (by decide +kernel) rfl, use_p (i := 21) (by decide +kernel) rfl⟩
def mX6_readWay : MD := (yX6_readWay, cX6_readWay, 4, (Option.some FieldType.boolean))
theorem mkX6_readWay : MK mX6_readWay 1 := ⟨use_t (i := 706) (by decide +kernel) rfl, use_t (i := 6) (by decide +kernel) rfl, by decide +kernel, by decide⟩
theorem mvX6_readWay : MV mX6_readWay 1 := ⟨mkX6_readWay, use_t (i := 705) (by decide +kernel) rfl, use_p (i := 18) (by decide +kernel) rfl⟩
def mX6_readX : MD := (yX6_readX, cX6_readX, 2, (Option.some FieldType.boolean))
theorem mkX6_readX : MK mX6_readX 1 := ⟨use_t (i := 710) (by decide +kernel) rfl, use_t (i := 6) (by decide +kernel) rfl, by decide +kernel, by decide⟩
theorem mvX6_readX : MV mX6_readX 1 := ⟨mkX6_readX, use_t (i := 709) (by decide +kernel) rfl, use_p (i := 19) (by decide +kernel) rfl⟩
def mX6_endWay : MD := (yX6_endWay, cX6_endWay, 3, (Option.some FieldType.boolean))
theorem mkX6_endWay : MK mX6_endWay 2 := ⟨use_t (i := 715) (by decide +kernel) rfl, use_t (i := 6) (by decide +kernel) rfl, by decide +kernel, by decide⟩
theorem mvX6_endWay : MV mX6_endWay 2 := ⟨mkX6_endWay, use_t (i := 714) (by decide +kernel) rfl, use_p (i := 20) (by decide +kernel) rfl⟩
def mX7_init : MD := (yX7_init, cX7_init, 1, (none : Option FieldType))
theorem mkX7_init : MK mX7_init 0 := ⟨use_t (i := 225) (by decide +kernel) rfl, use_t (i := 8) (by decide +kernel) rfl, by decide +kernel, by decide⟩
theorem mnX7_init : MN mX7_init 0 := ⟨mkX7_init, use_t (i := 224) (by decide +kernel) rfl, rfl, rfl⟩
def mX7_forget : MD := (yX7_forget, cX7_forget, 2, (none : Option FieldType))
theorem mkX7_forget : MK mX7_forget 1 := ⟨use_t (i := 621) (by decide +kernel) rfl, use_t (i := 8) (by decide +kernel) rfl, by decide +kernel, by decide⟩
theorem mvX7_forget : MV mX7_forget 1 := ⟨mkX7_forget, use_t (i := 619) (by decide +kernel) rfl, use_t (i := 620) (by decide +kernel) rfl⟩
def mX7_countWays : MD := (yX7_countWays, cX7_countWays, 5, (none : Option FieldType))
theorem mkX7_countWays : MK mX7_countWays 2 := ⟨use_t (i := 637) (by decide +kernel) rfl, use_t (i := 8) (by decide +kernel) rfl, by decide +kernel, by decide⟩
theorem mvX7_countWays : MV mX7_countWays 2 := ⟨mkX7_countWays, use_t (i := 635) (by decide +kernel) rfl, use_t (i := 636) (by decide +kernel) rfl⟩
def mX7_countUnlike : MD := (yX7_countUnlike, cX7_countUnlike, 5, (none : Option FieldType))
theorem mkX7_countUnlike : MK mX7_countUnlike 1 := ⟨use_t (i := 833) (by decide +kernel) rfl, use_t (i := 8) (by decide +kernel) rfl, by decide +kernel, by decide⟩
theorem mvX7_countUnlike : MV mX7_countUnlike 1 := ⟨mkX7_countUnlike, use_t (i := 831) (by decide +kernel) rfl, use_t (i := 832) (by decide +kernel) rfl⟩
def mX7_waysFrom : MD := (yX7_waysFrom, cX7_waysFrom, 4, (Option.some FieldType.long))
theorem mkX7_waysFrom : MK mX7_waysFrom 2 := ⟨use_t (i := 681) (by decide +kernel) rfl, use_t (i := 8) (by decide +kernel) rfl, by decide +kernel, by decide⟩
theorem mvX7_waysFrom : MV mX7_waysFrom 2 := ⟨mkX7_waysFrom, use_t (i := 679) (by decide +kernel) rfl, use_t (i := 680) (by decide +kernel) rfl⟩
def mX7_copyRow : MD := (yX7_copyRow, cX7_copyRow, 3, (none : Option FieldType))
theorem mkX7_copyRow : MK mX7_copyRow 1 := ⟨use_t (i := 677) (by decide +kernel) rfl, use_t (i := 8) (by decide +kernel) rfl, by decide +kernel, by decide⟩
theorem mvX7_copyRow : MV mX7_copyRow 1 := ⟨mkX7_copyRow, use_t (i := 675) (by decide +kernel) rfl, use_t (i := 676) (by decide +kernel) rfl⟩
def mX7_measure : MD := (yX7_measure, cX7_measure, 3, (none : Option FieldType))
theorem mkX7_measure : MK mX7_measure 1 := ⟨use_t (i := 641) (by decide +kernel) rfl, use_t (i := 8) (by decide +kernel) rfl, by decide +kernel, by decide⟩
theorem mvX7_measure : MV mX7_measure 1 := ⟨mkX7_measure, use_t (i := 640) (by decide +kernel) rfl, use_p (i := 10) (by decide +kernel) rfl⟩
def mX7_makeRows : MD := (yX7_makeRows, cX7_makeRows, 3, (Option.some FieldType.boolean))
theorem mkX7_makeRows : MK mX7_makeRows 1 := ⟨use_t (i := 645) (by decide +kernel) rfl, use_t (i := 8) (by decide +kernel) rfl, by decide +kernel, by decide⟩
theorem mvX7_makeRows : MV mX7_makeRows 1 := ⟨mkX7_makeRows, use_t (i := 644) (by decide +kernel) rfl, use_p (i := 11) (by decide +kernel) rfl⟩
def mX7_clear : MD := (yX7_clear, cX7_clear, 4, (none : Option FieldType))
theorem mkX7_clear : MK mX7_clear 1 := ⟨use_t (i := 652) (by decide +kernel) rfl, use_t (i := 8) (by decide +kernel) rfl, by decide +kernel, by decide⟩
theorem mvX7_clear : MV mX7_clear 1 := ⟨mkX7_clear, use_t (i := 651) (by decide +kernel) rfl, use_p (i := 12) (by decide +kernel) rfl⟩
def mX7_addTerm : MD := (yX7_addTerm, cX7_addTerm, 5, (Option.some FieldType.int))
theorem mkX7_addTerm : MK mX7_addTerm 3 := ⟨use_t (i := 656) (by decide +kernel) rfl, use_t (i := 8) (by decide +kernel) rfl, by decide +kernel, by decide⟩
theorem mvX7_addTerm : MV mX7_addTerm 3 := ⟨mkX7_addTerm, use_t (i := 655) (by decide +kernel) rfl, use_p (i := 13) (by decide +kernel) rfl⟩
def mX7_addLikePowers : MD := (yX7_addLikePowers, cX7_addLikePowers, 8, (none : Option FieldType))
theorem mkX7_addLikePowers : MK mX7_addLikePowers 4 := ⟨use_t (i := 845) (by decide +kernel) rfl, use_t (i := 8) (by decide +kernel) rfl, by decide +kernel, by decide⟩
theorem mvX7_addLikePowers : MV mX7_addLikePowers 4 := ⟨mkX7_addLikePowers, use_t (i := 844) (by decide +kernel) rfl, use_p (i := 31) (by decide +kernel) rfl⟩
def mX7_addShifted : MD := (yX7_addShifted, cX7_addShifted, 9, (none : Option FieldType))
theorem mkX7_addShifted : MK mX7_addShifted 4 := ⟨use_t (i := 660) (by decide +kernel) rfl, use_t (i := 8) (by decide +kernel) rfl, by decide +kernel, by decide⟩
theorem mvX7_addShifted : MV mX7_addShifted 4 := ⟨mkX7_addShifted, use_t (i := 659) (by decide +kernel) rfl, use_p (i := 14) (by decide +kernel) rfl⟩
def mX7_addLikeLines : MD := (yX7_addLikeLines, cX7_addLikeLines, 12, (none : Option FieldType))
theorem mkX7_addLikeLines : MK mX7_addLikeLines 4 := ⟨use_t (i := 664) (by decide +kernel) rfl, use_t (i := 8) (by decide +kernel) rfl, by decide +kernel, by decide⟩
theorem mvX7_addLikeLines : MV mX7_addLikeLines 4 := ⟨mkX7_addLikeLines, use_t (i := 663) (by decide +kernel) rfl, use_p (i := 15) (by decide +kernel) rfl⟩
def mX8_init : MD := (yX8_init, cX8_init, 1, (none : Option FieldType))
theorem mkX8_init : MK mX8_init 0 := ⟨use_t (i := 261) (by decide +kernel) rfl, use_t (i := 10) (by decide +kernel) rfl, by decide +kernel, by decide⟩
theorem mnX8_init : MN mX8_init 0 := ⟨mkX8_init, use_t (i := 260) (by decide +kernel) rfl, rfl, rfl⟩
def mX8_begin : MD := (yX8_begin, cX8_begin, 2, (none : Option FieldType))
theorem mkX8_begin : MK mX8_begin 0 := ⟨use_t (i := 986) (by decide +kernel) rfl, use_t (i := 10) (by decide +kernel) rfl, by decide +kernel, by decide⟩
theorem mvX8_begin : MV mX8_begin 0 := ⟨mkX8_begin, use_t (i := 984) (by decide +kernel) rfl, use_t (i := 985) (by decide +kernel) rfl⟩
def mX8_addTerm : MD := (yX8_addTerm, cX8_addTerm, 3, (none : Option FieldType))
theorem mkX8_addTerm : MK mX8_addTerm 2 := ⟨use_t (i := 990) (by decide +kernel) rfl, use_t (i := 10) (by decide +kernel) rfl, by decide +kernel, by decide⟩
theorem mvX8_addTerm : MV mX8_addTerm 2 := ⟨mkX8_addTerm, use_t (i := 988) (by decide +kernel) rfl, use_t (i := 989) (by decide +kernel) rfl⟩
def mX8_holds : MD := (yX8_holds, cX8_holds, 3, (Option.some FieldType.boolean))
theorem mkX8_holds : MK mX8_holds 1 := ⟨use_t (i := 1009) (by decide +kernel) rfl, use_t (i := 10) (by decide +kernel) rfl, by decide +kernel, by decide⟩
theorem mvX8_holds : MV mX8_holds 1 := ⟨mkX8_holds, use_t (i := 1007) (by decide +kernel) rfl, use_t (i := 1008) (by decide +kernel) rfl⟩
def mX8_addPower : MD := (yX8_addPower, cX8_addPower, 4, (none : Option FieldType))
theorem mkX8_addPower : MK mX8_addPower 2 := ⟨use_t (i := 1004) (by decide +kernel) rfl, use_t (i := 10) (by decide +kernel) rfl, by decide +kernel, by decide⟩
theorem mvX8_addPower : MV mX8_addPower 2 := ⟨mkX8_addPower, use_t (i := 1003) (by decide +kernel) rfl, use_p (i := 42) (by decide +kernel) rfl⟩
def mX8_addLine : MD := (yX8_addLine, cX8_addLine, 4, (none : Option FieldType))
theorem mkX8_addLine : MK mX8_addLine 2 := ⟨use_t (i := 996) (by decide +kernel) rfl, use_t (i := 10) (by decide +kernel) rfl, by decide +kernel, by decide⟩
theorem mvX8_addLine : MV mX8_addLine 2 := ⟨mkX8_addLine, use_t (i := 995) (by decide +kernel) rfl, use_p (i := 40) (by decide +kernel) rfl⟩
def mX8_orShifted : MD := (yX8_orShifted, cX8_orShifted, 10, (none : Option FieldType))
theorem mkX8_orShifted : MK mX8_orShifted 3 := ⟨use_t (i := 1000) (by decide +kernel) rfl, use_t (i := 10) (by decide +kernel) rfl, by decide +kernel, by decide⟩
theorem mvX8_orShifted : MV mX8_orShifted 3 := ⟨mkX8_orShifted, use_t (i := 999) (by decide +kernel) rfl, use_p (i := 41) (by decide +kernel) rfl⟩
def mX9_init : MD := (yX9_init, cX9_init, 1, (none : Option FieldType))
theorem mkX9_init : MK mX9_init 0 := ⟨use_t (i := 154) (by decide +kernel) rfl, use_t (i := 4) (by decide +kernel) rfl, by decide +kernel, by decide⟩
theorem mnX9_init : MN mX9_init 0 := ⟨mkX9_init, use_t (i := 153) (by decide +kernel) rfl, rfl, rfl⟩
def mX9_forget : MD := (yX9_forget, cX9_forget, 1, (none : Option FieldType))
theorem mkX9_forget : MK mX9_forget 0 := ⟨use_t (i := 617) (by decide +kernel) rfl, use_t (i := 4) (by decide +kernel) rfl, by decide +kernel, by decide⟩
theorem mvX9_forget : MV mX9_forget 0 := ⟨mkX9_forget, use_t (i := 615) (by decide +kernel) rfl, use_t (i := 616) (by decide +kernel) rfl⟩
def mX9_keepWays : MD := (yX9_keepWays, cX9_keepWays, 2, (Option.some (FieldType.array FieldType.long)))
theorem mkX9_keepWays : MK mX9_keepWays 1 := ⟨use_t (i := 673) (by decide +kernel) rfl, use_t (i := 4) (by decide +kernel) rfl, by decide +kernel, by decide⟩
theorem mvX9_keepWays : MV mX9_keepWays 1 := ⟨mkX9_keepWays, use_t (i := 671) (by decide +kernel) rfl, use_t (i := 672) (by decide +kernel) rfl⟩
def mX9_keepUnlike : MD := (yX9_keepUnlike, cX9_keepUnlike, 2, (Option.some (FieldType.array FieldType.long)))
theorem mkX9_keepUnlike : MK mX9_keepUnlike 1 := ⟨use_t (i := 849) (by decide +kernel) rfl, use_t (i := 4) (by decide +kernel) rfl, by decide +kernel, by decide⟩
theorem mvX9_keepUnlike : MV mX9_keepUnlike 1 := ⟨mkX9_keepUnlike, use_t (i := 847) (by decide +kernel) rfl, use_t (i := 848) (by decide +kernel) rfl⟩
def mX10_init : MD := (yX10_init, cX10_init, 1, (none : Option FieldType))
theorem mkX10_init : MK mX10_init 0 := ⟨use_t (i := 32) (by decide +kernel) rfl, use_t (i := 2) (by decide +kernel) rfl, by decide +kernel, by decide⟩
theorem mnX10_init : MN mX10_init 0 := ⟨mkX10_init, use_t (i := 31) (by decide +kernel) rfl, rfl, rfl⟩
def mX10_append : MD := (yX10_append, cX10_append, 3, (none : Option FieldType))
theorem mkX10_append : MK mX10_append 1 := ⟨use_t (i := 416) (by decide +kernel) rfl, use_t (i := 2) (by decide +kernel) rfl, by decide +kernel, by decide⟩
theorem mvX10_append : MV mX10_append 1 := ⟨mkX10_append, use_t (i := 414) (by decide +kernel) rfl, use_t (i := 415) (by decide +kernel) rfl⟩
def mX10_forgetFault : MD := (yX10_forgetFault, cX10_forgetFault, 1, (none : Option FieldType))
theorem mkX10_forgetFault : MK mX10_forgetFault 0 := ⟨use_t (i := 428) (by decide +kernel) rfl, use_t (i := 2) (by decide +kernel) rfl, by decide +kernel, by decide⟩
theorem mvX10_forgetFault : MV mX10_forgetFault 0 := ⟨mkX10_forgetFault, use_t (i := 426) (by decide +kernel) rfl, use_t (i := 427) (by decide +kernel) rfl⟩
def mX10_begin : MD := (yX10_begin, cX10_begin, 4, (none : Option FieldType))
theorem mkX10_begin : MK mX10_begin 2 := ⟨use_t (i := 439) (by decide +kernel) rfl, use_t (i := 2) (by decide +kernel) rfl, by decide +kernel, by decide⟩
theorem mvX10_begin : MV mX10_begin 2 := ⟨mkX10_begin, use_t (i := 437) (by decide +kernel) rfl, use_t (i := 438) (by decide +kernel) rfl⟩
def mX10_skipBlanks : MD := (yX10_skipBlanks, cX10_skipBlanks, 1, (none : Option FieldType))
theorem mkX10_skipBlanks : MK mX10_skipBlanks 0 := ⟨use_t (i := 443) (by decide +kernel) rfl, use_t (i := 2) (by decide +kernel) rfl, by decide +kernel, by decide⟩
theorem mvX10_skipBlanks : MV mX10_skipBlanks 0 := ⟨mkX10_skipBlanks, use_t (i := 442) (by decide +kernel) rfl, use_p (i := 0) (by decide +kernel) rfl⟩
def mX10_cutToken : MD := (yX10_cutToken, cX10_cutToken, 3, (none : Option FieldType))
theorem mkX10_cutToken : MK mX10_cutToken 0 := ⟨use_t (i := 450) (by decide +kernel) rfl, use_t (i := 2) (by decide +kernel) rfl, by decide +kernel, by decide⟩
theorem mvX10_cutToken : MV mX10_cutToken 0 := ⟨mkX10_cutToken, use_t (i := 449) (by decide +kernel) rfl, use_p (i := 1) (by decide +kernel) rfl⟩
def mX10_takeAmount : MD := (yX10_takeAmount, cX10_takeAmount, 4, (none : Option FieldType))
theorem mkX10_takeAmount : MK mX10_takeAmount 1 := ⟨use_t (i := 457) (by decide +kernel) rfl, use_t (i := 2) (by decide +kernel) rfl, by decide +kernel, by decide⟩
theorem mvX10_takeAmount : MV mX10_takeAmount 1 := ⟨mkX10_takeAmount, use_t (i := 456) (by decide +kernel) rfl, use_p (i := 2) (by decide +kernel) rfl⟩
def mX10_isBlank : MD := (yX10_isBlank, cX10_isBlank, 1, (Option.some FieldType.boolean))
theorem mkX10_isBlank : MK mX10_isBlank 1 := ⟨use_t (i := 446) (by decide +kernel) rfl, use_t (i := 2) (by decide +kernel) rfl, by decide +kernel, by decide⟩
theorem msX10_isBlank : MS mX10_isBlank 1 := ⟨mkX10_isBlank, use_t (i := 445) (by decide +kernel) rfl⟩
def mX10_sortOf : MD := (yX10_sortOf, cX10_sortOf, 1, (Option.some FieldType.int))
theorem mkX10_sortOf : MK mX10_sortOf 1 := ⟨use_t (i := 453) (by decide +kernel) rfl, use_t (i := 2) (by decide +kernel) rfl, by decide +kernel, by decide⟩
theorem msX10_sortOf : MS mX10_sortOf 1 := ⟨mkX10_sortOf, use_t (i := 452) (by decide +kernel) rfl⟩
def mX10_advance : MD := (yX10_advance, cX10_advance, 1, (none : Option FieldType))
theorem mkX10_advance : MK mX10_advance 0 := ⟨use_t (i := 545) (by decide +kernel) rfl, use_t (i := 2) (by decide +kernel) rfl, by decide +kernel, by decide⟩
theorem mvX10_advance : MV mX10_advance 0 := ⟨mkX10_advance, use_t (i := 543) (by decide +kernel) rfl, use_t (i := 544) (by decide +kernel) rfl⟩
def mX10_fail : MD := (yX10_fail, cX10_fail, 2, (Option.some FieldType.boolean))
theorem mkX10_fail : MK mX10_fail 1 := ⟨use_t (i := 477) (by decide +kernel) rfl, use_t (i := 2) (by decide +kernel) rfl, by decide +kernel, by decide⟩
theorem mvX10_fail : MV mX10_fail 1 := ⟨mkX10_fail, use_t (i := 475) (by decide +kernel) rfl, use_t (i := 476) (by decide +kernel) rfl⟩
def mX10_isEnd : MD := (yX10_isEnd, cX10_isEnd, 1, (Option.some FieldType.boolean))
theorem mkX10_isEnd : MK mX10_isEnd 0 := ⟨use_t (i := 599) (by decide +kernel) rfl, use_t (i := 2) (by decide +kernel) rfl, by decide +kernel, by decide⟩
theorem mvX10_isEnd : MV mX10_isEnd 0 := ⟨mkX10_isEnd, use_t (i := 597) (by decide +kernel) rfl, use_t (i := 598) (by decide +kernel) rfl⟩
def mX10_isN : MD := (yX10_isN, cX10_isN, 1, (Option.some FieldType.boolean))
theorem mkX10_isN : MK mX10_isN 0 := ⟨use_t (i := 469) (by decide +kernel) rfl, use_t (i := 2) (by decide +kernel) rfl, by decide +kernel, by decide⟩
theorem mvX10_isN : MV mX10_isN 0 := ⟨mkX10_isN, use_t (i := 467) (by decide +kernel) rfl, use_t (i := 468) (by decide +kernel) rfl⟩
def mX10_amount : MD := (yX10_amount, cX10_amount, 1, (Option.some FieldType.int))
theorem mkX10_amount : MK mX10_amount 0 := ⟨use_t (i := 473) (by decide +kernel) rfl, use_t (i := 2) (by decide +kernel) rfl, by decide +kernel, by decide⟩
theorem mvX10_amount : MV mX10_amount 0 := ⟨mkX10_amount, use_t (i := 471) (by decide +kernel) rfl, use_t (i := 472) (by decide +kernel) rfl⟩
def mX10_isSign : MD := (yX10_isSign, cX10_isSign, 2, (Option.some FieldType.boolean))
theorem mkX10_isSign : MK mX10_isSign 1 := ⟨use_t (i := 563) (by decide +kernel) rfl, use_t (i := 2) (by decide +kernel) rfl, by decide +kernel, by decide⟩
theorem mvX10_isSign : MV mX10_isSign 1 := ⟨mkX10_isSign, use_t (i := 561) (by decide +kernel) rfl, use_t (i := 562) (by decide +kernel) rfl⟩
def mX10_isWord : MD := (yX10_isWord, cX10_isWord, 4, (Option.some FieldType.boolean))
theorem mkX10_isWord : MK mX10_isWord 1 := ⟨use_t (i := 493) (by decide +kernel) rfl, use_t (i := 2) (by decide +kernel) rfl, by decide +kernel, by decide⟩
theorem mvX10_isWord : MV mX10_isWord 1 := ⟨mkX10_isWord, use_t (i := 491) (by decide +kernel) rfl, use_t (i := 492) (by decide +kernel) rfl⟩
def mX10_kindThere : MD := (yX10_kindThere, cX10_kindThere, 2, (Option.some FieldType.int))
theorem mkX10_kindThere : MK mX10_kindThere 0 := ⟨use_t (i := 481) (by decide +kernel) rfl, use_t (i := 2) (by decide +kernel) rfl, by decide +kernel, by decide⟩
theorem mvX10_kindThere : MV mX10_kindThere 0 := ⟨mkX10_kindThere, use_t (i := 479) (by decide +kernel) rfl, use_t (i := 480) (by decide +kernel) rfl⟩
def mX10_letterThere : MD := (yX10_letterThere, cX10_letterThere, 3, (Option.some FieldType.int))
theorem mkX10_letterThere : MK mX10_letterThere 0 := ⟨use_t (i := 758) (by decide +kernel) rfl, use_t (i := 2) (by decide +kernel) rfl, by decide +kernel, by decide⟩
theorem mvX10_letterThere : MV mX10_letterThere 0 := ⟨mkX10_letterThere, use_t (i := 756) (by decide +kernel) rfl, use_t (i := 757) (by decide +kernel) rfl⟩
def mX10_beginsWhole : MD := (yX10_beginsWhole, cX10_beginsWhole, 1, (Option.some FieldType.boolean))
theorem mkX10_beginsWhole : MK mX10_beginsWhole 0 := ⟨use_t (i := 719) (by decide +kernel) rfl, use_t (i := 2) (by decide +kernel) rfl, by decide +kernel, by decide⟩
theorem mvX10_beginsWhole : MV mX10_beginsWhole 0 := ⟨mkX10_beginsWhole, use_t (i := 717) (by decide +kernel) rfl, use_t (i := 718) (by decide +kernel) rfl⟩
def mX10_readWhole : MD := (yX10_readWhole, cX10_readWhole, 2, (Option.some FieldType.boolean))
theorem mkX10_readWhole : MK mX10_readWhole 0 := ⟨use_t (i := 559) (by decide +kernel) rfl, use_t (i := 2) (by decide +kernel) rfl, by decide +kernel, by decide⟩
theorem mvX10_readWhole : MV mX10_readWhole 0 := ⟨mkX10_readWhole, use_t (i := 557) (by decide +kernel) rfl, use_t (i := 558) (by decide +kernel) rfl⟩
def mX11_init : MD := (yX11_init, cX11_init, 2, (none : Option FieldType))
theorem mkX11_init : MK mX11_init 0 := ⟨use_t (i := 24) (by decide +kernel) rfl, use_t (i := 1) (by decide +kernel) rfl, by decide +kernel, by decide⟩
theorem mnX11_init : MN mX11_init 0 := ⟨mkX11_init, use_t (i := 23) (by decide +kernel) rfl, rfl, rfl⟩
def mX11_feed : MD := (yX11_feed, cX11_feed, 6, (Option.some FieldType.int))
theorem mkX11_feed : MK mX11_feed 5 := ⟨use_t (i := 412) (by decide +kernel) rfl, use_t (i := 1) (by decide +kernel) rfl, by decide +kernel, by decide⟩
theorem mvX11_feed : MV mX11_feed 5 := ⟨mkX11_feed, use_t (i := 410) (by decide +kernel) rfl, use_t (i := 411) (by decide +kernel) rfl⟩
def mX11_end : MD := (yX11_end, cX11_end, 2, (Option.some FieldType.boolean))
theorem mkX11_end : MK mX11_end 1 := ⟨use_t (i := 420) (by decide +kernel) rfl, use_t (i := 1) (by decide +kernel) rfl, by decide +kernel, by decide⟩
theorem mvX11_end : MV mX11_end 1 := ⟨mkX11_end, use_t (i := 418) (by decide +kernel) rfl, use_t (i := 419) (by decide +kernel) rfl⟩
def mX11_form : MD := (yX11_form, cX11_form, 3, (Option.some FieldType.int))
theorem mkX11_form : MK mX11_form 1 := ⟨use_t (i := 424) (by decide +kernel) rfl, use_t (i := 1) (by decide +kernel) rfl, by decide +kernel, by decide⟩
theorem mvX11_form : MV mX11_form 1 := ⟨mkX11_form, use_t (i := 422) (by decide +kernel) rfl, use_t (i := 423) (by decide +kernel) rfl⟩
def mX11_prove : MD := (yX11_prove, cX11_prove, 3, (Option.some FieldType.int))
theorem mkX11_prove : MK mX11_prove 1 := ⟨use_t (i := 625) (by decide +kernel) rfl, use_t (i := 1) (by decide +kernel) rfl, by decide +kernel, by decide⟩
theorem mvX11_prove : MV mX11_prove 1 := ⟨mkX11_prove, use_t (i := 623) (by decide +kernel) rfl, use_t (i := 624) (by decide +kernel) rfl⟩
def mX11_identity : MD := (yX11_identity, cX11_identity, 3, (Option.some FieldType.int))
theorem mkX11_identity : MK mX11_identity 0 := ⟨use_t (i := 729) (by decide +kernel) rfl, use_t (i := 1) (by decide +kernel) rfl, by decide +kernel, by decide⟩
theorem mvX11_identity : MV mX11_identity 0 := ⟨mkX11_identity, use_t (i := 727) (by decide +kernel) rfl, use_t (i := 728) (by decide +kernel) rfl⟩
def mX11_fault : MD := (yX11_fault, cX11_fault, 2, (Option.some FieldType.int))
theorem mkX11_fault : MK mX11_fault 1 := ⟨use_t (i := 806) (by decide +kernel) rfl, use_t (i := 1) (by decide +kernel) rfl, by decide +kernel, by decide⟩
theorem mvX11_fault : MV mX11_fault 1 := ⟨mkX11_fault, use_t (i := 804) (by decide +kernel) rfl, use_t (i := 805) (by decide +kernel) rfl⟩
def mX11_term : MD := (yX11_term, cX11_term, 5, (Option.some FieldType.int))
theorem mkX11_term : MK mX11_term 3 := ⟨use_t (i := 810) (by decide +kernel) rfl, use_t (i := 1) (by decide +kernel) rfl, by decide +kernel, by decide⟩
theorem mvX11_term : MV mX11_term 3 := ⟨mkX11_term, use_t (i := 808) (by decide +kernel) rfl, use_t (i := 809) (by decide +kernel) rfl⟩
def mX11_ways : MD := (yX11_ways, cX11_ways, 3, (Option.some FieldType.long))
theorem mkX11_ways : MK mX11_ways 2 := ⟨use_t (i := 819) (by decide +kernel) rfl, use_t (i := 1) (by decide +kernel) rfl, by decide +kernel, by decide⟩
theorem mvX11_ways : MV mX11_ways 2 := ⟨mkX11_ways, use_t (i := 817) (by decide +kernel) rfl, use_t (i := 818) (by decide +kernel) rfl⟩
def mX11_unlike : MD := (yX11_unlike, cX11_unlike, 3, (Option.some FieldType.long))
theorem mkX11_unlike : MK mX11_unlike 2 := ⟨use_t (i := 825) (by decide +kernel) rfl, use_t (i := 1) (by decide +kernel) rfl, by decide +kernel, by decide⟩
theorem mvX11_unlike : MV mX11_unlike 2 := ⟨mkX11_unlike, use_t (i := 823) (by decide +kernel) rfl, use_t (i := 824) (by decide +kernel) rfl⟩
def mX11_way : MD := (yX11_way, cX11_way, 6, (Option.some FieldType.int))
theorem mkX11_way : MK mX11_way 4 := ⟨use_t (i := 853) (by decide +kernel) rfl, use_t (i := 1) (by decide +kernel) rfl, by decide +kernel, by decide⟩
theorem mvX11_way : MV mX11_way 4 := ⟨mkX11_way, use_t (i := 851) (by decide +kernel) rfl, use_t (i := 852) (by decide +kernel) rfl⟩
def mX11_number : MD := (yX11_number, cX11_number, 8, (Option.some FieldType.long))
theorem mkX11_number : MK mX11_number 7 := ⟨use_t (i := 863) (by decide +kernel) rfl, use_t (i := 1) (by decide +kernel) rfl, by decide +kernel, by decide⟩
theorem mvX11_number : MV mX11_number 7 := ⟨mkX11_number, use_t (i := 861) (by decide +kernel) rfl, use_t (i := 862) (by decide +kernel) rfl⟩
def mX11_missed : MD := (yX11_missed, cX11_missed, 8, (Option.some FieldType.int))
theorem mkX11_missed : MK mX11_missed 4 := ⟨use_t (i := 875) (by decide +kernel) rfl, use_t (i := 1) (by decide +kernel) rfl, by decide +kernel, by decide⟩
theorem mvX11_missed : MV mX11_missed 4 := ⟨mkX11_missed, use_t (i := 873) (by decide +kernel) rfl, use_t (i := 874) (by decide +kernel) rfl⟩
def mX11_explained : MD := (yX11_explained, cX11_explained, 8, (Option.some FieldType.int))
theorem mkX11_explained : MK mX11_explained 4 := ⟨use_t (i := 882) (by decide +kernel) rfl, use_t (i := 1) (by decide +kernel) rfl, by decide +kernel, by decide⟩
theorem mvX11_explained : MV mX11_explained 4 := ⟨mkX11_explained, use_t (i := 880) (by decide +kernel) rfl, use_t (i := 881) (by decide +kernel) rfl⟩
def mX11_full : MD := (yX11_full, cX11_full, 5, (Option.some FieldType.int))
theorem mkX11_full : MK mX11_full 1 := ⟨use_t (i := 922) (by decide +kernel) rfl, use_t (i := 1) (by decide +kernel) rfl, by decide +kernel, by decide⟩
theorem mvX11_full : MV mX11_full 1 := ⟨mkX11_full, use_t (i := 920) (by decide +kernel) rfl, use_t (i := 921) (by decide +kernel) rfl⟩
def mX11_many : MD := (yX11_many, cX11_many, 9, (Option.some FieldType.int))
theorem mkX11_many : MK mX11_many 4 := ⟨use_t (i := 926) (by decide +kernel) rfl, use_t (i := 1) (by decide +kernel) rfl, by decide +kernel, by decide⟩
theorem mvX11_many : MV mX11_many 4 := ⟨mkX11_many, use_t (i := 924) (by decide +kernel) rfl, use_t (i := 925) (by decide +kernel) rfl⟩
def mX11_common : MD := (yX11_common, cX11_common, 10, (Option.some FieldType.int))
theorem mkX11_common : MK mX11_common 5 := ⟨use_t (i := 931) (by decide +kernel) rfl, use_t (i := 1) (by decide +kernel) rfl, by decide +kernel, by decide⟩
theorem mvX11_common : MV mX11_common 5 := ⟨mkX11_common, use_t (i := 929) (by decide +kernel) rfl, use_t (i := 930) (by decide +kernel) rfl⟩
def mX11_gap : MD := (yX11_gap, cX11_gap, 10, (Option.some FieldType.int))
theorem mkX11_gap : MK mX11_gap 4 := ⟨use_t (i := 935) (by decide +kernel) rfl, use_t (i := 1) (by decide +kernel) rfl, by decide +kernel, by decide⟩
theorem mvX11_gap : MV mX11_gap 4 := ⟨mkX11_gap, use_t (i := 933) (by decide +kernel) rfl, use_t (i := 934) (by decide +kernel) rfl⟩
def mX11_rank : MD := (yX11_rank, cX11_rank, 8, (Option.some FieldType.int))
theorem mkX11_rank : MK mX11_rank 4 := ⟨use_t (i := 939) (by decide +kernel) rfl, use_t (i := 1) (by decide +kernel) rfl, by decide +kernel, by decide⟩
theorem mvX11_rank : MV mX11_rank 4 := ⟨mkX11_rank, use_t (i := 937) (by decide +kernel) rfl, use_t (i := 938) (by decide +kernel) rfl⟩
def mX11_met : MD := (yX11_met, cX11_met, 4, (Option.some FieldType.long))
theorem mkX11_met : MK mX11_met 3 := ⟨use_t (i := 946) (by decide +kernel) rfl, use_t (i := 1) (by decide +kernel) rfl, by decide +kernel, by decide⟩
theorem mvX11_met : MV mX11_met 3 := ⟨mkX11_met, use_t (i := 944) (by decide +kernel) rfl, use_t (i := 945) (by decide +kernel) rfl⟩
def mX11_meets : MD := (yX11_meets, cX11_meets, 5, (Option.some FieldType.int))
theorem mkX11_meets : MK mX11_meets 4 := ⟨use_t (i := 953) (by decide +kernel) rfl, use_t (i := 1) (by decide +kernel) rfl, by decide +kernel, by decide⟩
theorem mvX11_meets : MV mX11_meets 4 := ⟨mkX11_meets, use_t (i := 951) (by decide +kernel) rfl, use_t (i := 952) (by decide +kernel) rfl⟩
def mX11_never : MD := (yX11_never, cX11_never, 6, (Option.some FieldType.int))
theorem mkX11_never : MK mX11_never 3 := ⟨use_t (i := 967) (by decide +kernel) rfl, use_t (i := 1) (by decide +kernel) rfl, by decide +kernel, by decide⟩
theorem mvX11_never : MV mX11_never 3 := ⟨mkX11_never, use_t (i := 965) (by decide +kernel) rfl, use_t (i := 966) (by decide +kernel) rfl⟩
def mX11_bars : MD := (yX11_bars, cX11_bars, 4, (Option.some FieldType.int))
theorem mkX11_bars : MK mX11_bars 1 := ⟨use_t (i := 971) (by decide +kernel) rfl, use_t (i := 1) (by decide +kernel) rfl, by decide +kernel, by decide⟩
theorem mvX11_bars : MV mX11_bars 1 := ⟨mkX11_bars, use_t (i := 969) (by decide +kernel) rfl, use_t (i := 970) (by decide +kernel) rfl⟩
def mX11_greed : MD := (yX11_greed, cX11_greed, 8, (Option.some FieldType.int))
theorem mkX11_greed : MK mX11_greed 3 := ⟨use_t (i := 975) (by decide +kernel) rfl, use_t (i := 1) (by decide +kernel) rfl, by decide +kernel, by decide⟩
theorem mvX11_greed : MV mX11_greed 3 := ⟨mkX11_greed, use_t (i := 973) (by decide +kernel) rfl, use_t (i := 974) (by decide +kernel) rfl⟩
def mX11_nearest : MD := (yX11_nearest, cX11_nearest, 6, (Option.some FieldType.int))
theorem mkX11_nearest : MK mX11_nearest 2 := ⟨use_t (i := 982) (by decide +kernel) rfl, use_t (i := 1) (by decide +kernel) rfl, by decide +kernel, by decide⟩
theorem mvX11_nearest : MV mX11_nearest 2 := ⟨mkX11_nearest, use_t (i := 980) (by decide +kernel) rfl, use_t (i := 981) (by decide +kernel) rfl⟩
def mX11_enough : MD := (yX11_enough, cX11_enough, 5, (Option.some FieldType.int))
theorem mkX11_enough : MK mX11_enough 2 := ⟨use_t (i := 1013) (by decide +kernel) rfl, use_t (i := 1) (by decide +kernel) rfl, by decide +kernel, by decide⟩
theorem mvX11_enough : MV mX11_enough 2 := ⟨mkX11_enough, use_t (i := 1011) (by decide +kernel) rfl, use_t (i := 1012) (by decide +kernel) rfl⟩
def mX11_join : MD := (yX11_join, cX11_join, 5, (Option.some FieldType.boolean))
theorem mkX11_join : MK mX11_join 3 := ⟨use_t (i := 1017) (by decide +kernel) rfl, use_t (i := 1) (by decide +kernel) rfl, by decide +kernel, by decide⟩
theorem mvX11_join : MV mX11_join 3 := ⟨mkX11_join, use_t (i := 1015) (by decide +kernel) rfl, use_t (i := 1016) (by decide +kernel) rfl⟩
def mX11_drop : MD := (yX11_drop, cX11_drop, 4, (Option.some FieldType.boolean))
theorem mkX11_drop : MK mX11_drop 2 := ⟨use_t (i := 1021) (by decide +kernel) rfl, use_t (i := 1) (by decide +kernel) rfl, by decide +kernel, by decide⟩
theorem mvX11_drop : MV mX11_drop 2 := ⟨mkX11_drop, use_t (i := 1019) (by decide +kernel) rfl, use_t (i := 1020) (by decide +kernel) rfl⟩
def mX11_lead : MD := (yX11_lead, cX11_lead, 4, (Option.some FieldType.boolean))
theorem mkX11_lead : MK mX11_lead 2 := ⟨use_t (i := 1026) (by decide +kernel) rfl, use_t (i := 1) (by decide +kernel) rfl, by decide +kernel, by decide⟩
theorem mvX11_lead : MV mX11_lead 2 := ⟨mkX11_lead, use_t (i := 1024) (by decide +kernel) rfl, use_t (i := 1025) (by decide +kernel) rfl⟩
def mX11_tried : MD := (yX11_tried, cX11_tried, 3, (Option.some FieldType.int))
theorem mkX11_tried : MK mX11_tried 2 := ⟨use_t (i := 1030) (by decide +kernel) rfl, use_t (i := 1) (by decide +kernel) rfl, by decide +kernel, by decide⟩
theorem mvX11_tried : MV mX11_tried 2 := ⟨mkX11_tried, use_t (i := 1028) (by decide +kernel) rfl, use_t (i := 1029) (by decide +kernel) rfl⟩
def mX11_side : MD := (yX11_side, cX11_side, 9, (Option.some FieldType.long))
theorem mkX11_side : MK mX11_side 7 := ⟨use_t (i := 1084) (by decide +kernel) rfl, use_t (i := 1) (by decide +kernel) rfl, by decide +kernel, by decide⟩
theorem mvX11_side : MV mX11_side 7 := ⟨mkX11_side, use_t (i := 1082) (by decide +kernel) rfl, use_t (i := 1083) (by decide +kernel) rfl⟩
def mX11_spell : MD := (yX11_spell, cX11_spell, 3, (Option.some FieldType.int))
theorem mkX11_spell : MK mX11_spell 1 := ⟨use_t (i := 1096) (by decide +kernel) rfl, use_t (i := 1) (by decide +kernel) rfl, by decide +kernel, by decide⟩
theorem mvX11_spell : MV mX11_spell 1 := ⟨mkX11_spell, use_t (i := 1094) (by decide +kernel) rfl, use_t (i := 1095) (by decide +kernel) rfl⟩
def mX11_write : MD := (yX11_write, cX11_write, 5, (Option.some FieldType.int))
theorem mkX11_write : MK mX11_write 3 := ⟨use_t (i := 1126) (by decide +kernel) rfl, use_t (i := 1) (by decide +kernel) rfl, by decide +kernel, by decide⟩
theorem mvX11_write : MV mX11_write 3 := ⟨mkX11_write, use_t (i := 1124) (by decide +kernel) rfl, use_t (i := 1125) (by decide +kernel) rfl⟩
def mX11_out : MD := (yX11_out, cX11_out, 2, (Option.some FieldType.int))
theorem mkX11_out : MK mX11_out 1 := ⟨use_t (i := 1135) (by decide +kernel) rfl, use_t (i := 1) (by decide +kernel) rfl, by decide +kernel, by decide⟩
theorem mvX11_out : MV mX11_out 1 := ⟨mkX11_out, use_t (i := 1133) (by decide +kernel) rfl, use_t (i := 1134) (by decide +kernel) rfl⟩
def mX11_look : MD := (yX11_look, cX11_look, 2, (Option.some FieldType.int))
theorem mkX11_look : MK mX11_look 1 := ⟨use_t (i := 1139) (by decide +kernel) rfl, use_t (i := 1) (by decide +kernel) rfl, by decide +kernel, by decide⟩
theorem mvX11_look : MV mX11_look 1 := ⟨mkX11_look, use_t (i := 1137) (by decide +kernel) rfl, use_t (i := 1138) (by decide +kernel) rfl⟩
def mX11_isSlot : MD := (yX11_isSlot, cX11_isSlot, 1, (Option.some FieldType.boolean))
theorem mkX11_isSlot : MK mX11_isSlot 1 := ⟨use_t (i := 431) (by decide +kernel) rfl, use_t (i := 1) (by decide +kernel) rfl, by decide +kernel, by decide⟩
theorem msX11_isSlot : MS mX11_isSlot 1 := ⟨mkX11_isSlot, use_t (i := 430) (by decide +kernel) rfl⟩
def mX11_hasTerms : MD := (yX11_hasTerms, cX11_hasTerms, 2, (Option.some FieldType.boolean))
theorem mkX11_hasTerms : MK mX11_hasTerms 1 := ⟨use_t (i := 629) (by decide +kernel) rfl, use_t (i := 1) (by decide +kernel) rfl, by decide +kernel, by decide⟩
theorem mvX11_hasTerms : MV mX11_hasTerms 1 := ⟨mkX11_hasTerms, use_t (i := 628) (by decide +kernel) rfl, use_p (i := 8) (by decide +kernel) rfl⟩
def mX11_hasTerm : MD := (yX11_hasTerm, cX11_hasTerm, 3, (Option.some FieldType.boolean))
theorem mkX11_hasTerm : MK mX11_hasTerm 2 := ⟨use_t (i := 814) (by decide +kernel) rfl, use_t (i := 1) (by decide +kernel) rfl, by decide +kernel, by decide⟩
theorem mvX11_hasTerm : MV mX11_hasTerm 2 := ⟨mkX11_hasTerm, use_t (i := 813) (by decide +kernel) rfl, use_p (i := 29) (by decide +kernel) rfl⟩
def mX11_isNumber : MD := (yX11_isNumber, cX11_isNumber, 1, (Option.some FieldType.boolean))
theorem mkX11_isNumber : MK mX11_isNumber 1 := ⟨use_t (i := 697) (by decide +kernel) rfl, use_t (i := 1) (by decide +kernel) rfl, by decide +kernel, by decide⟩
theorem msX11_isNumber : MS mX11_isNumber 1 := ⟨mkX11_isNumber, use_t (i := 696) (by decide +kernel) rfl⟩
def mX11_isRange : MD := (yX11_isRange, cX11_isRange, 2, (Option.some FieldType.boolean))
theorem mkX11_isRange : MK mX11_isRange 2 := ⟨use_t (i := 878) (by decide +kernel) rfl, use_t (i := 1) (by decide +kernel) rfl, by decide +kernel, by decide⟩
theorem msX11_isRange : MS mX11_isRange 2 := ⟨mkX11_isRange, use_t (i := 877) (by decide +kernel) rfl⟩
def mX11_isModulus : MD := (yX11_isModulus, cX11_isModulus, 1, (Option.some FieldType.boolean))
theorem mkX11_isModulus : MK mX11_isModulus 1 := ⟨use_t (i := 885) (by decide +kernel) rfl, use_t (i := 1) (by decide +kernel) rfl, by decide +kernel, by decide⟩
theorem msX11_isModulus : MS mX11_isModulus 1 := ⟨mkX11_isModulus, use_t (i := 884) (by decide +kernel) rfl⟩
def mX11_isClass : MD := (yX11_isClass, cX11_isClass, 2, (Option.some FieldType.boolean))
theorem mkX11_isClass : MK mX11_isClass 2 := ⟨use_t (i := 949) (by decide +kernel) rfl, use_t (i := 1) (by decide +kernel) rfl, by decide +kernel, by decide⟩
theorem msX11_isClass : MS mX11_isClass 2 := ⟨mkX11_isClass, use_t (i := 948) (by decide +kernel) rfl⟩
def mX11_isSideNumber : MD := (yX11_isSideNumber, cX11_isSideNumber, 1, (Option.some FieldType.boolean))
theorem mkX11_isSideNumber : MK mX11_isSideNumber 1 := ⟨use_t (i := 1088) (by decide +kernel) rfl, use_t (i := 1) (by decide +kernel) rfl, by decide +kernel, by decide⟩
theorem msX11_isSideNumber : MS mX11_isSideNumber 1 := ⟨mkX11_isSideNumber, use_t (i := 1087) (by decide +kernel) rfl⟩
def mX11_replaceForm : MD := (yX11_replaceForm, cX11_replaceForm, 3, (none : Option FieldType))
theorem mkX11_replaceForm : MK mX11_replaceForm 2 := ⟨use_t (i := 604) (by decide +kernel) rfl, use_t (i := 1) (by decide +kernel) rfl, by decide +kernel, by decide⟩
theorem mvX11_replaceForm : MV mX11_replaceForm 2 := ⟨mkX11_replaceForm, use_t (i := 603) (by decide +kernel) rfl, use_p (i := 7) (by decide +kernel) rfl⟩
def mX11_wayCounts : MD := (yX11_wayCounts, cX11_wayCounts, 3, (Option.some (FieldType.array FieldType.long)))
theorem mkX11_wayCounts : MK mX11_wayCounts 1 := ⟨use_t (i := 633) (by decide +kernel) rfl, use_t (i := 1) (by decide +kernel) rfl, by decide +kernel, by decide⟩
theorem mvX11_wayCounts : MV mX11_wayCounts 1 := ⟨mkX11_wayCounts, use_t (i := 632) (by decide +kernel) rfl, use_p (i := 9) (by decide +kernel) rfl⟩
def mX11_unlikeCounts : MD := (yX11_unlikeCounts, cX11_unlikeCounts, 3, (Option.some (FieldType.array FieldType.long)))
theorem mkX11_unlikeCounts : MK mX11_unlikeCounts 1 := ⟨use_t (i := 829) (by decide +kernel) rfl, use_t (i := 1) (by decide +kernel) rfl, by decide +kernel, by decide⟩
theorem mvX11_unlikeCounts : MV mX11_unlikeCounts 1 := ⟨mkX11_unlikeCounts, use_t (i := 828) (by decide +kernel) rfl, use_p (i := 30) (by decide +kernel) rfl⟩
def mX11_takeWay : MD := (yX11_takeWay, cX11_takeWay, 14, (none : Option FieldType))
theorem mkX11_takeWay : MK mX11_takeWay 3 := ⟨use_t (i := 857) (by decide +kernel) rfl, use_t (i := 1) (by decide +kernel) rfl, by decide +kernel, by decide⟩
theorem mvX11_takeWay : MV mX11_takeWay 3 := ⟨mkX11_takeWay, use_t (i := 856) (by decide +kernel) rfl, use_p (i := 32) (by decide +kernel) rfl⟩
def mX11_rowIsWay : MD := (yX11_rowIsWay, cX11_rowIsWay, 5, (Option.some FieldType.boolean))
theorem mkX11_rowIsWay : MK mX11_rowIsWay 2 := ⟨use_t (i := 867) (by decide +kernel) rfl, use_t (i := 1) (by decide +kernel) rfl, by decide +kernel, by decide⟩
theorem mvX11_rowIsWay : MV mX11_rowIsWay 2 := ⟨mkX11_rowIsWay, use_t (i := 866) (by decide +kernel) rfl, use_p (i := 33) (by decide +kernel) rfl⟩
def mX11_waysAhead : MD := (yX11_waysAhead, cX11_waysAhead, 9, (Option.some FieldType.long))
theorem mkX11_waysAhead : MK mX11_waysAhead 2 := ⟨use_t (i := 871) (by decide +kernel) rfl, use_t (i := 1) (by decide +kernel) rfl, by decide +kernel, by decide⟩
theorem mvX11_waysAhead : MV mX11_waysAhead 2 := ⟨mkX11_waysAhead, use_t (i := 870) (by decide +kernel) rfl, use_p (i := 34) (by decide +kernel) rfl⟩
def mX11_countAhead : MD := (yX11_countAhead, cX11_countAhead, 10, (Option.some FieldType.int))
theorem mkX11_countAhead : MK mX11_countAhead 4 := ⟨use_t (i := 942) (by decide +kernel) rfl, use_t (i := 1) (by decide +kernel) rfl, by decide +kernel, by decide⟩
theorem msX11_countAhead : MS mX11_countAhead 4 := ⟨mkX11_countAhead, use_t (i := 941) (by decide +kernel) rfl⟩
def mX11_greedyX : MD := (yX11_greedyX, cX11_greedyX, 8, (Option.some FieldType.int))
theorem mkX11_greedyX : MK mX11_greedyX 3 := ⟨use_t (i := 978) (by decide +kernel) rfl, use_t (i := 1) (by decide +kernel) rfl, by decide +kernel, by decide⟩
theorem msX11_greedyX : MS mX11_greedyX 3 := ⟨mkX11_greedyX, use_t (i := 977) (by decide +kernel) rfl⟩
def mX11_spellTerm : MD := (yX11_spellTerm, cX11_spellTerm, 3, (none : Option FieldType))
theorem mkX11_spellTerm : MK mX11_spellTerm 2 := ⟨use_t (i := 1104) (by decide +kernel) rfl, use_t (i := 1) (by decide +kernel) rfl, by decide +kernel, by decide⟩
theorem mvX11_spellTerm : MV mX11_spellTerm 2 := ⟨mkX11_spellTerm, use_t (i := 1103) (by decide +kernel) rfl, use_p (i := 51) (by decide +kernel) rfl⟩
def mX11_writeLine : MD := (yX11_writeLine, cX11_writeLine, 4, (none : Option FieldType))
theorem mkX11_writeLine : MK mX11_writeLine 2 := ⟨use_t (i := 1130) (by decide +kernel) rfl, use_t (i := 1) (by decide +kernel) rfl, by decide +kernel, by decide⟩
theorem mvX11_writeLine : MV mX11_writeLine 2 := ⟨mkX11_writeLine, use_t (i := 1129) (by decide +kernel) rfl, use_p (i := 52) (by decide +kernel) rfl⟩
def mX11_kindWord : MD := (yX11_kindWord, cX11_kindWord, 1, (Option.some (FieldType.object "java/lang/String")))
theorem mkX11_kindWord : MK mX11_kindWord 1 := ⟨use_t (i := 484) (by decide +kernel) rfl, use_t (i := 1) (by decide +kernel) rfl, by decide +kernel, by decide⟩
theorem msX11_kindWord : MS mX11_kindWord 1 := ⟨mkX11_kindWord, use_t (i := 483) (by decide +kernel) rfl⟩
def mX11_powerValue : MD := (yX11_powerValue, cX11_powerValue, 5, (Option.some FieldType.long))
theorem mkX11_powerValue : MK mX11_powerValue 3 := ⟨use_t (i := 569) (by decide +kernel) rfl, use_t (i := 1) (by decide +kernel) rfl, by decide +kernel, by decide⟩
theorem msX11_powerValue : MS mX11_powerValue 3 := ⟨mkX11_powerValue, use_t (i := 568) (by decide +kernel) rfl⟩
def mX11_isBeyond : MD := (yX11_isBeyond, cX11_isBeyond, 2, (Option.some FieldType.boolean))
theorem mkX11_isBeyond : MK mX11_isBeyond 1 := ⟨use_t (i := 573) (by decide +kernel) rfl, use_t (i := 1) (by decide +kernel) rfl, by decide +kernel, by decide⟩
theorem msX11_isBeyond : MS mX11_isBeyond 1 := ⟨mkX11_isBeyond, use_t (i := 572) (by decide +kernel) rfl⟩
def mX11_greatestX : MD := (yX11_greatestX, cX11_greatestX, 3, (Option.some FieldType.int))
theorem mkX11_greatestX : MK mX11_greatestX 2 := ⟨use_t (i := 594) (by decide +kernel) rfl, use_t (i := 1) (by decide +kernel) rfl, by decide +kernel, by decide⟩
theorem msX11_greatestX : MS mX11_greatestX 2 := ⟨mkX11_greatestX, use_t (i := 593) (by decide +kernel) rfl⟩
def mX12_isIn : MD := (yX12_isIn, cX12_isIn, 6, (Option.some FieldType.boolean))
theorem mkX12_isIn : MK mX12_isIn 3 := ⟨use_t (i := 1312) (by decide +kernel) rfl, use_t (i := 13) (by decide +kernel) rfl, by decide +kernel, by decide⟩
theorem msX12_isIn : MS mX12_isIn 3 := ⟨mkX12_isIn, use_t (i := 1311) (by decide +kernel) rfl⟩
def mX12_one : MD := (yX12_one, cX12_one, 1, (Option.some FieldType.int))
theorem mkX12_one : MK mX12_one 1 := ⟨use_t (i := 1582) (by decide +kernel) rfl, use_t (i := 13) (by decide +kernel) rfl, by decide +kernel, by decide⟩
theorem msX12_one : MS mX12_one 1 := ⟨mkX12_one, use_t (i := 1581) (by decide +kernel) rfl⟩
def mX12_init : MD := (yX12_init, cX12_init, 1, (none : Option FieldType))
theorem mkX12_init : MK mX12_init 0 := ⟨use_t (i := 1144) (by decide +kernel) rfl, use_t (i := 13) (by decide +kernel) rfl, by decide +kernel, by decide⟩
theorem mnX12_init : MN mX12_init 0 := ⟨mkX12_init, use_t (i := 1143) (by decide +kernel) rfl, rfl, rfl⟩
def mX12_of : MD := (yX12_of, cX12_of, 4, (Option.some FieldType.int))
theorem mkX12_of : MK mX12_of 3 := ⟨use_t (i := 1400) (by decide +kernel) rfl, use_t (i := 13) (by decide +kernel) rfl, by decide +kernel, by decide⟩
theorem mvX12_of : MV mX12_of 3 := ⟨mkX12_of, use_t (i := 1399) (by decide +kernel) rfl, use_p (i := 66) (by decide +kernel) rfl⟩
def mX12_plain : MD := (yX12_plain, cX12_plain, 3, (Option.some FieldType.long))
theorem mkX12_plain : MK mX12_plain 2 := ⟨use_t (i := 1377) (by decide +kernel) rfl, use_t (i := 13) (by decide +kernel) rfl, by decide +kernel, by decide⟩
theorem msX12_plain : MS mX12_plain 2 := ⟨mkX12_plain, use_t (i := 1376) (by decide +kernel) rfl⟩
def mX12_valueOf : MD := (yX12_valueOf, cX12_valueOf, 5, (Option.some FieldType.long))
theorem mkX12_valueOf : MK mX12_valueOf 3 := ⟨use_t (i := 1396) (by decide +kernel) rfl, use_t (i := 13) (by decide +kernel) rfl, by decide +kernel, by decide⟩
theorem mvX12_valueOf : MV mX12_valueOf 3 := ⟨mkX12_valueOf, use_t (i := 1395) (by decide +kernel) rfl, use_p (i := 65) (by decide +kernel) rfl⟩
def mX12_isSmall : MD := (yX12_isSmall, cX12_isSmall, 2, (Option.some FieldType.boolean))
theorem mkX12_isSmall : MK mX12_isSmall 1 := ⟨use_t (i := 1403) (by decide +kernel) rfl, use_t (i := 13) (by decide +kernel) rfl, by decide +kernel, by decide⟩
theorem msX12_isSmall : MS mX12_isSmall 1 := ⟨mkX12_isSmall, use_t (i := 1402) (by decide +kernel) rfl⟩
def mX12_isSlot : MD := (yX12_isSlot, cX12_isSlot, 1, (Option.some FieldType.boolean))
theorem mkX12_isSlot : MK mX12_isSlot 1 := ⟨use_t (i := 1339) (by decide +kernel) rfl, use_t (i := 13) (by decide +kernel) rfl, by decide +kernel, by decide⟩
theorem msX12_isSlot : MS mX12_isSlot 1 := ⟨mkX12_isSlot, use_t (i := 1338) (by decide +kernel) rfl⟩
def mX12_isForm : MD := (yX12_isForm, cX12_isForm, 2, (Option.some FieldType.boolean))
theorem mkX12_isForm : MK mX12_isForm 1 := ⟨use_t (i := 1429) (by decide +kernel) rfl, use_t (i := 13) (by decide +kernel) rfl, by decide +kernel, by decide⟩
theorem mvX12_isForm : MV mX12_isForm 1 := ⟨mkX12_isForm, use_t (i := 1428) (by decide +kernel) rfl, use_p (i := 71) (by decide +kernel) rfl⟩
def mX12_isTerm : MD := (yX12_isTerm, cX12_isTerm, 3, (Option.some FieldType.boolean))
theorem mkX12_isTerm : MK mX12_isTerm 2 := ⟨use_t (i := 1490) (by decide +kernel) rfl, use_t (i := 13) (by decide +kernel) rfl, by decide +kernel, by decide⟩
theorem mvX12_isTerm : MV mX12_isTerm 2 := ⟨mkX12_isTerm, use_t (i := 1489) (by decide +kernel) rfl, use_p (i := 83) (by decide +kernel) rfl⟩
def mX12_greatest : MD := (yX12_greatest, cX12_greatest, 3, (Option.some FieldType.int))
theorem mkX12_greatest : MK mX12_greatest 2 := ⟨use_t (i := 1374) (by decide +kernel) rfl, use_t (i := 13) (by decide +kernel) rfl, by decide +kernel, by decide⟩
theorem msX12_greatest : MS mX12_greatest 2 := ⟨mkX12_greatest, use_t (i := 1373) (by decide +kernel) rfl⟩
def mX12_four : MD := (yX12_four, cX12_four, 3, (none : Option FieldType))
theorem mkX12_four : MK mX12_four 1 := ⟨use_t (i := 1305) (by decide +kernel) rfl, use_t (i := 13) (by decide +kernel) rfl, by decide +kernel, by decide⟩
theorem mvX12_four : MV mX12_four 1 := ⟨mkX12_four, use_t (i := 1304) (by decide +kernel) rfl, use_p (i := 53) (by decide +kernel) rfl⟩
def mX12_feed : MD := (yX12_feed, cX12_feed, 6, (Option.some FieldType.int))
theorem mkX12_feed : MK mX12_feed 5 := ⟨use_t (i := 1301) (by decide +kernel) rfl, use_t (i := 13) (by decide +kernel) rfl, by decide +kernel, by decide⟩
theorem mvX12_feed : MV mX12_feed 5 := ⟨mkX12_feed, use_t (i := 1299) (by decide +kernel) rfl, use_t (i := 1300) (by decide +kernel) rfl⟩
def mX12_end : MD := (yX12_end, cX12_end, 2, (Option.some FieldType.boolean))
theorem mkX12_end : MK mX12_end 1 := ⟨use_t (i := 1309) (by decide +kernel) rfl, use_t (i := 13) (by decide +kernel) rfl, by decide +kernel, by decide⟩
theorem mvX12_end : MV mX12_end 1 := ⟨mkX12_end, use_t (i := 1307) (by decide +kernel) rfl, use_t (i := 1308) (by decide +kernel) rfl⟩
def mX12_see : MD := (yX12_see, cX12_see, 2, (Option.some FieldType.int))
theorem mkX12_see : MK mX12_see 1 := ⟨use_t (i := 1332) (by decide +kernel) rfl, use_t (i := 13) (by decide +kernel) rfl, by decide +kernel, by decide⟩
theorem mvX12_see : MV mX12_see 1 := ⟨mkX12_see, use_t (i := 1331) (by decide +kernel) rfl, use_p (i := 56) (by decide +kernel) rfl⟩
def mX12_next : MD := (yX12_next, cX12_next, 2, (none : Option FieldType))
theorem mkX12_next : MK mX12_next 0 := ⟨use_t (i := 1328) (by decide +kernel) rfl, use_t (i := 13) (by decide +kernel) rfl, by decide +kernel, by decide⟩
theorem mvX12_next : MV mX12_next 0 := ⟨mkX12_next, use_t (i := 1327) (by decide +kernel) rfl, use_p (i := 55) (by decide +kernel) rfl⟩
def mX12_fails : MD := (yX12_fails, cX12_fails, 2, (Option.some FieldType.boolean))
theorem mkX12_fails : MK mX12_fails 1 := ⟨use_t (i := 1370) (by decide +kernel) rfl, use_t (i := 13) (by decide +kernel) rfl, by decide +kernel, by decide⟩
theorem mvX12_fails : MV mX12_fails 1 := ⟨mkX12_fails, use_t (i := 1369) (by decide +kernel) rfl, use_p (i := 61) (by decide +kernel) rfl⟩
def mX12_packed : MD := (yX12_packed, cX12_packed, 4, (Option.some FieldType.long))
theorem mkX12_packed : MK mX12_packed 1 := ⟨use_t (i := 1361) (by decide +kernel) rfl, use_t (i := 13) (by decide +kernel) rfl, by decide +kernel, by decide⟩
theorem msX12_packed : MS mX12_packed 1 := ⟨mkX12_packed, use_t (i := 1360) (by decide +kernel) rfl⟩
def mX12_isWord : MD := (yX12_isWord, cX12_isWord, 2, (Option.some FieldType.boolean))
theorem mkX12_isWord : MK mX12_isWord 1 := ⟨use_t (i := 1357) (by decide +kernel) rfl, use_t (i := 13) (by decide +kernel) rfl, by decide +kernel, by decide⟩
theorem mvX12_isWord : MV mX12_isWord 1 := ⟨mkX12_isWord, use_t (i := 1356) (by decide +kernel) rfl, use_p (i := 60) (by decide +kernel) rfl⟩
def mX12_isSign : MD := (yX12_isSign, cX12_isSign, 2, (Option.some FieldType.boolean))
theorem mkX12_isSign : MK mX12_isSign 1 := ⟨use_t (i := 1388) (by decide +kernel) rfl, use_t (i := 13) (by decide +kernel) rfl, by decide +kernel, by decide⟩
theorem mvX12_isSign : MV mX12_isSign 1 := ⟨mkX12_isSign, use_t (i := 1387) (by decide +kernel) rfl, use_p (i := 63) (by decide +kernel) rfl⟩
def mX12_isNumber : MD := (yX12_isNumber, cX12_isNumber, 1, (Option.some FieldType.boolean))
theorem mkX12_isNumber : MK mX12_isNumber 0 := ⟨use_t (i := 1348) (by decide +kernel) rfl, use_t (i := 13) (by decide +kernel) rfl, by decide +kernel, by decide⟩
theorem mvX12_isNumber : MV mX12_isNumber 0 := ⟨mkX12_isNumber, use_t (i := 1347) (by decide +kernel) rfl, use_p (i := 58) (by decide +kernel) rfl⟩
def mX12_takesSign : MD := (yX12_takesSign, cX12_takesSign, 2, (Option.some FieldType.boolean))
theorem mkX12_takesSign : MK mX12_takesSign 1 := ⟨use_t (i := 1409) (by decide +kernel) rfl, use_t (i := 13) (by decide +kernel) rfl, by decide +kernel, by decide⟩
theorem mvX12_takesSign : MV mX12_takesSign 1 := ⟨mkX12_takesSign, use_t (i := 1408) (by decide +kernel) rfl, use_p (i := 67) (by decide +kernel) rfl⟩
def mX12_begins : MD := (yX12_begins, cX12_begins, 1, (none : Option FieldType))
theorem mkX12_begins : MK mX12_begins 0 := ⟨use_t (i := 1324) (by decide +kernel) rfl, use_t (i := 13) (by decide +kernel) rfl, by decide +kernel, by decide⟩
theorem mvX12_begins : MV mX12_begins 0 := ⟨mkX12_begins, use_t (i := 1323) (by decide +kernel) rfl, use_p (i := 54) (by decide +kernel) rfl⟩
def mX12_isRead : MD := (yX12_isRead, cX12_isRead, 1, (Option.some FieldType.boolean))
theorem mkX12_isRead : MK mX12_isRead 0 := ⟨use_t (i := 1413) (by decide +kernel) rfl, use_t (i := 13) (by decide +kernel) rfl, by decide +kernel, by decide⟩
theorem mvX12_isRead : MV mX12_isRead 0 := ⟨mkX12_isRead, use_t (i := 1412) (by decide +kernel) rfl, use_p (i := 68) (by decide +kernel) rfl⟩
def mX12_fault : MD := (yX12_fault, cX12_fault, 2, (Option.some FieldType.int))
theorem mkX12_fault : MK mX12_fault 1 := ⟨use_t (i := 1316) (by decide +kernel) rfl, use_t (i := 13) (by decide +kernel) rfl, by decide +kernel, by decide⟩
theorem mvX12_fault : MV mX12_fault 1 := ⟨mkX12_fault, use_t (i := 1314) (by decide +kernel) rfl, use_t (i := 1315) (by decide +kernel) rfl⟩
def mX12_kindHere : MD := (yX12_kindHere, cX12_kindHere, 1, (Option.some FieldType.int))
theorem mkX12_kindHere : MK mX12_kindHere 0 := ⟨use_t (i := 1352) (by decide +kernel) rfl, use_t (i := 13) (by decide +kernel) rfl, by decide +kernel, by decide⟩
theorem mvX12_kindHere : MV mX12_kindHere 0 := ⟨mkX12_kindHere, use_t (i := 1351) (by decide +kernel) rfl, use_p (i := 59) (by decide +kernel) rfl⟩
def mX12_comesToWhole : MD := (yX12_comesToWhole, cX12_comesToWhole, 1, (Option.some FieldType.boolean))
theorem mkX12_comesToWhole : MK mX12_comesToWhole 0 := ⟨use_t (i := 1384) (by decide +kernel) rfl, use_t (i := 13) (by decide +kernel) rfl, by decide +kernel, by decide⟩
theorem mvX12_comesToWhole : MV mX12_comesToWhole 0 := ⟨mkX12_comesToWhole, use_t (i := 1383) (by decide +kernel) rfl, use_p (i := 62) (by decide +kernel) rfl⟩
def mX12_whole : MD := (yX12_whole, cX12_whole, 1, (Option.some FieldType.int))
theorem mkX12_whole : MK mX12_whole 0 := ⟨use_t (i := 1392) (by decide +kernel) rfl, use_t (i := 13) (by decide +kernel) rfl, by decide +kernel, by decide⟩
theorem mvX12_whole : MV mX12_whole 0 := ⟨mkX12_whole, use_t (i := 1391) (by decide +kernel) rfl, use_p (i := 64) (by decide +kernel) rfl⟩
def mX12_readTerm : MD := (yX12_readTerm, cX12_readTerm, 5, (Option.some FieldType.boolean))
theorem mkX12_readTerm : MK mX12_readTerm 0 := ⟨use_t (i := 1344) (by decide +kernel) rfl, use_t (i := 13) (by decide +kernel) rfl, by decide +kernel, by decide⟩
theorem mvX12_readTerm : MV mX12_readTerm 0 := ⟨mkX12_readTerm, use_t (i := 1343) (by decide +kernel) rfl, use_p (i := 57) (by decide +kernel) rfl⟩
def mX12_copies : MD := (yX12_copies, cX12_copies, 6, (none : Option FieldType))
theorem mkX12_copies : MK mX12_copies 4 := ⟨use_t (i := 1421) (by decide +kernel) rfl, use_t (i := 13) (by decide +kernel) rfl, by decide +kernel, by decide⟩
theorem mvX12_copies : MV mX12_copies 4 := ⟨mkX12_copies, use_t (i := 1420) (by decide +kernel) rfl, use_p (i := 70) (by decide +kernel) rfl⟩
def mX12_takesOver : MD := (yX12_takesOver, cX12_takesOver, 3, (none : Option FieldType))
theorem mkX12_takesOver : MK mX12_takesOver 1 := ⟨use_t (i := 1417) (by decide +kernel) rfl, use_t (i := 13) (by decide +kernel) rfl, by decide +kernel, by decide⟩
theorem mvX12_takesOver : MV mX12_takesOver 1 := ⟨mkX12_takesOver, use_t (i := 1416) (by decide +kernel) rfl, use_p (i := 69) (by decide +kernel) rfl⟩
def mX12_form : MD := (yX12_form, cX12_form, 4, (Option.some FieldType.int))
theorem mkX12_form : MK mX12_form 1 := ⟨use_t (i := 1320) (by decide +kernel) rfl, use_t (i := 13) (by decide +kernel) rfl, by decide +kernel, by decide⟩
theorem mvX12_form : MV mX12_form 1 := ⟨mkX12_form, use_t (i := 1318) (by decide +kernel) rfl, use_t (i := 1319) (by decide +kernel) rfl⟩
def mX12_laysLayer : MD := (yX12_laysLayer, cX12_laysLayer, 11, (none : Option FieldType))
theorem mkX12_laysLayer : MK mX12_laysLayer 6 := ⟨use_t (i := 1445) (by decide +kernel) rfl, use_t (i := 13) (by decide +kernel) rfl, by decide +kernel, by decide⟩
theorem mvX12_laysLayer : MV mX12_laysLayer 6 := ⟨mkX12_laysLayer, use_t (i := 1444) (by decide +kernel) rfl, use_p (i := 74) (by decide +kernel) rfl⟩
def mX12_at : MD := (yX12_at, cX12_at, 4, (Option.some FieldType.long))
theorem mkX12_at : MK mX12_at 2 := ⟨use_t (i := 1449) (by decide +kernel) rfl, use_t (i := 13) (by decide +kernel) rfl, by decide +kernel, by decide⟩
theorem mvX12_at : MV mX12_at 2 := ⟨mkX12_at, use_t (i := 1448) (by decide +kernel) rfl, use_p (i := 75) (by decide +kernel) rfl⟩
def mX12_laysNought : MD := (yX12_laysNought, cX12_laysNought, 3, (none : Option FieldType))
theorem mkX12_laysNought : MK mX12_laysNought 1 := ⟨use_t (i := 1441) (by decide +kernel) rfl, use_t (i := 13) (by decide +kernel) rfl, by decide +kernel, by decide⟩
theorem mvX12_laysNought : MV mX12_laysNought 1 := ⟨mkX12_laysNought, use_t (i := 1440) (by decide +kernel) rfl, use_p (i := 73) (by decide +kernel) rfl⟩
def mX12_lays : MD := (yX12_lays, cX12_lays, 4, (none : Option FieldType))
theorem mkX12_lays : MK mX12_lays 1 := ⟨use_t (i := 1437) (by decide +kernel) rfl, use_t (i := 13) (by decide +kernel) rfl, by decide +kernel, by decide⟩
theorem mvX12_lays : MV mX12_lays 1 := ⟨mkX12_lays, use_t (i := 1436) (by decide +kernel) rfl, use_p (i := 72) (by decide +kernel) rfl⟩
def mX12_waysOf : MD := (yX12_waysOf, cX12_waysOf, 2, (Option.some FieldType.long))
theorem mkX12_waysOf : MK mX12_waysOf 1 := ⟨use_t (i := 1454) (by decide +kernel) rfl, use_t (i := 13) (by decide +kernel) rfl, by decide +kernel, by decide⟩
theorem mvX12_waysOf : MV mX12_waysOf 1 := ⟨mkX12_waysOf, use_t (i := 1453) (by decide +kernel) rfl, use_p (i := 76) (by decide +kernel) rfl⟩
def mX12_isN : MD := (yX12_isN, cX12_isN, 1, (Option.some FieldType.boolean))
theorem mkX12_isN : MK mX12_isN 1 := ⟨use_t (i := 1432) (by decide +kernel) rfl, use_t (i := 13) (by decide +kernel) rfl, by decide +kernel, by decide⟩
theorem msX12_isN : MS mX12_isN 1 := ⟨mkX12_isN, use_t (i := 1431) (by decide +kernel) rfl⟩
def mX12_ways : MD := (yX12_ways, cX12_ways, 3, (Option.some FieldType.long))
theorem mkX12_ways : MK mX12_ways 2 := ⟨use_t (i := 1425) (by decide +kernel) rfl, use_t (i := 13) (by decide +kernel) rfl, by decide +kernel, by decide⟩
theorem mvX12_ways : MV mX12_ways 2 := ⟨mkX12_ways, use_t (i := 1423) (by decide +kernel) rfl, use_t (i := 1424) (by decide +kernel) rfl⟩
def mX12_areLike : MD := (yX12_areLike, cX12_areLike, 5, (Option.some FieldType.boolean))
theorem mkX12_areLike : MK mX12_areLike 3 := ⟨use_t (i := 1470) (by decide +kernel) rfl, use_t (i := 13) (by decide +kernel) rfl, by decide +kernel, by decide⟩
theorem mvX12_areLike : MV mX12_areLike 3 := ⟨mkX12_areLike, use_t (i := 1469) (by decide +kernel) rfl, use_p (i := 79) (by decide +kernel) rfl⟩
def mX12_laysUnlike : MD := (yX12_laysUnlike, cX12_laysUnlike, 6, (none : Option FieldType))
theorem mkX12_laysUnlike : MK mX12_laysUnlike 1 := ⟨use_t (i := 1462) (by decide +kernel) rfl, use_t (i := 13) (by decide +kernel) rfl, by decide +kernel, by decide⟩
theorem mvX12_laysUnlike : MV mX12_laysUnlike 1 := ⟨mkX12_laysUnlike, use_t (i := 1461) (by decide +kernel) rfl, use_p (i := 77) (by decide +kernel) rfl⟩
def mX12_turns : MD := (yX12_turns, cX12_turns, 8, (none : Option FieldType))
theorem mkX12_turns : MK mX12_turns 3 := ⟨use_t (i := 1466) (by decide +kernel) rfl, use_t (i := 13) (by decide +kernel) rfl, by decide +kernel, by decide⟩
theorem mvX12_turns : MV mX12_turns 3 := ⟨mkX12_turns, use_t (i := 1465) (by decide +kernel) rfl, use_p (i := 78) (by decide +kernel) rfl⟩
def mX12_sorts : MD := (yX12_sorts, cX12_sorts, 5, (none : Option FieldType))
theorem mkX12_sorts : MK mX12_sorts 1 := ⟨use_t (i := 1474) (by decide +kernel) rfl, use_t (i := 13) (by decide +kernel) rfl, by decide +kernel, by decide⟩
theorem mvX12_sorts : MV mX12_sorts 1 := ⟨mkX12_sorts, use_t (i := 1473) (by decide +kernel) rfl, use_p (i := 80) (by decide +kernel) rfl⟩
def mX12_isKind : MD := (yX12_isKind, cX12_isKind, 3, (Option.some FieldType.boolean))
theorem mkX12_isKind : MK mX12_isKind 1 := ⟨use_t (i := 1478) (by decide +kernel) rfl, use_t (i := 13) (by decide +kernel) rfl, by decide +kernel, by decide⟩
theorem mvX12_isKind : MV mX12_isKind 1 := ⟨mkX12_isKind, use_t (i := 1477) (by decide +kernel) rfl, use_p (i := 81) (by decide +kernel) rfl⟩
def mX12_laysRounds : MD := (yX12_laysRounds, cX12_laysRounds, 6, (none : Option FieldType))
theorem mkX12_laysRounds : MK mX12_laysRounds 2 := ⟨use_t (i := 1482) (by decide +kernel) rfl, use_t (i := 13) (by decide +kernel) rfl, by decide +kernel, by decide⟩
theorem mvX12_laysRounds : MV mX12_laysRounds 2 := ⟨mkX12_laysRounds, use_t (i := 1481) (by decide +kernel) rfl, use_p (i := 82) (by decide +kernel) rfl⟩
def mX12_unlike : MD := (yX12_unlike, cX12_unlike, 3, (Option.some FieldType.long))
theorem mkX12_unlike : MK mX12_unlike 2 := ⟨use_t (i := 1458) (by decide +kernel) rfl, use_t (i := 13) (by decide +kernel) rfl, by decide +kernel, by decide⟩
theorem mvX12_unlike : MV mX12_unlike 2 := ⟨mkX12_unlike, use_t (i := 1456) (by decide +kernel) rfl, use_t (i := 1457) (by decide +kernel) rfl⟩
def mX12_finds : MD := (yX12_finds, cX12_finds, 11, (Option.some FieldType.boolean))
theorem mkX12_finds : MK mX12_finds 3 := ⟨use_t (i := 1494) (by decide +kernel) rfl, use_t (i := 13) (by decide +kernel) rfl, by decide +kernel, by decide⟩
theorem mvX12_finds : MV mX12_finds 3 := ⟨mkX12_finds, use_t (i := 1493) (by decide +kernel) rfl, use_p (i := 84) (by decide +kernel) rfl⟩
def mX12_way : MD := (yX12_way, cX12_way, 6, (Option.some FieldType.int))
theorem mkX12_way : MK mX12_way 4 := ⟨use_t (i := 1486) (by decide +kernel) rfl, use_t (i := 13) (by decide +kernel) rfl, by decide +kernel, by decide⟩
theorem mvX12_way : MV mX12_way 4 := ⟨mkX12_way, use_t (i := 1484) (by decide +kernel) rfl, use_t (i := 1485) (by decide +kernel) rfl⟩
def mX12_number : MD := (yX12_number, cX12_number, 14, (Option.some FieldType.long))
theorem mkX12_number : MK mX12_number 7 := ⟨use_t (i := 1499) (by decide +kernel) rfl, use_t (i := 13) (by decide +kernel) rfl, by decide +kernel, by decide⟩
theorem mvX12_number : MV mX12_number 7 := ⟨mkX12_number, use_t (i := 1497) (by decide +kernel) rfl, use_t (i := 1498) (by decide +kernel) rfl⟩
def mX12_isOut : MD := (yX12_isOut, cX12_isOut, 3, (Option.some FieldType.boolean))
theorem mkX12_isOut : MK mX12_isOut 1 := ⟨use_t (i := 1512) (by decide +kernel) rfl, use_t (i := 13) (by decide +kernel) rfl, by decide +kernel, by decide⟩
theorem mvX12_isOut : MV mX12_isOut 1 := ⟨mkX12_isOut, use_t (i := 1511) (by decide +kernel) rfl, use_p (i := 86) (by decide +kernel) rfl⟩
def mX12_readLine : MD := (yX12_readLine, cX12_readLine, 4, (Option.some FieldType.boolean))
theorem mkX12_readLine : MK mX12_readLine 1 := ⟨use_t (i := 1508) (by decide +kernel) rfl, use_t (i := 13) (by decide +kernel) rfl, by decide +kernel, by decide⟩
theorem mvX12_readLine : MV mX12_readLine 1 := ⟨mkX12_readLine, use_t (i := 1507) (by decide +kernel) rfl, use_p (i := 85) (by decide +kernel) rfl⟩
def mX12_readWay : MD := (yX12_readWay, cX12_readWay, 8, (Option.some FieldType.boolean))
theorem mkX12_readWay : MK mX12_readWay 2 := ⟨use_t (i := 1517) (by decide +kernel) rfl, use_t (i := 13) (by decide +kernel) rfl, by decide +kernel, by decide⟩
theorem mvX12_readWay : MV mX12_readWay 2 := ⟨mkX12_readWay, use_t (i := 1516) (by decide +kernel) rfl, use_p (i := 87) (by decide +kernel) rfl⟩
def mX12_prove : MD := (yX12_prove, cX12_prove, 4, (Option.some FieldType.int))
theorem mkX12_prove : MK mX12_prove 1 := ⟨use_t (i := 1504) (by decide +kernel) rfl, use_t (i := 13) (by decide +kernel) rfl, by decide +kernel, by decide⟩
theorem mvX12_prove : MV mX12_prove 1 := ⟨mkX12_prove, use_t (i := 1502) (by decide +kernel) rfl, use_t (i := 1503) (by decide +kernel) rfl⟩
def mX12_puts : MD := (yX12_puts, cX12_puts, 3, (none : Option FieldType))
theorem mkX12_puts : MK mX12_puts 2 := ⟨use_t (i := 1546) (by decide +kernel) rfl, use_t (i := 13) (by decide +kernel) rfl, by decide +kernel, by decide⟩
theorem mvX12_puts : MV mX12_puts 2 := ⟨mkX12_puts, use_t (i := 1545) (by decide +kernel) rfl, use_p (i := 93) (by decide +kernel) rfl⟩
def mX12_readSum : MD := (yX12_readSum, cX12_readSum, 2, (Option.some FieldType.boolean))
theorem mkX12_readSum : MK mX12_readSum 0 := ⟨use_t (i := 1529) (by decide +kernel) rfl, use_t (i := 13) (by decide +kernel) rfl, by decide +kernel, by decide⟩
theorem mvX12_readSum : MV mX12_readSum 0 := ⟨mkX12_readSum, use_t (i := 1528) (by decide +kernel) rfl, use_p (i := 89) (by decide +kernel) rfl⟩
def mX12_readProduct : MD := (yX12_readProduct, cX12_readProduct, 1, (Option.some FieldType.boolean))
theorem mkX12_readProduct : MK mX12_readProduct 0 := ⟨use_t (i := 1533) (by decide +kernel) rfl, use_t (i := 13) (by decide +kernel) rfl, by decide +kernel, by decide⟩
theorem mvX12_readProduct : MV mX12_readProduct 0 := ⟨mkX12_readProduct, use_t (i := 1532) (by decide +kernel) rfl, use_p (i := 90) (by decide +kernel) rfl⟩
def mX12_readPower : MD := (yX12_readPower, cX12_readPower, 1, (Option.some FieldType.boolean))
theorem mkX12_readPower : MK mX12_readPower 0 := ⟨use_t (i := 1537) (by decide +kernel) rfl, use_t (i := 13) (by decide +kernel) rfl, by decide +kernel, by decide⟩
theorem mvX12_readPower : MV mX12_readPower 0 := ⟨mkX12_readPower, use_t (i := 1536) (by decide +kernel) rfl, use_p (i := 91) (by decide +kernel) rfl⟩
def mX12_readPart : MD := (yX12_readPart, cX12_readPart, 2, (Option.some FieldType.boolean))
theorem mkX12_readPart : MK mX12_readPart 0 := ⟨use_t (i := 1541) (by decide +kernel) rfl, use_t (i := 13) (by decide +kernel) rfl, by decide +kernel, by decide⟩
theorem mvX12_readPart : MV mX12_readPart 0 := ⟨mkX12_readPart, use_t (i := 1540) (by decide +kernel) rfl, use_p (i := 92) (by decide +kernel) rfl⟩
def mX12_readIdentity : MD := (yX12_readIdentity, cX12_readIdentity, 1, (Option.some FieldType.boolean))
theorem mkX12_readIdentity : MK mX12_readIdentity 0 := ⟨use_t (i := 1525) (by decide +kernel) rfl, use_t (i := 13) (by decide +kernel) rfl, by decide +kernel, by decide⟩
theorem mvX12_readIdentity : MV mX12_readIdentity 0 := ⟨mkX12_readIdentity, use_t (i := 1524) (by decide +kernel) rfl, use_p (i := 88) (by decide +kernel) rfl⟩
def mX12_identity : MD := (yX12_identity, cX12_identity, 3, (Option.some FieldType.int))
theorem mkX12_identity : MK mX12_identity 0 := ⟨use_t (i := 1521) (by decide +kernel) rfl, use_t (i := 13) (by decide +kernel) rfl, by decide +kernel, by decide⟩
theorem mvX12_identity : MV mX12_identity 0 := ⟨mkX12_identity, use_t (i := 1519) (by decide +kernel) rfl, use_t (i := 1520) (by decide +kernel) rfl⟩
def mX12_bits : MD := (yX12_bits, cX12_bits, 3, (Option.some FieldType.int))
theorem mkX12_bits : MK mX12_bits 1 := ⟨use_t (i := 1549) (by decide +kernel) rfl, use_t (i := 13) (by decide +kernel) rfl, by decide +kernel, by decide⟩
theorem msX12_bits : MS mX12_bits 1 := ⟨mkX12_bits, use_t (i := 1548) (by decide +kernel) rfl⟩
def mX12_times : MD := (yX12_times, cX12_times, 7, (Option.some FieldType.long))
theorem mkX12_times : MK mX12_times 2 := ⟨use_t (i := 1570) (by decide +kernel) rfl, use_t (i := 13) (by decide +kernel) rfl, by decide +kernel, by decide⟩
theorem mvX12_times : MV mX12_times 2 := ⟨mkX12_times, use_t (i := 1569) (by decide +kernel) rfl, use_p (i := 97) (by decide +kernel) rfl⟩
def mX12_plus : MD := (yX12_plus, cX12_plus, 7, (Option.some FieldType.long))
theorem mkX12_plus : MK mX12_plus 2 := ⟨use_t (i := 1575) (by decide +kernel) rfl, use_t (i := 13) (by decide +kernel) rfl, by decide +kernel, by decide⟩
theorem mvX12_plus : MV mX12_plus 2 := ⟨mkX12_plus, use_t (i := 1574) (by decide +kernel) rfl, use_p (i := 98) (by decide +kernel) rfl⟩
def mX12_minus : MD := (yX12_minus, cX12_minus, 7, (Option.some FieldType.long))
theorem mkX12_minus : MK mX12_minus 2 := ⟨use_t (i := 1579) (by decide +kernel) rfl, use_t (i := 13) (by decide +kernel) rfl, by decide +kernel, by decide⟩
theorem mvX12_minus : MV mX12_minus 2 := ⟨mkX12_minus, use_t (i := 1578) (by decide +kernel) rfl, use_p (i := 99) (by decide +kernel) rfl⟩
def mX12_raised : MD := (yX12_raised, cX12_raised, 7, (Option.some FieldType.long))
theorem mkX12_raised : MK mX12_raised 2 := ⟨use_t (i := 1566) (by decide +kernel) rfl, use_t (i := 13) (by decide +kernel) rfl, by decide +kernel, by decide⟩
theorem mvX12_raised : MV mX12_raised 2 := ⟨mkX12_raised, use_t (i := 1565) (by decide +kernel) rfl, use_p (i := 96) (by decide +kernel) rfl⟩
def mX12_sideTells : MD := (yX12_sideTells, cX12_sideTells, 5, (Option.some FieldType.long))
theorem mkX12_sideTells : MK mX12_sideTells 1 := ⟨use_t (i := 1562) (by decide +kernel) rfl, use_t (i := 13) (by decide +kernel) rfl, by decide +kernel, by decide⟩
theorem mvX12_sideTells : MV mX12_sideTells 1 := ⟨mkX12_sideTells, use_t (i := 1561) (by decide +kernel) rfl, use_p (i := 95) (by decide +kernel) rfl⟩
def mX12_isBroken : MD := (yX12_isBroken, cX12_isBroken, 5, (Option.some FieldType.boolean))
theorem mkX12_isBroken : MK mX12_isBroken 0 := ⟨use_t (i := 1558) (by decide +kernel) rfl, use_t (i := 13) (by decide +kernel) rfl, by decide +kernel, by decide⟩
theorem mvX12_isBroken : MV mX12_isBroken 0 := ⟨mkX12_isBroken, use_t (i := 1557) (by decide +kernel) rfl, use_p (i := 94) (by decide +kernel) rfl⟩
def mX12_goesOn : MD := (yX12_goesOn, cX12_goesOn, 3, (Option.some FieldType.boolean))
theorem mkX12_goesOn : MK mX12_goesOn 1 := ⟨use_t (i := 1586) (by decide +kernel) rfl, use_t (i := 13) (by decide +kernel) rfl, by decide +kernel, by decide⟩
theorem mvX12_goesOn : MV mX12_goesOn 1 := ⟨mkX12_goesOn, use_t (i := 1585) (by decide +kernel) rfl, use_p (i := 100) (by decide +kernel) rfl⟩
def mX12_tried : MD := (yX12_tried, cX12_tried, 6, (Option.some FieldType.int))
theorem mkX12_tried : MK mX12_tried 2 := ⟨use_t (i := 1553) (by decide +kernel) rfl, use_t (i := 13) (by decide +kernel) rfl, by decide +kernel, by decide⟩
theorem mvX12_tried : MV mX12_tried 2 := ⟨mkX12_tried, use_t (i := 1551) (by decide +kernel) rfl, use_t (i := 1552) (by decide +kernel) rfl⟩
def mX12_side : MD := (yX12_side, cX12_side, 10, (Option.some FieldType.long))
theorem mkX12_side : MK mX12_side 7 := ⟨use_t (i := 1590) (by decide +kernel) rfl, use_t (i := 13) (by decide +kernel) rfl, by decide +kernel, by decide⟩
theorem mvX12_side : MV mX12_side 7 := ⟨mkX12_side, use_t (i := 1588) (by decide +kernel) rfl, use_t (i := 1589) (by decide +kernel) rfl⟩
def mX12_term : MD := (yX12_term, cX12_term, 4, (Option.some FieldType.int))
theorem mkX12_term : MK mX12_term 3 := ⟨use_t (i := 1596) (by decide +kernel) rfl, use_t (i := 13) (by decide +kernel) rfl, by decide +kernel, by decide⟩
theorem mvX12_term : MV mX12_term 3 := ⟨mkX12_term, use_t (i := 1594) (by decide +kernel) rfl, use_t (i := 1595) (by decide +kernel) rfl⟩
def mX12_isSpan : MD := (yX12_isSpan, cX12_isSpan, 2, (Option.some FieldType.boolean))
theorem mkX12_isSpan : MK mX12_isSpan 2 := ⟨use_t (i := 1603) (by decide +kernel) rfl, use_t (i := 13) (by decide +kernel) rfl, by decide +kernel, by decide⟩
theorem msX12_isSpan : MS mX12_isSpan 2 := ⟨mkX12_isSpan, use_t (i := 1602) (by decide +kernel) rfl⟩
def mX12_missed : MD := (yX12_missed, cX12_missed, 7, (Option.some FieldType.int))
theorem mkX12_missed : MK mX12_missed 4 := ⟨use_t (i := 1600) (by decide +kernel) rfl, use_t (i := 13) (by decide +kernel) rfl, by decide +kernel, by decide⟩
theorem mvX12_missed : MV mX12_missed 4 := ⟨mkX12_missed, use_t (i := 1598) (by decide +kernel) rfl, use_t (i := 1599) (by decide +kernel) rfl⟩
def mX12_explained : MD := (yX12_explained, cX12_explained, 7, (Option.some FieldType.int))
theorem mkX12_explained : MK mX12_explained 4 := ⟨use_t (i := 1607) (by decide +kernel) rfl, use_t (i := 13) (by decide +kernel) rfl, by decide +kernel, by decide⟩
theorem mvX12_explained : MV mX12_explained 4 := ⟨mkX12_explained, use_t (i := 1605) (by decide +kernel) rfl, use_t (i := 1606) (by decide +kernel) rfl⟩
def mX12_full : MD := (yX12_full, cX12_full, 3, (Option.some FieldType.int))
theorem mkX12_full : MK mX12_full 1 := ⟨use_t (i := 1623) (by decide +kernel) rfl, use_t (i := 13) (by decide +kernel) rfl, by decide +kernel, by decide⟩
theorem mvX12_full : MV mX12_full 1 := ⟨mkX12_full, use_t (i := 1621) (by decide +kernel) rfl, use_t (i := 1622) (by decide +kernel) rfl⟩
def mX12_xs : MD := (yX12_xs, cX12_xs, 2, (Option.some FieldType.int))
theorem mkX12_xs : MK mX12_xs 2 := ⟨use_t (i := 1615) (by decide +kernel) rfl, use_t (i := 13) (by decide +kernel) rfl, by decide +kernel, by decide⟩
theorem msX12_xs : MS mX12_xs 2 := ⟨mkX12_xs, use_t (i := 1614) (by decide +kernel) rfl⟩
def mX12_classOf : MD := (yX12_classOf, cX12_classOf, 5, (Option.some FieldType.int))
theorem mkX12_classOf : MK mX12_classOf 4 := ⟨use_t (i := 1619) (by decide +kernel) rfl, use_t (i := 13) (by decide +kernel) rfl, by decide +kernel, by decide⟩
theorem mvX12_classOf : MV mX12_classOf 4 := ⟨mkX12_classOf, use_t (i := 1618) (by decide +kernel) rfl, use_p (i := 102) (by decide +kernel) rfl⟩
def mX12_laysClasses : MD := (yX12_laysClasses, cX12_laysClasses, 9, (none : Option FieldType))
theorem mkX12_laysClasses : MK mX12_laysClasses 2 := ⟨use_t (i := 1612) (by decide +kernel) rfl, use_t (i := 13) (by decide +kernel) rfl, by decide +kernel, by decide⟩
theorem mvX12_laysClasses : MV mX12_laysClasses 2 := ⟨mkX12_laysClasses, use_t (i := 1611) (by decide +kernel) rfl, use_p (i := 101) (by decide +kernel) rfl⟩
def mX12_isClass : MD := (yX12_isClass, cX12_isClass, 4, (Option.some FieldType.boolean))
theorem mkX12_isClass : MK mX12_isClass 3 := ⟨use_t (i := 1631) (by decide +kernel) rfl, use_t (i := 13) (by decide +kernel) rfl, by decide +kernel, by decide⟩
theorem mvX12_isClass : MV mX12_isClass 3 := ⟨mkX12_isClass, use_t (i := 1630) (by decide +kernel) rfl, use_p (i := 103) (by decide +kernel) rfl⟩
def mX12_met : MD := (yX12_met, cX12_met, 4, (Option.some FieldType.long))
theorem mkX12_met : MK mX12_met 3 := ⟨use_t (i := 1627) (by decide +kernel) rfl, use_t (i := 13) (by decide +kernel) rfl, by decide +kernel, by decide⟩
theorem mvX12_met : MV mX12_met 3 := ⟨mkX12_met, use_t (i := 1625) (by decide +kernel) rfl, use_t (i := 1626) (by decide +kernel) rfl⟩
def mX12_meets : MD := (yX12_meets, cX12_meets, 8, (Option.some FieldType.int))
theorem mkX12_meets : MK mX12_meets 4 := ⟨use_t (i := 1635) (by decide +kernel) rfl, use_t (i := 13) (by decide +kernel) rfl, by decide +kernel, by decide⟩
theorem mvX12_meets : MV mX12_meets 4 := ⟨mkX12_meets, use_t (i := 1633) (by decide +kernel) rfl, use_t (i := 1634) (by decide +kernel) rfl⟩
def mX12_never : MD := (yX12_never, cX12_never, 6, (Option.some FieldType.int))
theorem mkX12_never : MK mX12_never 3 := ⟨use_t (i := 1639) (by decide +kernel) rfl, use_t (i := 13) (by decide +kernel) rfl, by decide +kernel, by decide⟩
theorem mvX12_never : MV mX12_never 3 := ⟨mkX12_never, use_t (i := 1637) (by decide +kernel) rfl, use_t (i := 1638) (by decide +kernel) rfl⟩
def mX12_bars : MD := (yX12_bars, cX12_bars, 3, (Option.some FieldType.int))
theorem mkX12_bars : MK mX12_bars 1 := ⟨use_t (i := 1643) (by decide +kernel) rfl, use_t (i := 13) (by decide +kernel) rfl, by decide +kernel, by decide⟩
theorem mvX12_bars : MV mX12_bars 1 := ⟨mkX12_bars, use_t (i := 1641) (by decide +kernel) rfl, use_t (i := 1642) (by decide +kernel) rfl⟩
def mX12_many : MD := (yX12_many, cX12_many, 6, (Option.some FieldType.int))
theorem mkX12_many : MK mX12_many 4 := ⟨use_t (i := 1648) (by decide +kernel) rfl, use_t (i := 13) (by decide +kernel) rfl, by decide +kernel, by decide⟩
theorem mvX12_many : MV mX12_many 4 := ⟨mkX12_many, use_t (i := 1646) (by decide +kernel) rfl, use_t (i := 1647) (by decide +kernel) rfl⟩
def mX12_greed : MD := (yX12_greed, cX12_greed, 13, (Option.some FieldType.int))
theorem mkX12_greed : MK mX12_greed 3 := ⟨use_t (i := 1653) (by decide +kernel) rfl, use_t (i := 13) (by decide +kernel) rfl, by decide +kernel, by decide⟩
theorem mvX12_greed : MV mX12_greed 3 := ⟨mkX12_greed, use_t (i := 1651) (by decide +kernel) rfl, use_t (i := 1652) (by decide +kernel) rfl⟩
def mX12_nearest : MD := (yX12_nearest, cX12_nearest, 4, (Option.some FieldType.int))
theorem mkX12_nearest : MK mX12_nearest 2 := ⟨use_t (i := 1657) (by decide +kernel) rfl, use_t (i := 13) (by decide +kernel) rfl, by decide +kernel, by decide⟩
theorem mvX12_nearest : MV mX12_nearest 2 := ⟨mkX12_nearest, use_t (i := 1655) (by decide +kernel) rfl, use_t (i := 1656) (by decide +kernel) rfl⟩
def mX12_enough : MD := (yX12_enough, cX12_enough, 5, (Option.some FieldType.int))
theorem mkX12_enough : MK mX12_enough 2 := ⟨use_t (i := 1661) (by decide +kernel) rfl, use_t (i := 13) (by decide +kernel) rfl, by decide +kernel, by decide⟩
theorem mvX12_enough : MV mX12_enough 2 := ⟨mkX12_enough, use_t (i := 1659) (by decide +kernel) rfl, use_t (i := 1660) (by decide +kernel) rfl⟩
def mX12_join : MD := (yX12_join, cX12_join, 5, (Option.some FieldType.boolean))
theorem mkX12_join : MK mX12_join 3 := ⟨use_t (i := 1665) (by decide +kernel) rfl, use_t (i := 13) (by decide +kernel) rfl, by decide +kernel, by decide⟩
theorem mvX12_join : MV mX12_join 3 := ⟨mkX12_join, use_t (i := 1663) (by decide +kernel) rfl, use_t (i := 1664) (by decide +kernel) rfl⟩
def mX12_drop : MD := (yX12_drop, cX12_drop, 4, (Option.some FieldType.boolean))
theorem mkX12_drop : MK mX12_drop 2 := ⟨use_t (i := 1670) (by decide +kernel) rfl, use_t (i := 13) (by decide +kernel) rfl, by decide +kernel, by decide⟩
theorem mvX12_drop : MV mX12_drop 2 := ⟨mkX12_drop, use_t (i := 1668) (by decide +kernel) rfl, use_t (i := 1669) (by decide +kernel) rfl⟩
def mX12_lead : MD := (yX12_lead, cX12_lead, 4, (Option.some FieldType.boolean))
theorem mkX12_lead : MK mX12_lead 2 := ⟨use_t (i := 1674) (by decide +kernel) rfl, use_t (i := 13) (by decide +kernel) rfl, by decide +kernel, by decide⟩
theorem mvX12_lead : MV mX12_lead 2 := ⟨mkX12_lead, use_t (i := 1672) (by decide +kernel) rfl, use_t (i := 1673) (by decide +kernel) rfl⟩
def mX12_common : MD := (yX12_common, cX12_common, 8, (Option.some FieldType.int))
theorem mkX12_common : MK mX12_common 5 := ⟨use_t (i := 1678) (by decide +kernel) rfl, use_t (i := 13) (by decide +kernel) rfl, by decide +kernel, by decide⟩
theorem mvX12_common : MV mX12_common 5 := ⟨mkX12_common, use_t (i := 1676) (by decide +kernel) rfl, use_t (i := 1677) (by decide +kernel) rfl⟩
def mX12_gap : MD := (yX12_gap, cX12_gap, 9, (Option.some FieldType.int))
theorem mkX12_gap : MK mX12_gap 4 := ⟨use_t (i := 1682) (by decide +kernel) rfl, use_t (i := 13) (by decide +kernel) rfl, by decide +kernel, by decide⟩
theorem mvX12_gap : MV mX12_gap 4 := ⟨mkX12_gap, use_t (i := 1680) (by decide +kernel) rfl, use_t (i := 1681) (by decide +kernel) rfl⟩
def mX12_rank : MD := (yX12_rank, cX12_rank, 8, (Option.some FieldType.int))
theorem mkX12_rank : MK mX12_rank 4 := ⟨use_t (i := 1686) (by decide +kernel) rfl, use_t (i := 13) (by decide +kernel) rfl, by decide +kernel, by decide⟩
theorem mvX12_rank : MV mX12_rank 4 := ⟨mkX12_rank, use_t (i := 1684) (by decide +kernel) rfl, use_t (i := 1685) (by decide +kernel) rfl⟩
def mX12_says : MD := (yX12_says, cX12_says, 2, (none : Option FieldType))
theorem mkX12_says : MK mX12_says 1 := ⟨use_t (i := 1694) (by decide +kernel) rfl, use_t (i := 13) (by decide +kernel) rfl, by decide +kernel, by decide⟩
theorem mvX12_says : MV mX12_says 1 := ⟨mkX12_says, use_t (i := 1693) (by decide +kernel) rfl, use_p (i := 104) (by decide +kernel) rfl⟩
def mX12_saysWord : MD := (yX12_saysWord, cX12_saysWord, 3, (none : Option FieldType))
theorem mkX12_saysWord : MK mX12_saysWord 1 := ⟨use_t (i := 1706) (by decide +kernel) rfl, use_t (i := 13) (by decide +kernel) rfl, by decide +kernel, by decide⟩
theorem mvX12_saysWord : MV mX12_saysWord 1 := ⟨mkX12_saysWord, use_t (i := 1705) (by decide +kernel) rfl, use_p (i := 107) (by decide +kernel) rfl⟩
def mX12_saysNumber : MD := (yX12_saysNumber, cX12_saysNumber, 4, (none : Option FieldType))
theorem mkX12_saysNumber : MK mX12_saysNumber 1 := ⟨use_t (i := 1698) (by decide +kernel) rfl, use_t (i := 13) (by decide +kernel) rfl, by decide +kernel, by decide⟩
theorem mvX12_saysNumber : MV mX12_saysNumber 1 := ⟨mkX12_saysNumber, use_t (i := 1697) (by decide +kernel) rfl, use_p (i := 105) (by decide +kernel) rfl⟩
def mX12_saysKind : MD := (yX12_saysKind, cX12_saysKind, 2, (none : Option FieldType))
theorem mkX12_saysKind : MK mX12_saysKind 1 := ⟨use_t (i := 1702) (by decide +kernel) rfl, use_t (i := 13) (by decide +kernel) rfl, by decide +kernel, by decide⟩
theorem mvX12_saysKind : MV mX12_saysKind 1 := ⟨mkX12_saysKind, use_t (i := 1701) (by decide +kernel) rfl, use_p (i := 106) (by decide +kernel) rfl⟩
def mX12_spell : MD := (yX12_spell, cX12_spell, 4, (Option.some FieldType.int))
theorem mkX12_spell : MK mX12_spell 1 := ⟨use_t (i := 1690) (by decide +kernel) rfl, use_t (i := 13) (by decide +kernel) rfl, by decide +kernel, by decide⟩
theorem mvX12_spell : MV mX12_spell 1 := ⟨mkX12_spell, use_t (i := 1688) (by decide +kernel) rfl, use_t (i := 1689) (by decide +kernel) rfl⟩
def mX12_write : MD := (yX12_write, cX12_write, 6, (Option.some FieldType.int))
theorem mkX12_write : MK mX12_write 3 := ⟨use_t (i := 1712) (by decide +kernel) rfl, use_t (i := 13) (by decide +kernel) rfl, by decide +kernel, by decide⟩
theorem mvX12_write : MV mX12_write 3 := ⟨mkX12_write, use_t (i := 1710) (by decide +kernel) rfl, use_t (i := 1711) (by decide +kernel) rfl⟩
def mX12_out : MD := (yX12_out, cX12_out, 2, (Option.some FieldType.int))
theorem mkX12_out : MK mX12_out 1 := ⟨use_t (i := 1717) (by decide +kernel) rfl, use_t (i := 13) (by decide +kernel) rfl, by decide +kernel, by decide⟩
theorem mvX12_out : MV mX12_out 1 := ⟨mkX12_out, use_t (i := 1715) (by decide +kernel) rfl, use_t (i := 1716) (by decide +kernel) rfl⟩
def mX12_look : MD := (yX12_look, cX12_look, 2, (Option.some FieldType.int))
theorem mkX12_look : MK mX12_look 1 := ⟨use_t (i := 1721) (by decide +kernel) rfl, use_t (i := 13) (by decide +kernel) rfl, by decide +kernel, by decide⟩
theorem mvX12_look : MV mX12_look 1 := ⟨mkX12_look, use_t (i := 1719) (by decide +kernel) rfl, use_t (i := 1720) (by decide +kernel) rfl⟩
def mJ6_bitCount_0f7a4 : MD := (yJ6_bitCount_0f7a4, cJ6_bitCount_0f7a4, 1, (Option.some FieldType.int))
theorem mkJ6_bitCount_0f7a4 : MK mJ6_bitCount_0f7a4 1 := ⟨use_t (i := 799) (by decide +kernel) rfl, use_t (i := 19) (by decide +kernel) rfl, by decide +kernel, by decide⟩
theorem msJ6_bitCount_0f7a4 : MS mJ6_bitCount_0f7a4 1 := ⟨mkJ6_bitCount_0f7a4, use_t (i := 798) (by decide +kernel) rfl⟩
def mJ9_floorMod_7cf53 : MD := (yJ9_floorMod_7cf53, cJ9_floorMod_7cf53, 3, (Option.some FieldType.int))
theorem mkJ9_floorMod_7cf53 : MK mJ9_floorMod_7cf53 2 := ⟨use_t (i := 914) (by decide +kernel) rfl, use_t (i := 18) (by decide +kernel) rfl, by decide +kernel, by decide⟩
theorem msJ9_floorMod_7cf53 : MS mJ9_floorMod_7cf53 2 := ⟨mkJ9_floorMod_7cf53, use_t (i := 913) (by decide +kernel) rfl⟩
def mJ9_floorMod_f86c9 : MD := (yJ9_floorMod_f86c9, cJ9_floorMod_f86c9, 6, (Option.some FieldType.long))
theorem mkJ9_floorMod_f86c9 : MK mJ9_floorMod_f86c9 2 := ⟨use_t (i := 907) (by decide +kernel) rfl, use_t (i := 18) (by decide +kernel) rfl, by decide +kernel, by decide⟩
theorem msJ9_floorMod_f86c9 : MS mJ9_floorMod_f86c9 2 := ⟨mkJ9_floorMod_f86c9, use_t (i := 906) (by decide +kernel) rfl⟩
def mJ9_abs_0f7a4 : MD := (yJ9_abs_0f7a4, cJ9_abs_0f7a4, 1, (Option.some FieldType.int))
theorem mkJ9_abs_0f7a4 : MK mJ9_abs_0f7a4 1 := ⟨use_t (i := 1112) (by decide +kernel) rfl, use_t (i := 18) (by decide +kernel) rfl, by decide +kernel, by decide⟩
theorem msJ9_abs_0f7a4 : MS mJ9_abs_0f7a4 1 := ⟨mkJ9_abs_0f7a4, use_t (i := 1111) (by decide +kernel) rfl⟩
def mJ9_max_7cf53 : MD := (yJ9_max_7cf53, cJ9_max_7cf53, 2, (Option.some FieldType.int))
theorem mkJ9_max_7cf53 : MK mJ9_max_7cf53 2 := ⟨use_t (i := 591) (by decide +kernel) rfl, use_t (i := 18) (by decide +kernel) rfl, by decide +kernel, by decide⟩
theorem msJ9_max_7cf53 : MS mJ9_max_7cf53 2 := ⟨mkJ9_max_7cf53, use_t (i := 590) (by decide +kernel) rfl⟩
def mJ9_min_7cf53 : MD := (yJ9_min_7cf53, cJ9_min_7cf53, 2, (Option.some FieldType.int))
theorem mkJ9_min_7cf53 : MK mJ9_min_7cf53 2 := ⟨use_t (i := 588) (by decide +kernel) rfl, use_t (i := 18) (by decide +kernel) rfl, by decide +kernel, by decide⟩
theorem msJ9_min_7cf53 : MS mJ9_min_7cf53 2 := ⟨mkJ9_min_7cf53, use_t (i := 587) (by decide +kernel) rfl⟩
def mJ0_length_8abf5 : MD := (yJ0_length_8abf5, cJ0_length_8abf5, 1, (Option.some FieldType.int))
theorem mkJ0_length_8abf5 : MK mJ0_length_8abf5 0 := ⟨use_t (i := 497) (by decide +kernel) rfl, use_t (i := 14) (by decide +kernel) rfl, by decide +kernel, by decide⟩
theorem mvJ0_length_8abf5 : MV mJ0_length_8abf5 0 := ⟨mkJ0_length_8abf5, use_t (i := 495) (by decide +kernel) rfl, use_t (i := 496) (by decide +kernel) rfl⟩
def mJ0_charAt_5068e : MD := (yJ0_charAt_5068e, cJ0_charAt_5068e, 2, (Option.some FieldType.char))
theorem mkJ0_charAt_5068e : MK mJ0_charAt_5068e 1 := ⟨use_t (i := 507) (by decide +kernel) rfl, use_t (i := 14) (by decide +kernel) rfl, by decide +kernel, by decide⟩
theorem mvJ0_charAt_5068e : MV mJ0_charAt_5068e 1 := ⟨mkJ0_charAt_5068e, use_t (i := 505) (by decide +kernel) rfl, use_t (i := 506) (by decide +kernel) rfl⟩
def mJ0_coder_7d493 : MD := (yJ0_coder_7d493, cJ0_coder_7d493, 1, (Option.some FieldType.byte))
theorem mkJ0_coder_7d493 : MK mJ0_coder_7d493 0 := ⟨use_t (i := 501) (by decide +kernel) rfl, use_t (i := 14) (by decide +kernel) rfl, by decide +kernel, by decide⟩
theorem mvJ0_coder_7d493 : MV mJ0_coder_7d493 0 := ⟨mkJ0_coder_7d493, use_t (i := 499) (by decide +kernel) rfl, use_t (i := 500) (by decide +kernel) rfl⟩
def mJ0_isLatin1_aae02 : MD := (yJ0_isLatin1_aae02, cJ0_isLatin1_aae02, 1, (Option.some FieldType.boolean))
theorem mkJ0_isLatin1_aae02 : MK mJ0_isLatin1_aae02 0 := ⟨use_t (i := 511) (by decide +kernel) rfl, use_t (i := 14) (by decide +kernel) rfl, by decide +kernel, by decide⟩
theorem mvJ0_isLatin1_aae02 : MV mJ0_isLatin1_aae02 0 := ⟨mkJ0_isLatin1_aae02, use_t (i := 509) (by decide +kernel) rfl, use_t (i := 510) (by decide +kernel) rfl⟩
def mJ0_checkIndex_df160 : MD := (yJ0_checkIndex_df160, cJ0_checkIndex_df160, 2, (none : Option FieldType))
theorem mkJ0_checkIndex_df160 : MK mJ0_checkIndex_df160 2 := ⟨use_t (i := 517) (by decide +kernel) rfl, use_t (i := 14) (by decide +kernel) rfl, by decide +kernel, by decide⟩
theorem msJ0_checkIndex_df160 : MS mJ0_checkIndex_df160 2 := ⟨mkJ0_checkIndex_df160, use_t (i := 516) (by decide +kernel) rfl⟩
def mJ1_charAt_3b067 : MD := (yJ1_charAt_3b067, cJ1_charAt_3b067, 2, (Option.some FieldType.char))
theorem mkJ1_charAt_3b067 : MK mJ1_charAt_3b067 2 := ⟨use_t (i := 514) (by decide +kernel) rfl, use_t (i := 15) (by decide +kernel) rfl, by decide +kernel, by decide⟩
theorem msJ1_charAt_3b067 : MS mJ1_charAt_3b067 2 := ⟨mkJ1_charAt_3b067, use_t (i := 513) (by decide +kernel) rfl⟩
def mJ2_getChar_3b067 : MD := (yJ2_getChar_3b067, cJ2_getChar_3b067, 2, (Option.some FieldType.char))
theorem mkJ2_getChar_3b067 : MK mJ2_getChar_3b067 2 := ⟨use_t (i := 535) (by decide +kernel) rfl, use_t (i := 17) (by decide +kernel) rfl, by decide +kernel, by decide⟩
theorem msJ2_getChar_3b067 : MS mJ2_getChar_3b067 2 := ⟨mkJ2_getChar_3b067, use_t (i := 534) (by decide +kernel) rfl⟩
def mJ2_length_9d52b : MD := (yJ2_length_9d52b, cJ2_length_9d52b, 1, (Option.some FieldType.int))
theorem mkJ2_length_9d52b : MK mJ2_length_9d52b 1 := ⟨use_t (i := 531) (by decide +kernel) rfl, use_t (i := 17) (by decide +kernel) rfl, by decide +kernel, by decide⟩
theorem msJ2_length_9d52b : MS mJ2_length_9d52b 1 := ⟨mkJ2_length_9d52b, use_t (i := 530) (by decide +kernel) rfl⟩
def mJ2_charAt_3b067 : MD := (yJ2_charAt_3b067, cJ2_charAt_3b067, 2, (Option.some FieldType.char))
theorem mkJ2_charAt_3b067 : MK mJ2_charAt_3b067 2 := ⟨use_t (i := 525) (by decide +kernel) rfl, use_t (i := 17) (by decide +kernel) rfl, by decide +kernel, by decide⟩
theorem msJ2_charAt_3b067 : MS mJ2_charAt_3b067 2 := ⟨mkJ2_charAt_3b067, use_t (i := 524) (by decide +kernel) rfl⟩
def mJ2_checkIndex_2214a : MD := (yJ2_checkIndex_2214a, cJ2_checkIndex_2214a, 2, (none : Option FieldType))
theorem mkJ2_checkIndex_2214a : MK mJ2_checkIndex_2214a 2 := ⟨use_t (i := 528) (by decide +kernel) rfl, use_t (i := 17) (by decide +kernel) rfl, by decide +kernel, by decide⟩
theorem msJ2_checkIndex_2214a : MS mJ2_checkIndex_2214a 2 := ⟨mkJ2_checkIndex_2214a, use_t (i := 527) (by decide +kernel) rfl⟩
def mJ3_checkIndex_8e157 : MD := (yJ3_checkIndex_8e157, cJ3_checkIndex_8e157, 3, (Option.some FieldType.int))
theorem mkJ3_checkIndex_8e157 : MK mJ3_checkIndex_8e157 3 := ⟨use_t (i := 522) (by decide +kernel) rfl, use_t (i := 16) (by decide +kernel) rfl, by decide +kernel, by decide⟩
theorem msJ3_checkIndex_8e157 : MS mJ3_checkIndex_8e157 3 := ⟨mkJ3_checkIndex_8e157, use_t (i := 521) (by decide +kernel) rfl⟩
def mL_law : MD := (yL_law, cL_law, 4, some .boolean)
theorem mlL_9 : ML RL 9 (dN mX11_init) := Or.inl (use_t (i := 22) (by decide +kernel) rfl)
theorem mlX11_3 : Cond.methodLink RX11 3 Lib.objectInit ∈ lw_use := use_t (i := 25) (by decide +kernel) rfl
theorem mlX11_11 : ML RX11 11 (dN mX10_init) := Or.inl (use_t (i := 30) (by decide +kernel) rfl)
theorem mlX10_3 : Cond.methodLink RX10 3 Lib.objectInit ∈ lw_use := use_t (i := 33) (by decide +kernel) rfl
theorem mlX11_28 : ML RX11 28 (dN mX1_init) := Or.inl (use_t (i := 102) (by decide +kernel) rfl)
theorem mlX1_3 : Cond.methodLink RX1 3 Lib.objectInit ∈ lw_use := use_t (i := 105) (by decide +kernel) rfl
theorem mlX11_29 : ML RX11 29 (dN mX9_init) := Or.inr ⟨"ToldPowers", use_t (i := 152) (by decide +kernel) rfl⟩
theorem mlX9_3 : Cond.methodLink RX9 3 Lib.objectInit ∈ lw_use := use_t (i := 155) (by decide +kernel) rfl
theorem mlX11_36 : ML RX11 36 (dN mX2_init) := Or.inl (use_t (i := 175) (by decide +kernel) rfl)
theorem mlX2_3 : Cond.methodLink RX2 3 Lib.objectInit ∈ lw_use := use_t (i := 178) (by decide +kernel) rfl
theorem mlX2_17 : ML RX2 17 (dN mX1_init) := Or.inl (use_t (i := 180) (by decide +kernel) rfl)
theorem mlX11_45 : ML RX11 45 (dN mX6_init) := Or.inl (use_t (i := 191) (by decide +kernel) rfl)
theorem mlX6_3 : Cond.methodLink RX6 3 Lib.objectInit ∈ lw_use := use_t (i := 194) (by decide +kernel) rfl
theorem mlX11_52 : ML RX11 52 (dN mX4_init) := Or.inl (use_t (i := 210) (by decide +kernel) rfl)
theorem mlX4_3 : Cond.methodLink RX4 3 Lib.objectInit ∈ lw_use := use_t (i := 213) (by decide +kernel) rfl
theorem mlX11_59 : ML RX11 59 (dN mX7_init) := Or.inl (use_t (i := 223) (by decide +kernel) rfl)
theorem mlX7_3 : Cond.methodLink RX7 3 Lib.objectInit ∈ lw_use := use_t (i := 226) (by decide +kernel) rfl
theorem mlX11_66 : ML RX11 66 (dN mX0_init) := Or.inl (use_t (i := 243) (by decide +kernel) rfl)
theorem mlX0_3 : Cond.methodLink RX0 3 Lib.objectInit ∈ lw_use := use_t (i := 246) (by decide +kernel) rfl
theorem mlX11_73 : ML RX11 73 (dN mX8_init) := Or.inl (use_t (i := 259) (by decide +kernel) rfl)
theorem mlX8_3 : Cond.methodLink RX8 3 Lib.objectInit ∈ lw_use := use_t (i := 262) (by decide +kernel) rfl
theorem mlX11_80 : ML RX11 80 (dN mX5_init) := Or.inl (use_t (i := 278) (by decide +kernel) rfl)
theorem mlX5_3 : Cond.methodLink RX5 3 Lib.objectInit ∈ lw_use := use_t (i := 281) (by decide +kernel) rfl
theorem mlX11_91 : ML RX11 91 (dN mX3_init) := Or.inl (use_t (i := 293) (by decide +kernel) rfl)
theorem mlX3_5 : Cond.methodLink RX3 5 Lib.objectInit ∈ lw_use := use_t (i := 296) (by decide +kernel) rfl
theorem mlL_13 : ML RL 13 (dN mX11_feed) := Or.inl (use_t (i := 409) (by decide +kernel) rfl)
theorem mlX11_103 : ML RX11 103 (dN mX10_append) := Or.inl (use_t (i := 413) (by decide +kernel) rfl)
theorem mlL_18 : ML RL 18 (dN mX11_end) := Or.inl (use_t (i := 417) (by decide +kernel) rfl)
theorem mlL_23 : ML RL 23 (dN mX11_form) := Or.inl (use_t (i := 421) (by decide +kernel) rfl)
theorem mlX11_107 : ML RX11 107 (dN mX10_forgetFault) := Or.inl (use_t (i := 425) (by decide +kernel) rfl)
theorem mlX11_110 : ML RX11 110 (dN mX11_isSlot) := Or.inl (use_t (i := 429) (by decide +kernel) rfl)
theorem mlX11_114 : ML RX11 114 (dN mX2_readAll) := Or.inl (use_t (i := 432) (by decide +kernel) rfl)
theorem mlX2_26 : ML RX2 26 (dN mX10_begin) := Or.inl (use_t (i := 436) (by decide +kernel) rfl)
theorem mlX10_59 : ML RX10 59 (dN mX10_skipBlanks) := Or.inl (use_t (i := 440) (by decide +kernel) rfl)
theorem mlX10_65 : ML RX10 65 (dN mX10_isBlank) := Or.inl (use_t (i := 444) (by decide +kernel) rfl)
theorem mlX10_62 : ML RX10 62 (dN mX10_cutToken) := Or.inl (use_t (i := 447) (by decide +kernel) rfl)
theorem mlX10_69 : ML RX10 69 (dN mX10_sortOf) := Or.inl (use_t (i := 451) (by decide +kernel) rfl)
theorem mlX10_73 : ML RX10 73 (dN mX10_takeAmount) := Or.inl (use_t (i := 454) (by decide +kernel) rfl)
theorem mlX2_35 : ML RX2 35 (dN mX2_readTerm) := Or.inl (use_t (i := 458) (by decide +kernel) rfl)
theorem mlX2_53 : ML RX2 53 (dN mX2_checkFirstToken) := Or.inl (use_t (i := 462) (by decide +kernel) rfl)
theorem mlX2_56 : ML RX2 56 (dN mX10_isN) := Or.inl (use_t (i := 466) (by decide +kernel) rfl)
theorem mlX2_59 : ML RX2 59 (dN mX10_amount) := Or.inl (use_t (i := 470) (by decide +kernel) rfl)
theorem mlX2_46 : ML RX2 46 (dN mX10_fail) := Or.inl (use_t (i := 474) (by decide +kernel) rfl)
theorem mlX2_63 : ML RX2 63 (dN mX10_kindThere) := Or.inl (use_t (i := 478) (by decide +kernel) rfl)
theorem mlX10_86 : ML RX10 86 (dN mX11_kindWord) := Or.inr ⟨"ToldPowers", use_t (i := 482) (by decide +kernel) rfl⟩
theorem mlX10_90 : ML RX10 90 (dN mX10_isWord) := Or.inl (use_t (i := 490) (by decide +kernel) rfl)
theorem mlX10_77 : ML RX10 77 (dN mJ0_length_8abf5) := Or.inl (use_t (i := 494) (by decide +kernel) rfl)
theorem mlJ0_335 : ML RJ0 335 (dN mJ0_coder_7d493) := Or.inl (use_t (i := 498) (by decide +kernel) rfl)
theorem mlX10_82 : ML RX10 82 (dN mJ0_charAt_5068e) := Or.inl (use_t (i := 504) (by decide +kernel) rfl)
theorem mlJ0_492 : ML RJ0 492 (dN mJ0_isLatin1_aae02) := Or.inl (use_t (i := 508) (by decide +kernel) rfl)
theorem mlJ0_495 : ML RJ0 495 (dN mJ1_charAt_3b067) := Or.inl (use_t (i := 512) (by decide +kernel) rfl)
theorem mlJ1_9 : ML RJ1 9 (dN mJ0_checkIndex_df160) := Or.inl (use_t (i := 515) (by decide +kernel) rfl)
theorem mlJ0_1059 : ML RJ0 1059 (dN mJ3_checkIndex_8e157) := Or.inl (use_t (i := 520) (by decide +kernel) rfl)
theorem mlJ0_498 : ML RJ0 498 (dN mJ2_charAt_3b067) := Or.inl (use_t (i := 523) (by decide +kernel) rfl)
theorem mlJ2_67 : ML RJ2 67 (dN mJ2_checkIndex_2214a) := Or.inl (use_t (i := 526) (by decide +kernel) rfl)
theorem mlJ2_48 : ML RJ2 48 (dN mJ2_length_9d52b) := Or.inl (use_t (i := 529) (by decide +kernel) rfl)
theorem mlJ2_414 : ML RJ2 414 (dN mJ0_checkIndex_df160) := Or.inl (use_t (i := 532) (by decide +kernel) rfl)
theorem mlJ2_71 : ML RJ2 71 (dN mJ2_getChar_3b067) := Or.inl (use_t (i := 533) (by decide +kernel) rfl)
theorem mlX2_50 : ML RX2 50 (dN mX10_advance) := Or.inl (use_t (i := 542) (by decide +kernel) rfl)
theorem mlX2_68 : ML RX2 68 (dN mX10_isWord) := Or.inl (use_t (i := 547) (by decide +kernel) rfl)
theorem mlX2_72 : ML RX2 72 (dN mX2_readRange) := Or.inl (use_t (i := 548) (by decide +kernel) rfl)
theorem mlX2_84 : ML RX2 84 (dN mX2_readBound) := Or.inl (use_t (i := 552) (by decide +kernel) rfl)
theorem mlX2_93 : ML RX2 93 (dN mX10_readWhole) := Or.inl (use_t (i := 556) (by decide +kernel) rfl)
theorem mlX10_98 : ML RX10 98 (dN mX10_isSign) := Or.inl (use_t (i := 560) (by decide +kernel) rfl)
theorem mlX10_102 : ML RX10 102 (dN mX10_advance) := Or.inl (use_t (i := 564) (by decide +kernel) rfl)
theorem mlX10_94 : ML RX10 94 (dN mX10_isN) := Or.inl (use_t (i := 565) (by decide +kernel) rfl)
theorem mlX10_105 : ML RX10 105 (dN mX10_fail) := Or.inl (use_t (i := 566) (by decide +kernel) rfl)
theorem mlX2_96 : ML RX2 96 (dN mX11_powerValue) := Or.inr ⟨"ToldPowers", use_t (i := 567) (by decide +kernel) rfl⟩
theorem mlX2_100 : ML RX2 100 (dN mX11_isBeyond) := Or.inr ⟨"ToldPowers", use_t (i := 571) (by decide +kernel) rfl⟩
theorem mlX2_80 : ML RX2 80 (dN mX1_addNew) := Or.inl (use_t (i := 577) (by decide +kernel) rfl)
theorem mlX1_34 : ML RX1 34 (dN mX1_valueOf) := Or.inl (use_t (i := 581) (by decide +kernel) rfl)
theorem mlX1_54 : ML RX1 54 (dN mX11_powerValue) := Or.inr ⟨"ToldPowers", use_t (i := 585) (by decide +kernel) rfl⟩
theorem mlX1_38 : ML RX1 38 (dN mJ9_min_7cf53) := Or.inl (use_t (i := 586) (by decide +kernel) rfl)
theorem mlX1_43 : ML RX1 43 (dN mJ9_max_7cf53) := Or.inl (use_t (i := 589) (by decide +kernel) rfl)
theorem mlX2_76 : ML RX2 76 (dN mX11_greatestX) := Or.inr ⟨"ToldPowers", use_t (i := 592) (by decide +kernel) rfl⟩
theorem mlX11_373 : ML RX11 373 (dN mX11_powerValue) := Or.inl (use_t (i := 595) (by decide +kernel) rfl)
theorem mlX2_39 : ML RX2 39 (dN mX10_isEnd) := Or.inl (use_t (i := 596) (by decide +kernel) rfl)
theorem mlX2_42 : ML RX2 42 (dN mX10_isSign) := Or.inl (use_t (i := 600) (by decide +kernel) rfl)
theorem mlX11_121 : ML RX11 121 (dN mX11_replaceForm) := Or.inl (use_t (i := 601) (by decide +kernel) rfl)
theorem mlX11_240 : ML RX11 240 (dN mX1_addAll) := Or.inl (use_t (i := 605) (by decide +kernel) rfl)
theorem mlX1_50 : ML RX1 50 (dN mX1_addTermOf) := Or.inl (use_t (i := 609) (by decide +kernel) rfl)
theorem mlX1_46 : ML RX1 46 (dN mX1_addNew) := Or.inl (use_t (i := 613) (by decide +kernel) rfl)
theorem mlX11_302 : ML RX11 302 (dN mX9_forget) := Or.inl (use_t (i := 614) (by decide +kernel) rfl)
theorem mlX11_305 : ML RX11 305 (dN mX7_forget) := Or.inl (use_t (i := 618) (by decide +kernel) rfl)
theorem mlL_28 : ML RL 28 (dN mX11_prove) := Or.inl (use_t (i := 622) (by decide +kernel) rfl)
theorem mlX11_128 : ML RX11 128 (dN mX11_hasTerms) := Or.inl (use_t (i := 626) (by decide +kernel) rfl)
theorem mlX11_131 : ML RX11 131 (dN mX11_wayCounts) := Or.inl (use_t (i := 630) (by decide +kernel) rfl)
theorem mlX11_315 : ML RX11 315 (dN mX7_countWays) := Or.inl (use_t (i := 634) (by decide +kernel) rfl)
theorem mlX7_26 : ML RX7 26 (dN mX7_measure) := Or.inl (use_t (i := 638) (by decide +kernel) rfl)
theorem mlX7_35 : ML RX7 35 (dN mX7_makeRows) := Or.inl (use_t (i := 642) (by decide +kernel) rfl)
theorem mlX7_65 : ML RX7 65 (dN mJ9_min_7cf53) := Or.inl (use_t (i := 647) (by decide +kernel) rfl)
theorem mlX7_79 : ML RX7 79 (dN mJ9_max_7cf53) := Or.inl (use_t (i := 648) (by decide +kernel) rfl)
theorem mlX7_39 : ML RX7 39 (dN mX7_clear) := Or.inl (use_t (i := 649) (by decide +kernel) rfl)
theorem mlX7_43 : ML RX7 43 (dN mX7_addTerm) := Or.inl (use_t (i := 653) (by decide +kernel) rfl)
theorem mlX7_82 : ML RX7 82 (dN mX7_addShifted) := Or.inl (use_t (i := 657) (by decide +kernel) rfl)
theorem mlX7_54 : ML RX7 54 (dN mX7_addLikeLines) := Or.inl (use_t (i := 661) (by decide +kernel) rfl)
theorem mlX7_92 : ML RX7 92 (dN mX1_valueOf) := Or.inl (use_t (i := 665) (by decide +kernel) rfl)
theorem mlX7_62 : ML RX7 62 (dN mX1_spread) := Or.inl (use_t (i := 666) (by decide +kernel) rfl)
theorem mlX11_318 : ML RX11 318 (dN mX9_keepWays) := Or.inl (use_t (i := 670) (by decide +kernel) rfl)
theorem mlX9_22 : ML RX9 22 (dN mX7_copyRow) := Or.inl (use_t (i := 674) (by decide +kernel) rfl)
theorem mlX7_71 : ML RX7 71 (dN mX7_waysFrom) := Or.inl (use_t (i := 678) (by decide +kernel) rfl)
theorem mlX11_135 : ML RX11 135 (dN mX6_readAll) := Or.inl (use_t (i := 682) (by decide +kernel) rfl)
theorem mlX6_27 : ML RX6 27 (dN mX10_begin) := Or.inl (use_t (i := 686) (by decide +kernel) rfl)
theorem mlX6_37 : ML RX6 37 (dN mX10_isEnd) := Or.inl (use_t (i := 687) (by decide +kernel) rfl)
theorem mlX6_41 : ML RX6 41 (dN mX6_readLine) := Or.inl (use_t (i := 688) (by decide +kernel) rfl)
theorem mlX6_45 : ML RX6 45 (dN mX10_isSign) := Or.inl (use_t (i := 692) (by decide +kernel) rfl)
theorem mlX6_49 : ML RX6 49 (dN mX10_fail) := Or.inl (use_t (i := 693) (by decide +kernel) rfl)
theorem mlX6_52 : ML RX6 52 (dN mX10_readWhole) := Or.inl (use_t (i := 694) (by decide +kernel) rfl)
theorem mlX6_58 : ML RX6 58 (dN mX11_isNumber) := Or.inr ⟨"ToldPowers", use_t (i := 695) (by decide +kernel) rfl⟩
theorem mlX6_61 : ML RX6 61 (dN mX6_isTold) := Or.inl (use_t (i := 698) (by decide +kernel) rfl)
theorem mlX6_65 : ML RX6 65 (dN mX10_advance) := Or.inl (use_t (i := 702) (by decide +kernel) rfl)
theorem mlX6_68 : ML RX6 68 (dN mX6_readWay) := Or.inl (use_t (i := 703) (by decide +kernel) rfl)
theorem mlX6_85 : ML RX6 85 (dN mX6_readX) := Or.inl (use_t (i := 707) (by decide +kernel) rfl)
theorem mlX6_88 : ML RX6 88 (dN mX1_valueOf) := Or.inl (use_t (i := 711) (by decide +kernel) rfl)
theorem mlX6_92 : ML RX6 92 (dN mX6_endWay) := Or.inl (use_t (i := 712) (by decide +kernel) rfl)
theorem mlX6_99 : ML RX6 99 (dN mX10_beginsWhole) := Or.inl (use_t (i := 716) (by decide +kernel) rfl)
theorem mlX6_73 : ML RX6 73 (dN mX10_isWord) := Or.inl (use_t (i := 721) (by decide +kernel) rfl)
theorem mlX6_77 : ML RX6 77 (dN mX6_readNot) := Or.inl (use_t (i := 722) (by decide +kernel) rfl)
theorem mlL_32 : ML RL 32 (dN mX11_identity) := Or.inl (use_t (i := 726) (by decide +kernel) rfl)
theorem mlX11_138 : ML RX11 138 (dN mX4_readAll) := Or.inl (use_t (i := 730) (by decide +kernel) rfl)
theorem mlX4_19 : ML RX4 19 (dN mX3_clear) := Or.inl (use_t (i := 734) (by decide +kernel) rfl)
theorem mlX4_24 : ML RX4 24 (dN mX10_begin) := Or.inl (use_t (i := 738) (by decide +kernel) rfl)
theorem mlX4_30 : ML RX4 30 (dN mX4_readSum) := Or.inl (use_t (i := 739) (by decide +kernel) rfl)
theorem mlX4_58 : ML RX4 58 (dN mX4_readProduct) := Or.inl (use_t (i := 743) (by decide +kernel) rfl)
theorem mlX4_65 : ML RX4 65 (dN mX4_readPower) := Or.inl (use_t (i := 747) (by decide +kernel) rfl)
theorem mlX4_68 : ML RX4 68 (dN mX4_readPart) := Or.inl (use_t (i := 751) (by decide +kernel) rfl)
theorem mlX4_81 : ML RX4 81 (dN mX10_letterThere) := Or.inl (use_t (i := 755) (by decide +kernel) rfl)
theorem mlX4_34 : ML RX4 34 (dN mX10_isSign) := Or.inl (use_t (i := 759) (by decide +kernel) rfl)
theorem mlX4_71 : ML RX4 71 (dN mX10_isN) := Or.inl (use_t (i := 760) (by decide +kernel) rfl)
theorem mlX4_38 : ML RX4 38 (dN mX10_fail) := Or.inl (use_t (i := 761) (by decide +kernel) rfl)
theorem mlX4_87 : ML RX4 87 (dN mX4_readInner) := Or.inl (use_t (i := 762) (by decide +kernel) rfl)
theorem mlX4_51 : ML RX4 51 (dN mX10_advance) := Or.inl (use_t (i := 766) (by decide +kernel) rfl)
theorem mlX4_90 : ML RX4 90 (dN mX3_addLetter) := Or.inl (use_t (i := 767) (by decide +kernel) rfl)
theorem mlX3_69 : ML RX3 69 (dN mX3_addStep) := Or.inl (use_t (i := 771) (by decide +kernel) rfl)
theorem mlX4_74 : ML RX4 74 (dN mX10_amount) := Or.inl (use_t (i := 775) (by decide +kernel) rfl)
theorem mlX4_93 : ML RX4 93 (dN mX3_addNumber) := Or.inl (use_t (i := 776) (by decide +kernel) rfl)
theorem mlX4_78 : ML RX4 78 (dN mX3_addPower) := Or.inl (use_t (i := 780) (by decide +kernel) rfl)
theorem mlX3_73 : ML RX3 73 (dN mX3_takeOpen) := Or.inl (use_t (i := 784) (by decide +kernel) rfl)
theorem mlX4_61 : ML RX4 61 (dN mX3_addJoint) := Or.inl (use_t (i := 788) (by decide +kernel) rfl)
theorem mlX4_54 : ML RX4 54 (dN mX10_isEnd) := Or.inl (use_t (i := 792) (by decide +kernel) rfl)
theorem mlX11_141 : ML RX11 141 (dN mX3_letterCount) := Or.inl (use_t (i := 793) (by decide +kernel) rfl)
theorem mlX3_77 : ML RX3 77 (dN mJ6_bitCount_0f7a4) := Or.inl (use_t (i := 797) (by decide +kernel) rfl)
theorem mlL_37 : ML RL 37 (dN mX11_fault) := Or.inl (use_t (i := 803) (by decide +kernel) rfl)
theorem mlL_41 : ML RL 41 (dN mX11_term) := Or.inl (use_t (i := 807) (by decide +kernel) rfl)
theorem mlX11_157 : ML RX11 157 (dN mX11_hasTerm) := Or.inl (use_t (i := 811) (by decide +kernel) rfl)
theorem mlL_46 : ML RL 46 (dN mX11_ways) := Or.inl (use_t (i := 816) (by decide +kernel) rfl)
theorem mlX11_174 : ML RX11 174 (dN mX11_isNumber) := Or.inl (use_t (i := 820) (by decide +kernel) rfl)
theorem mlL_51 : ML RL 51 (dN mX11_unlike) := Or.inl (use_t (i := 822) (by decide +kernel) rfl)
theorem mlX11_179 : ML RX11 179 (dN mX11_unlikeCounts) := Or.inl (use_t (i := 826) (by decide +kernel) rfl)
theorem mlX11_328 : ML RX11 328 (dN mX7_countUnlike) := Or.inl (use_t (i := 830) (by decide +kernel) rfl)
theorem mlX7_47 : ML RX7 47 (dN mX1_likeFrom) := Or.inl (use_t (i := 834) (by decide +kernel) rfl)
theorem mlX1_58 : ML RX1 58 (dN mX1_areLike) := Or.inl (use_t (i := 838) (by decide +kernel) rfl)
theorem mlX7_58 : ML RX7 58 (dN mX7_addLikePowers) := Or.inl (use_t (i := 842) (by decide +kernel) rfl)
theorem mlX11_331 : ML RX11 331 (dN mX9_keepUnlike) := Or.inl (use_t (i := 846) (by decide +kernel) rfl)
theorem mlL_57 : ML RL 57 (dN mX11_way) := Or.inl (use_t (i := 850) (by decide +kernel) rfl)
theorem mlX11_182 : ML RX11 182 (dN mX11_takeWay) := Or.inl (use_t (i := 854) (by decide +kernel) rfl)
theorem mlX11_228 : ML RX11 228 (dN mX1_valueOf) := Or.inl (use_t (i := 858) (by decide +kernel) rfl)
theorem mlX11_334 : ML RX11 334 (dN mX7_waysFrom) := Or.inl (use_t (i := 859) (by decide +kernel) rfl)
theorem mlL_62 : ML RL 62 (dN mX11_number) := Or.inl (use_t (i := 860) (by decide +kernel) rfl)
theorem mlX11_186 : ML RX11 186 (dN mX11_rowIsWay) := Or.inl (use_t (i := 864) (by decide +kernel) rfl)
theorem mlX11_190 : ML RX11 190 (dN mX11_waysAhead) := Or.inl (use_t (i := 868) (by decide +kernel) rfl)
theorem mlL_67 : ML RL 67 (dN mX11_missed) := Or.inl (use_t (i := 872) (by decide +kernel) rfl)
theorem mlX11_194 : ML RX11 194 (dN mX11_isRange) := Or.inl (use_t (i := 876) (by decide +kernel) rfl)
theorem mlL_72 : ML RL 72 (dN mX11_explained) := Or.inl (use_t (i := 879) (by decide +kernel) rfl)
theorem mlX11_197 : ML RX11 197 (dN mX11_isModulus) := Or.inl (use_t (i := 883) (by decide +kernel) rfl)
theorem mlX11_200 : ML RX11 200 (dN mX0_fill) := Or.inl (use_t (i := 886) (by decide +kernel) rfl)
theorem mlX0_23 : ML RX0 23 (dN mJ9_min_7cf53) := Or.inl (use_t (i := 890) (by decide +kernel) rfl)
theorem mlX0_29 : ML RX0 29 (dN mJ9_max_7cf53) := Or.inl (use_t (i := 891) (by decide +kernel) rfl)
theorem mlX0_37 : ML RX0 37 (dN mX0_takeHits) := Or.inl (use_t (i := 892) (by decide +kernel) rfl)
theorem mlX0_55 : ML RX0 55 (dN mX0_rowLength) := Or.inl (use_t (i := 896) (by decide +kernel) rfl)
theorem mlX0_49 : ML RX0 49 (dN mX0_remainder) := Or.inl (use_t (i := 900) (by decide +kernel) rfl)
theorem mlX0_69 : ML RX0 69 (dN mX11_powerValue) := Or.inr ⟨"ToldPowers", use_t (i := 904) (by decide +kernel) rfl⟩
theorem mlX0_73 : ML RX0 73 (dN mJ9_floorMod_f86c9) := Or.inl (use_t (i := 905) (by decide +kernel) rfl)
theorem mlX0_41 : ML RX0 41 (dN mX0_addHits) := Or.inl (use_t (i := 908) (by decide +kernel) rfl)
theorem mlX11_204 : ML RX11 204 (dN mJ9_floorMod_7cf53) := Or.inl (use_t (i := 912) (by decide +kernel) rfl)
theorem mlX11_210 : ML RX11 210 (dN mX0_rowsFrom) := Or.inl (use_t (i := 915) (by decide +kernel) rfl)
theorem mlL_76 : ML RL 76 (dN mX11_full) := Or.inl (use_t (i := 919) (by decide +kernel) rfl)
theorem mlL_97 : ML RL 97 (dN mX11_many) := Or.inl (use_t (i := 923) (by decide +kernel) rfl)
theorem mlL_129 : ML RL 129 (dN mX11_common) := Or.inl (use_t (i := 928) (by decide +kernel) rfl)
theorem mlL_153 : ML RL 153 (dN mX11_gap) := Or.inl (use_t (i := 932) (by decide +kernel) rfl)
theorem mlL_157 : ML RL 157 (dN mX11_rank) := Or.inl (use_t (i := 936) (by decide +kernel) rfl)
theorem mlX11_214 : ML RX11 214 (dN mX11_countAhead) := Or.inl (use_t (i := 940) (by decide +kernel) rfl)
theorem mlL_80 : ML RL 80 (dN mX11_met) := Or.inl (use_t (i := 943) (by decide +kernel) rfl)
theorem mlX11_218 : ML RX11 218 (dN mX11_isClass) := Or.inl (use_t (i := 947) (by decide +kernel) rfl)
theorem mlL_85 : ML RL 85 (dN mX11_meets) := Or.inl (use_t (i := 950) (by decide +kernel) rfl)
theorem mlX11_221 : ML RX11 221 (dN mX0_firstRow) := Or.inl (use_t (i := 954) (by decide +kernel) rfl)
theorem mlX0_45 : ML RX0 45 (dN mX0_firstX) := Or.inl (use_t (i := 958) (by decide +kernel) rfl)
theorem mlX0_52 : ML RX0 52 (dN mJ9_floorMod_7cf53) := Or.inl (use_t (i := 962) (by decide +kernel) rfl)
theorem mlX0_59 : ML RX0 59 (dN mX0_rowsFrom) := Or.inl (use_t (i := 963) (by decide +kernel) rfl)
theorem mlL_89 : ML RL 89 (dN mX11_never) := Or.inl (use_t (i := 964) (by decide +kernel) rfl)
theorem mlL_93 : ML RL 93 (dN mX11_bars) := Or.inl (use_t (i := 968) (by decide +kernel) rfl)
theorem mlL_102 : ML RL 102 (dN mX11_greed) := Or.inl (use_t (i := 972) (by decide +kernel) rfl)
theorem mlX11_225 : ML RX11 225 (dN mX11_greedyX) := Or.inl (use_t (i := 976) (by decide +kernel) rfl)
theorem mlL_106 : ML RL 106 (dN mX11_nearest) := Or.inl (use_t (i := 979) (by decide +kernel) rfl)
theorem mlX11_231 : ML RX11 231 (dN mX8_begin) := Or.inl (use_t (i := 983) (by decide +kernel) rfl)
theorem mlX11_234 : ML RX11 234 (dN mX8_addTerm) := Or.inl (use_t (i := 987) (by decide +kernel) rfl)
theorem mlX8_25 : ML RX8 25 (dN mX1_spread) := Or.inl (use_t (i := 991) (by decide +kernel) rfl)
theorem mlX8_31 : ML RX8 31 (dN mJ9_min_7cf53) := Or.inl (use_t (i := 992) (by decide +kernel) rfl)
theorem mlX8_52 : ML RX8 52 (dN mX8_addLine) := Or.inl (use_t (i := 993) (by decide +kernel) rfl)
theorem mlX8_63 : ML RX8 63 (dN mX8_orShifted) := Or.inl (use_t (i := 997) (by decide +kernel) rfl)
theorem mlX8_56 : ML RX8 56 (dN mX8_addPower) := Or.inl (use_t (i := 1001) (by decide +kernel) rfl)
theorem mlX8_60 : ML RX8 60 (dN mX1_valueOf) := Or.inl (use_t (i := 1005) (by decide +kernel) rfl)
theorem mlX11_237 : ML RX11 237 (dN mX8_holds) := Or.inl (use_t (i := 1006) (by decide +kernel) rfl)
theorem mlL_111 : ML RL 111 (dN mX11_enough) := Or.inl (use_t (i := 1010) (by decide +kernel) rfl)
theorem mlL_115 : ML RL 115 (dN mX11_join) := Or.inl (use_t (i := 1014) (by decide +kernel) rfl)
theorem mlL_120 : ML RL 120 (dN mX11_drop) := Or.inl (use_t (i := 1018) (by decide +kernel) rfl)
theorem mlX11_244 : ML RX11 244 (dN mX1_addTermOf) := Or.inl (use_t (i := 1022) (by decide +kernel) rfl)
theorem mlL_125 : ML RL 125 (dN mX11_lead) := Or.inl (use_t (i := 1023) (by decide +kernel) rfl)
theorem mlL_133 : ML RL 133 (dN mX11_tried) := Or.inl (use_t (i := 1027) (by decide +kernel) rfl)
theorem mlX11_247 : ML RX11 247 (dN mX3_isThere) := Or.inl (use_t (i := 1031) (by decide +kernel) rfl)
theorem mlX11_250 : ML RX11 250 (dN mX3_tryBox) := Or.inl (use_t (i := 1035) (by decide +kernel) rfl)
theorem mlX3_91 : ML RX3 91 (dN mX3_isUsed) := Or.inl (use_t (i := 1039) (by decide +kernel) rfl)
theorem mlX3_83 : ML RX3 83 (dN mX3_retake) := Or.inl (use_t (i := 1043) (by decide +kernel) rfl)
theorem mlX3_105 : ML RX3 105 (dN mX3_takeStep) := Or.inl (use_t (i := 1047) (by decide +kernel) rfl)
theorem mlX3_108 : ML RX3 108 (dN mX3_raise) := Or.inl (use_t (i := 1051) (by decide +kernel) rfl)
theorem mlX3_116 : ML RX3 116 (dN mX3_productFits) := Or.inl (use_t (i := 1055) (by decide +kernel) rfl)
theorem mlX3_124 : ML RX3 124 (dN mX3_isSmall) := Or.inl (use_t (i := 1058) (by decide +kernel) rfl)
theorem mlX3_112 : ML RX3 112 (dN mX3_combine) := Or.inl (use_t (i := 1065) (by decide +kernel) rfl)
theorem mlX3_95 : ML RX3 95 (dN mX3_judgeRow) := Or.inl (use_t (i := 1069) (by decide +kernel) rfl)
theorem mlX3_98 : ML RX3 98 (dN mX3_noteBroken) := Or.inl (use_t (i := 1073) (by decide +kernel) rfl)
theorem mlX3_102 : ML RX3 102 (dN mX3_stepRow) := Or.inl (use_t (i := 1077) (by decide +kernel) rfl)
theorem mlL_137 : ML RL 137 (dN mX11_side) := Or.inl (use_t (i := 1081) (by decide +kernel) rfl)
theorem mlX11_265 : ML RX11 265 (dN mX11_isSideNumber) := Or.inl (use_t (i := 1086) (by decide +kernel) rfl)
theorem mlX11_271 : ML RX11 271 (dN mX3_evaluate) := Or.inl (use_t (i := 1089) (by decide +kernel) rfl)
theorem mlL_141 : ML RL 141 (dN mX11_spell) := Or.inl (use_t (i := 1093) (by decide +kernel) rfl)
theorem mlX11_281 : ML RX11 281 (dN mX5_putSign) := Or.inl (use_t (i := 1097) (by decide +kernel) rfl)
theorem mlX11_285 : ML RX11 285 (dN mX11_spellTerm) := Or.inl (use_t (i := 1101) (by decide +kernel) rfl)
theorem mlX11_337 : ML RX11 337 (dN mX5_putInt) := Or.inl (use_t (i := 1105) (by decide +kernel) rfl)
theorem mlX5_29 : ML RX5 29 (dN mX5_putSign) := Or.inl (use_t (i := 1109) (by decide +kernel) rfl)
theorem mlX5_33 : ML RX5 33 (dN mJ9_abs_0f7a4) := Or.inl (use_t (i := 1110) (by decide +kernel) rfl)
theorem mlX11_340 : ML RX11 340 (dN mX11_kindWord) := Or.inl (use_t (i := 1113) (by decide +kernel) rfl)
theorem mlX11_344 : ML RX11 344 (dN mX5_putText) := Or.inl (use_t (i := 1114) (by decide +kernel) rfl)
theorem mlX5_19 : ML RX5 19 (dN mJ0_length_8abf5) := Or.inl (use_t (i := 1118) (by decide +kernel) rfl)
theorem mlX5_25 : ML RX5 25 (dN mJ0_charAt_5068e) := Or.inl (use_t (i := 1119) (by decide +kernel) rfl)
theorem mlX11_348 : ML RX11 348 (dN mX11_greatestX) := Or.inl (use_t (i := 1120) (by decide +kernel) rfl)
theorem mlL_145 : ML RL 145 (dN mX11_write) := Or.inl (use_t (i := 1123) (by decide +kernel) rfl)
theorem mlX11_288 : ML RX11 288 (dN mX11_writeLine) := Or.inl (use_t (i := 1127) (by decide +kernel) rfl)
theorem mlL_149 : ML RL 149 (dN mX11_out) := Or.inl (use_t (i := 1132) (by decide +kernel) rfl)
theorem mlL_161 : ML RL 161 (dN mX11_look) := Or.inl (use_t (i := 1136) (by decide +kernel) rfl)
theorem mlL_12 : ML RL 12 (dN mX12_init) := Or.inl (use_t (i := 1142) (by decide +kernel) rfl)
theorem mlX12_3 : Cond.methodLink RX12 3 Lib.objectInit ∈ lw_use := use_t (i := 1145) (by decide +kernel) rfl
theorem mlL_17 : ML RL 17 (dN mX12_feed) := Or.inl (use_t (i := 1298) (by decide +kernel) rfl)
theorem mlX12_118 : ML RX12 118 (dN mX12_four) := Or.inl (use_t (i := 1302) (by decide +kernel) rfl)
theorem mlL_22 : ML RL 22 (dN mX12_end) := Or.inl (use_t (i := 1306) (by decide +kernel) rfl)
theorem mlX12_105 : ML RX12 105 (dN mX12_isIn) := Or.inl (use_t (i := 1310) (by decide +kernel) rfl)
theorem mlL_40 : ML RL 40 (dN mX12_fault) := Or.inl (use_t (i := 1313) (by decide +kernel) rfl)
theorem mlL_27 : ML RL 27 (dN mX12_form) := Or.inl (use_t (i := 1317) (by decide +kernel) rfl)
theorem mlX12_247 : ML RX12 247 (dN mX12_begins) := Or.inl (use_t (i := 1321) (by decide +kernel) rfl)
theorem mlX12_190 : ML RX12 190 (dN mX12_next) := Or.inl (use_t (i := 1325) (by decide +kernel) rfl)
theorem mlX12_125 : ML RX12 125 (dN mX12_see) := Or.inl (use_t (i := 1329) (by decide +kernel) rfl)
theorem mlX12_111 : ML RX12 111 (dN mX12_isSlot) := Or.inl (use_t (i := 1337) (by decide +kernel) rfl)
theorem mlX12_250 : ML RX12 250 (dN mX12_readTerm) := Or.inl (use_t (i := 1341) (by decide +kernel) rfl)
theorem mlX12_214 : ML RX12 214 (dN mX12_isNumber) := Or.inl (use_t (i := 1345) (by decide +kernel) rfl)
theorem mlX12_218 : ML RX12 218 (dN mX12_kindHere) := Or.inl (use_t (i := 1349) (by decide +kernel) rfl)
theorem mlX12_198 : ML RX12 198 (dN mX12_isWord) := Or.inl (use_t (i := 1354) (by decide +kernel) rfl)
theorem mlX12_171 : ML RX12 171 (dN mJ0_length_8abf5) := Or.inl (use_t (i := 1358) (by decide +kernel) rfl)
theorem mlX12_180 : ML RX12 180 (dN mX12_packed) := Or.inl (use_t (i := 1359) (by decide +kernel) rfl)
theorem mlX12_176 : ML RX12 176 (dN mJ0_charAt_5068e) := Or.inl (use_t (i := 1362) (by decide +kernel) rfl)
theorem mlX12_187 : ML RX12 187 (dN mX12_fails) := Or.inl (use_t (i := 1367) (by decide +kernel) rfl)
theorem mlX12_223 : ML RX12 223 (dN mX12_greatest) := Or.inl (use_t (i := 1372) (by decide +kernel) rfl)
theorem mlX12_97 : ML RX12 97 (dN mX12_plain) := Or.inl (use_t (i := 1375) (by decide +kernel) rfl)
theorem mlX12_228 : ML RX12 228 (dN mX12_comesToWhole) := Or.inl (use_t (i := 1381) (by decide +kernel) rfl)
theorem mlX12_184 : ML RX12 184 (dN mX12_isSign) := Or.inl (use_t (i := 1385) (by decide +kernel) rfl)
theorem mlX12_231 : ML RX12 231 (dN mX12_whole) := Or.inl (use_t (i := 1389) (by decide +kernel) rfl)
theorem mlX12_234 : ML RX12 234 (dN mX12_valueOf) := Or.inl (use_t (i := 1393) (by decide +kernel) rfl)
theorem mlX12_93 : ML RX12 93 (dN mX12_of) := Or.inl (use_t (i := 1397) (by decide +kernel) rfl)
theorem mlX12_238 : ML RX12 238 (dN mX12_isSmall) := Or.inl (use_t (i := 1401) (by decide +kernel) rfl)
theorem mlX12_253 : ML RX12 253 (dN mX12_takesSign) := Or.inl (use_t (i := 1406) (by decide +kernel) rfl)
theorem mlX12_256 : ML RX12 256 (dN mX12_isRead) := Or.inl (use_t (i := 1410) (by decide +kernel) rfl)
theorem mlX12_259 : ML RX12 259 (dN mX12_takesOver) := Or.inl (use_t (i := 1414) (by decide +kernel) rfl)
theorem mlX12_243 : ML RX12 243 (dN mX12_copies) := Or.inl (use_t (i := 1418) (by decide +kernel) rfl)
theorem mlL_50 : ML RL 50 (dN mX12_ways) := Or.inl (use_t (i := 1422) (by decide +kernel) rfl)
theorem mlX12_274 : ML RX12 274 (dN mX12_isForm) := Or.inl (use_t (i := 1426) (by decide +kernel) rfl)
theorem mlX12_277 : ML RX12 277 (dN mX12_isN) := Or.inl (use_t (i := 1430) (by decide +kernel) rfl)
theorem mlX12_282 : ML RX12 282 (dN mX12_lays) := Or.inl (use_t (i := 1434) (by decide +kernel) rfl)
theorem mlX12_267 : ML RX12 267 (dN mX12_laysNought) := Or.inl (use_t (i := 1438) (by decide +kernel) rfl)
theorem mlX12_270 : ML RX12 270 (dN mX12_laysLayer) := Or.inl (use_t (i := 1442) (by decide +kernel) rfl)
theorem mlX12_262 : ML RX12 262 (dN mX12_at) := Or.inl (use_t (i := 1446) (by decide +kernel) rfl)
theorem mlX12_285 : ML RX12 285 (dN mX12_waysOf) := Or.inl (use_t (i := 1451) (by decide +kernel) rfl)
theorem mlL_54 : ML RL 54 (dN mX12_unlike) := Or.inl (use_t (i := 1455) (by decide +kernel) rfl)
theorem mlX12_310 : ML RX12 310 (dN mX12_laysUnlike) := Or.inl (use_t (i := 1459) (by decide +kernel) rfl)
theorem mlX12_292 : ML RX12 292 (dN mX12_turns) := Or.inl (use_t (i := 1463) (by decide +kernel) rfl)
theorem mlX12_300 : ML RX12 300 (dN mX12_areLike) := Or.inl (use_t (i := 1467) (by decide +kernel) rfl)
theorem mlX12_304 : ML RX12 304 (dN mX12_sorts) := Or.inl (use_t (i := 1471) (by decide +kernel) rfl)
theorem mlX12_307 : ML RX12 307 (dN mX12_isKind) := Or.inl (use_t (i := 1475) (by decide +kernel) rfl)
theorem mlX12_296 : ML RX12 296 (dN mX12_laysRounds) := Or.inl (use_t (i := 1479) (by decide +kernel) rfl)
theorem mlL_61 : ML RL 61 (dN mX12_way) := Or.inl (use_t (i := 1483) (by decide +kernel) rfl)
theorem mlX12_313 : ML RX12 313 (dN mX12_isTerm) := Or.inl (use_t (i := 1487) (by decide +kernel) rfl)
theorem mlX12_317 : ML RX12 317 (dN mX12_finds) := Or.inl (use_t (i := 1491) (by decide +kernel) rfl)
theorem mlL_66 : ML RL 66 (dN mX12_number) := Or.inl (use_t (i := 1496) (by decide +kernel) rfl)
theorem mlL_31 : ML RL 31 (dN mX12_prove) := Or.inl (use_t (i := 1501) (by decide +kernel) rfl)
theorem mlX12_335 : ML RX12 335 (dN mX12_readLine) := Or.inl (use_t (i := 1505) (by decide +kernel) rfl)
theorem mlX12_327 : ML RX12 327 (dN mX12_isOut) := Or.inl (use_t (i := 1509) (by decide +kernel) rfl)
theorem mlX12_332 : ML RX12 332 (dN mX12_readWay) := Or.inl (use_t (i := 1514) (by decide +kernel) rfl)
theorem mlL_36 : ML RL 36 (dN mX12_identity) := Or.inl (use_t (i := 1518) (by decide +kernel) rfl)
theorem mlX12_364 : ML RX12 364 (dN mX12_readIdentity) := Or.inl (use_t (i := 1522) (by decide +kernel) rfl)
theorem mlX12_358 : ML RX12 358 (dN mX12_readSum) := Or.inl (use_t (i := 1526) (by decide +kernel) rfl)
theorem mlX12_341 : ML RX12 341 (dN mX12_readProduct) := Or.inl (use_t (i := 1530) (by decide +kernel) rfl)
theorem mlX12_347 : ML RX12 347 (dN mX12_readPower) := Or.inl (use_t (i := 1534) (by decide +kernel) rfl)
theorem mlX12_350 : ML RX12 350 (dN mX12_readPart) := Or.inl (use_t (i := 1538) (by decide +kernel) rfl)
theorem mlX12_344 : ML RX12 344 (dN mX12_puts) := Or.inl (use_t (i := 1543) (by decide +kernel) rfl)
theorem mlX12_376 : ML RX12 376 (dN mX12_bits) := Or.inl (use_t (i := 1547) (by decide +kernel) rfl)
theorem mlL_136 : ML RL 136 (dN mX12_tried) := Or.inl (use_t (i := 1550) (by decide +kernel) rfl)
theorem mlX12_403 : ML RX12 403 (dN mX12_isBroken) := Or.inl (use_t (i := 1555) (by decide +kernel) rfl)
theorem mlX12_398 : ML RX12 398 (dN mX12_sideTells) := Or.inl (use_t (i := 1559) (by decide +kernel) rfl)
theorem mlX12_388 : ML RX12 388 (dN mX12_raised) := Or.inl (use_t (i := 1563) (by decide +kernel) rfl)
theorem mlX12_384 : ML RX12 384 (dN mX12_times) := Or.inl (use_t (i := 1567) (by decide +kernel) rfl)
theorem mlX12_392 : ML RX12 392 (dN mX12_plus) := Or.inl (use_t (i := 1572) (by decide +kernel) rfl)
theorem mlX12_395 : ML RX12 395 (dN mX12_minus) := Or.inl (use_t (i := 1576) (by decide +kernel) rfl)
theorem mlX12_406 : ML RX12 406 (dN mX12_one) := Or.inl (use_t (i := 1580) (by decide +kernel) rfl)
theorem mlX12_410 : ML RX12 410 (dN mX12_goesOn) := Or.inl (use_t (i := 1583) (by decide +kernel) rfl)
theorem mlL_140 : ML RL 140 (dN mX12_side) := Or.inl (use_t (i := 1587) (by decide +kernel) rfl)
theorem mlL_45 : ML RL 45 (dN mX12_term) := Or.inl (use_t (i := 1593) (by decide +kernel) rfl)
theorem mlL_71 : ML RL 71 (dN mX12_missed) := Or.inl (use_t (i := 1597) (by decide +kernel) rfl)
theorem mlX12_417 : ML RX12 417 (dN mX12_isSpan) := Or.inl (use_t (i := 1601) (by decide +kernel) rfl)
theorem mlL_75 : ML RL 75 (dN mX12_explained) := Or.inl (use_t (i := 1604) (by decide +kernel) rfl)
theorem mlX12_422 : ML RX12 422 (dN mX12_laysClasses) := Or.inl (use_t (i := 1609) (by decide +kernel) rfl)
theorem mlX12_425 : ML RX12 425 (dN mX12_xs) := Or.inl (use_t (i := 1613) (by decide +kernel) rfl)
theorem mlX12_428 : ML RX12 428 (dN mX12_classOf) := Or.inl (use_t (i := 1616) (by decide +kernel) rfl)
theorem mlL_79 : ML RL 79 (dN mX12_full) := Or.inl (use_t (i := 1620) (by decide +kernel) rfl)
theorem mlL_84 : ML RL 84 (dN mX12_met) := Or.inl (use_t (i := 1624) (by decide +kernel) rfl)
theorem mlX12_432 : ML RX12 432 (dN mX12_isClass) := Or.inl (use_t (i := 1628) (by decide +kernel) rfl)
theorem mlL_88 : ML RL 88 (dN mX12_meets) := Or.inl (use_t (i := 1632) (by decide +kernel) rfl)
theorem mlL_92 : ML RL 92 (dN mX12_never) := Or.inl (use_t (i := 1636) (by decide +kernel) rfl)
theorem mlL_96 : ML RL 96 (dN mX12_bars) := Or.inl (use_t (i := 1640) (by decide +kernel) rfl)
theorem mlX12_435 : ML RX12 435 (dN mX12_never) := Or.inl (use_t (i := 1644) (by decide +kernel) rfl)
theorem mlL_101 : ML RL 101 (dN mX12_many) := Or.inl (use_t (i := 1645) (by decide +kernel) rfl)
theorem mlL_105 : ML RL 105 (dN mX12_greed) := Or.inl (use_t (i := 1650) (by decide +kernel) rfl)
theorem mlL_110 : ML RL 110 (dN mX12_nearest) := Or.inl (use_t (i := 1654) (by decide +kernel) rfl)
theorem mlL_114 : ML RL 114 (dN mX12_enough) := Or.inl (use_t (i := 1658) (by decide +kernel) rfl)
theorem mlL_119 : ML RL 119 (dN mX12_join) := Or.inl (use_t (i := 1662) (by decide +kernel) rfl)
theorem mlL_124 : ML RL 124 (dN mX12_drop) := Or.inl (use_t (i := 1667) (by decide +kernel) rfl)
theorem mlL_128 : ML RL 128 (dN mX12_lead) := Or.inl (use_t (i := 1671) (by decide +kernel) rfl)
theorem mlL_132 : ML RL 132 (dN mX12_common) := Or.inl (use_t (i := 1675) (by decide +kernel) rfl)
theorem mlL_156 : ML RL 156 (dN mX12_gap) := Or.inl (use_t (i := 1679) (by decide +kernel) rfl)
theorem mlL_160 : ML RL 160 (dN mX12_rank) := Or.inl (use_t (i := 1683) (by decide +kernel) rfl)
theorem mlL_144 : ML RL 144 (dN mX12_spell) := Or.inl (use_t (i := 1687) (by decide +kernel) rfl)
theorem mlX12_445 : ML RX12 445 (dN mX12_says) := Or.inl (use_t (i := 1691) (by decide +kernel) rfl)
theorem mlX12_452 : ML RX12 452 (dN mX12_saysNumber) := Or.inl (use_t (i := 1695) (by decide +kernel) rfl)
theorem mlX12_455 : ML RX12 455 (dN mX12_saysKind) := Or.inl (use_t (i := 1699) (by decide +kernel) rfl)
theorem mlX12_448 : ML RX12 448 (dN mX12_saysWord) := Or.inl (use_t (i := 1703) (by decide +kernel) rfl)
theorem mlL_148 : ML RL 148 (dN mX12_write) := Or.inl (use_t (i := 1709) (by decide +kernel) rfl)
theorem mlL_152 : ML RL 152 (dN mX12_out) := Or.inl (use_t (i := 1714) (by decide +kernel) rfl)
theorem mlL_164 : ML RL 164 (dN mX12_look) := Or.inl (use_t (i := 1718) (by decide +kernel) rfl)
theorem obj_in : Cond.instanceMethod Lib.objectInit ∈ lw_use := use_t (i := 26) (by decide +kernel) rfl
theorem obj_co : Cond.code Lib.objectInit ⟨#[0xb1]⟩ 1 none ∈ lw_use := use_t (i := 27) (by decide +kernel) rfl
theorem kcX7_78 : Cond.constant RX7 78 (108006) ∈ lw_use := use_t (i := 646) (by decide +kernel) rfl
theorem kcJ6_265 : Cond.constant RJ6 265 (1431655765) ∈ lw_use := use_t (i := 800) (by decide +kernel) rfl
theorem kcJ6_266 : Cond.constant RJ6 266 (858993459) ∈ lw_use := use_t (i := 801) (by decide +kernel) rfl
theorem kcJ6_267 : Cond.constant RJ6 267 (252645135) ∈ lw_use := use_t (i := 802) (by decide +kernel) rfl
theorem kcX11_161 : Cond.constant RX11 161 (-100000) ∈ lw_use := use_t (i := 815) (by decide +kernel) rfl
theorem kcX11_213 : Cond.constant RX11 213 (1000000) ∈ lw_use := use_t (i := 927) (by decide +kernel) rfl
theorem kcX12_34 : Cond.constant RX12 34 (180006) ∈ lw_use := use_t (i := 1146) (by decide +kernel) rfl
theorem kcX12_321 : Cond.constant RX12 321 (-100000) ∈ lw_use := use_t (i := 1495) (by decide +kernel) rfl
theorem klX11_367 : Cond.constantLong RX11 367 (2) ∈ lw_use := use_t (i := 570) (by decide +kernel) rfl
theorem klX11_369 : Cond.constantLong RX11 369 (-3000) ∈ lw_use := use_t (i := 574) (by decide +kernel) rfl
theorem klX11_371 : Cond.constantLong RX11 371 (3000) ∈ lw_use := use_t (i := 575) (by decide +kernel) rfl
theorem klX11_177 : Cond.constantLong RX11 177 (-1) ∈ lw_use := use_t (i := 821) (by decide +kernel) rfl
theorem klX3_120 : Cond.constantLong RX3 120 (-2000000000) ∈ lw_use := use_t (i := 1061) (by decide +kernel) rfl
theorem klX3_122 : Cond.constantLong RX3 122 (2000000000) ∈ lw_use := use_t (i := 1062) (by decide +kernel) rfl
theorem klX3_128 : Cond.constantLong RX3 128 (-1) ∈ lw_use := use_t (i := 1063) (by decide +kernel) rfl
theorem klX3_130 : Cond.constantLong RX3 130 (-9223372036854775808) ∈ lw_use := use_t (i := 1064) (by decide +kernel) rfl
theorem klX11_263 : Cond.constantLong RX11 263 (-9223372036854775808) ∈ lw_use := use_t (i := 1085) (by decide +kernel) rfl
theorem klX12_145 : Cond.constantLong RX12 145 (97) ∈ lw_use := use_t (i := 1333) (by decide +kernel) rfl
theorem klX12_147 : Cond.constantLong RX12 147 (122) ∈ lw_use := use_t (i := 1334) (by decide +kernel) rfl
theorem klX12_149 : Cond.constantLong RX12 149 (48) ∈ lw_use := use_t (i := 1335) (by decide +kernel) rfl
theorem klX12_151 : Cond.constantLong RX12 151 (57) ∈ lw_use := use_t (i := 1336) (by decide +kernel) rfl
theorem klX12_109 : Cond.constantLong RX12 109 (3) ∈ lw_use := use_t (i := 1340) (by decide +kernel) rfl
theorem klX12_221 : Cond.constantLong RX12 221 (99) ∈ lw_use := use_t (i := 1371) (by decide +kernel) rfl
theorem klX12_91 : Cond.constantLong RX12 91 (2) ∈ lw_use := use_t (i := 1378) (by decide +kernel) rfl
theorem klX12_103 : Cond.constantLong RX12 103 (3000) ∈ lw_use := use_t (i := 1379) (by decide +kernel) rfl
theorem klX12_101 : Cond.constantLong RX12 101 (-3000) ∈ lw_use := use_t (i := 1404) (by decide +kernel) rfl
theorem klX12_280 : Cond.constantLong RX12 280 (-1) ∈ lw_use := use_t (i := 1433) (by decide +kernel) rfl
theorem klX12_265 : Cond.constantLong RX12 265 (30000) ∈ lw_use := use_t (i := 1450) (by decide +kernel) rfl
theorem klX12_322 : Cond.constantLong RX12 322 (15000) ∈ lw_use := use_t (i := 1500) (by decide +kernel) rfl
theorem klX12_353 : Cond.constantLong RX12 353 (6) ∈ lw_use := use_t (i := 1542) (by decide +kernel) rfl
theorem klX12_401 : Cond.constantLong RX12 401 (7) ∈ lw_use := use_t (i := 1554) (by decide +kernel) rfl
theorem klX12_379 : Cond.constantLong RX12 379 (-9223372036854775808) ∈ lw_use := use_t (i := 1571) (by decide +kernel) rfl
theorem klX12_413 : Cond.constantLong RX12 413 (-9) ∈ lw_use := use_t (i := 1591) (by decide +kernel) rfl
theorem klX12_415 : Cond.constantLong RX12 415 (9) ∈ lw_use := use_t (i := 1592) (by decide +kernel) rfl
theorem klX12_420 : Cond.constantLong RX12 420 (60) ∈ lw_use := use_t (i := 1608) (by decide +kernel) rfl
theorem klX12_438 : Cond.constantLong RX12 438 (1000000) ∈ lw_use := use_t (i := 1649) (by decide +kernel) rfl
theorem klX12_440 : Cond.constantLong RX12 440 (5) ∈ lw_use := use_t (i := 1666) (by decide +kernel) rfl
theorem klL_55 : Cond.constantLong RL 55 (4294967295) ∈ lw_use := use_t (i := 1722) (by decide +kernel) rfl
theorem clL_7 : Cond.classLink RL 7 RX11 ∈ lw_use := use_t (i := 20) (by decide +kernel) rfl
theorem clX11_9 : Cond.classLink RX11 9 RX10 ∈ lw_use := use_t (i := 28) (by decide +kernel) rfl
theorem clX11_16 : Cond.classLink RX11 16 RX1 ∈ lw_use := use_t (i := 97) (by decide +kernel) rfl
theorem clX11_22 : Cond.classLink RX11 22 RX9 ∈ lw_use := use_t (i := 99) (by decide +kernel) rfl
theorem clX11_34 : Cond.classLink RX11 34 RX2 ∈ lw_use := use_t (i := 173) (by decide +kernel) rfl
theorem clX2_15 : Cond.classLink RX2 15 RX1 ∈ lw_use := use_t (i := 179) (by decide +kernel) rfl
theorem clX11_43 : Cond.classLink RX11 43 RX6 ∈ lw_use := use_t (i := 189) (by decide +kernel) rfl
theorem clX11_50 : Cond.classLink RX11 50 RX4 ∈ lw_use := use_t (i := 208) (by decide +kernel) rfl
theorem clX11_57 : Cond.classLink RX11 57 RX7 ∈ lw_use := use_t (i := 221) (by decide +kernel) rfl
theorem clX11_64 : Cond.classLink RX11 64 RX0 ∈ lw_use := use_t (i := 241) (by decide +kernel) rfl
theorem clX11_71 : Cond.classLink RX11 71 RX8 ∈ lw_use := use_t (i := 257) (by decide +kernel) rfl
theorem clX11_78 : Cond.classLink RX11 78 RX5 ∈ lw_use := use_t (i := 276) (by decide +kernel) rfl
theorem clX11_89 : Cond.classLink RX11 89 RX3 ∈ lw_use := use_t (i := 291) (by decide +kernel) rfl
theorem clL_10 : Cond.classLink RL 10 RX12 ∈ lw_use := use_t (i := 1140) (by decide +kernel) rfl
theorem ciX11 : Cond.instantiable RX11 14 ∈ lw_use := use_t (i := 21) (by decide +kernel) rfl
theorem iiX11 : Cond.initialized RX11 ∈ lw_use := use_t (i := 1) (by decide +kernel) rfl
theorem ciX10 : Cond.instantiable RX10 16 ∈ lw_use := use_t (i := 29) (by decide +kernel) rfl
theorem iiX10 : Cond.initialized RX10 ∈ lw_use := use_t (i := 2) (by decide +kernel) rfl
theorem ciX1 : Cond.instantiable RX1 7 ∈ lw_use := use_t (i := 101) (by decide +kernel) rfl
theorem iiX1 : Cond.initialized RX1 ∈ lw_use := use_t (i := 3) (by decide +kernel) rfl
theorem ciX9 : Cond.instantiable RX9 4 ∈ lw_use := use_t (i := 151) (by decide +kernel) rfl
theorem iiX9 : Cond.initialized RX9 ∈ lw_use := use_t (i := 4) (by decide +kernel) rfl
theorem ciX2 : Cond.instantiable RX2 2 ∈ lw_use := use_t (i := 174) (by decide +kernel) rfl
theorem iiX2 : Cond.initialized RX2 ∈ lw_use := use_t (i := 5) (by decide +kernel) rfl
theorem ciX6 : Cond.instantiable RX6 4 ∈ lw_use := use_t (i := 190) (by decide +kernel) rfl
theorem iiX6 : Cond.initialized RX6 ∈ lw_use := use_t (i := 6) (by decide +kernel) rfl
theorem ciX4 : Cond.instantiable RX4 2 ∈ lw_use := use_t (i := 209) (by decide +kernel) rfl
theorem iiX4 : Cond.initialized RX4 ∈ lw_use := use_t (i := 7) (by decide +kernel) rfl
theorem ciX7 : Cond.instantiable RX7 4 ∈ lw_use := use_t (i := 222) (by decide +kernel) rfl
theorem iiX7 : Cond.initialized RX7 ∈ lw_use := use_t (i := 8) (by decide +kernel) rfl
theorem ciX0 : Cond.instantiable RX0 3 ∈ lw_use := use_t (i := 242) (by decide +kernel) rfl
theorem iiX0 : Cond.initialized RX0 ∈ lw_use := use_t (i := 9) (by decide +kernel) rfl
theorem ciX8 : Cond.instantiable RX8 4 ∈ lw_use := use_t (i := 258) (by decide +kernel) rfl
theorem iiX8 : Cond.initialized RX8 ∈ lw_use := use_t (i := 10) (by decide +kernel) rfl
theorem ciX5 : Cond.instantiable RX5 2 ∈ lw_use := use_t (i := 277) (by decide +kernel) rfl
theorem iiX5 : Cond.initialized RX5 ∈ lw_use := use_t (i := 11) (by decide +kernel) rfl
theorem ciX3 : Cond.instantiable RX3 19 ∈ lw_use := use_t (i := 292) (by decide +kernel) rfl
theorem iiX3 : Cond.initialized RX3 ∈ lw_use := use_t (i := 12) (by decide +kernel) rfl
theorem ciX12 : Cond.instantiable RX12 50 ∈ lw_use := use_t (i := 1141) (by decide +kernel) rfl
theorem iiX12 : Cond.initialized RX12 ∈ lw_use := use_t (i := 13) (by decide +kernel) rfl
theorem ac_byte : Cond.arrayClass .byte ∈ lw_use := use_t (i := 95) (by decide +kernel) rfl
theorem ac_int : Cond.arrayClass .int ∈ lw_use := use_t (i := 96) (by decide +kernel) rfl
theorem ac_long : Cond.arrayClass .long ∈ lw_use := use_t (i := 240) (by decide +kernel) rfl
theorem ac_boolean : Cond.arrayClass .boolean ∈ lw_use := use_t (i := 365) (by decide +kernel) rfl
theorem aoX1 : Cond.arrayOver (.object RX1) ∈ lw_use := use_t (i := 98) (by decide +kernel) rfl
theorem aoX9 : Cond.arrayOver (.object RX9) ∈ lw_use := use_t (i := 100) (by decide +kernel) rfl
