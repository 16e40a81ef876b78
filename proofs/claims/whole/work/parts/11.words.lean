theorem tn_X0 : Cond.initialized RX0 ∈ TB := tb_of 112 (by decide +kernel) (by decide +kernel)
theorem tw_X0_0 : u_lay RX0 TX0 0 ∈ TB := tb_of 279 (by decide +kernel) (by decide +kernel)
theorem tw_X0_1 : u_lay RX0 TX0 1 ∈ TB := tb_of 281 (by decide +kernel) (by decide +kernel)
theorem tw_X0_2 : u_lay RX0 TX0 2 ∈ TB := tb_of 283 (by decide +kernel) (by decide +kernel)
theorem tw_X0_3 : u_lay RX0 TX0 3 ∈ TB := tb_of 285 (by decide +kernel) (by decide +kernel)
theorem tw_X0_4 : u_lay RX0 TX0 4 ∈ TB := tb_of 287 (by decide +kernel) (by decide +kernel)
theorem inT_X0 : ∀ w ∈ u_ws RX0 TX0 5, w ∈ TB := by
  intro w hw
  obtain ⟨k, hk, rfl⟩ := List.mem_map.mp hw
  have hk := List.mem_range.mp hk
  match k, hk with
  | 0, _ => exact tw_X0_0
  | 1, _ => exact tw_X0_1
  | 2, _ => exact tw_X0_2
  | 3, _ => exact tw_X0_3
  | 4, _ => exact tw_X0_4
  | k + 5, h => exact absurd h (by omega)
theorem tn_X1 : Cond.initialized RX1 ∈ TB := tb_of 114 (by decide +kernel) (by decide +kernel)
theorem tw_X1_0 : u_lay RX1 TX1 0 ∈ TB := tb_of 181 (by decide +kernel) (by decide +kernel)
theorem tw_X1_1 : u_lay RX1 TX1 1 ∈ TB := tb_of 183 (by decide +kernel) (by decide +kernel)
theorem tw_X1_2 : u_lay RX1 TX1 2 ∈ TB := tb_of 185 (by decide +kernel) (by decide +kernel)
theorem tw_X1_3 : u_lay RX1 TX1 3 ∈ TB := tb_of 187 (by decide +kernel) (by decide +kernel)
theorem inT_X1 : ∀ w ∈ u_ws RX1 TX1 4, w ∈ TB := by
  intro w hw
  obtain ⟨k, hk, rfl⟩ := List.mem_map.mp hw
  have hk := List.mem_range.mp hk
  match k, hk with
  | 0, _ => exact tw_X1_0
  | 1, _ => exact tw_X1_1
  | 2, _ => exact tw_X1_2
  | 3, _ => exact tw_X1_3
  | k + 4, h => exact absurd h (by omega)
theorem tn_X2 : Cond.initialized RX2 ∈ TB := tb_of 120 (by decide +kernel) (by decide +kernel)
theorem tw_X2_0 : u_lay RX2 TX2 0 ∈ TB := tb_of 406 (by decide +kernel) (by decide +kernel)
theorem tw_X2_1 : u_lay RX2 TX2 1 ∈ TB := tb_of 408 (by decide +kernel) (by decide +kernel)
theorem tw_X2_2 : u_lay RX2 TX2 2 ∈ TB := tb_of 410 (by decide +kernel) (by decide +kernel)
theorem tw_X2_3 : u_lay RX2 TX2 3 ∈ TB := tb_of 412 (by decide +kernel) (by decide +kernel)
theorem tw_X2_4 : u_lay RX2 TX2 4 ∈ TB := tb_of 414 (by decide +kernel) (by decide +kernel)
theorem tw_X2_5 : u_lay RX2 TX2 5 ∈ TB := tb_of 416 (by decide +kernel) (by decide +kernel)
theorem tw_X2_6 : u_lay RX2 TX2 6 ∈ TB := tb_of 418 (by decide +kernel) (by decide +kernel)
theorem inT_X2 : ∀ w ∈ u_ws RX2 TX2 7, w ∈ TB := by
  intro w hw
  obtain ⟨k, hk, rfl⟩ := List.mem_map.mp hw
  have hk := List.mem_range.mp hk
  match k, hk with
  | 0, _ => exact tw_X2_0
  | 1, _ => exact tw_X2_1
  | 2, _ => exact tw_X2_2
  | 3, _ => exact tw_X2_3
  | 4, _ => exact tw_X2_4
  | 5, _ => exact tw_X2_5
  | 6, _ => exact tw_X2_6
  | k + 7, h => exact absurd h (by omega)
theorem tn_X3 : Cond.initialized RX3 ∈ TB := tb_of 115 (by decide +kernel) (by decide +kernel)
theorem tw_X3_0 : u_lay RX3 TX3 0 ∈ TB := tb_of 262 (by decide +kernel) (by decide +kernel)
theorem tw_X3_1 : u_lay RX3 TX3 1 ∈ TB := tb_of 264 (by decide +kernel) (by decide +kernel)
theorem tw_X3_2 : u_lay RX3 TX3 2 ∈ TB := tb_of 266 (by decide +kernel) (by decide +kernel)
theorem inT_X3 : ∀ w ∈ u_ws RX3 TX3 3, w ∈ TB := by
  intro w hw
  obtain ⟨k, hk, rfl⟩ := List.mem_map.mp hw
  have hk := List.mem_range.mp hk
  match k, hk with
  | 0, _ => exact tw_X3_0
  | 1, _ => exact tw_X3_1
  | 2, _ => exact tw_X3_2
  | k + 3, h => exact absurd h (by omega)
theorem tn_X4 : Cond.initialized RX4 ∈ TB := tb_of 113 (by decide +kernel) (by decide +kernel)
theorem tw_X4_0 : u_lay RX4 TX4 0 ∈ TB := tb_of 224 (by decide +kernel) (by decide +kernel)
theorem tw_X4_1 : u_lay RX4 TX4 1 ∈ TB := tb_of 226 (by decide +kernel) (by decide +kernel)
theorem tw_X4_2 : u_lay RX4 TX4 2 ∈ TB := tb_of 228 (by decide +kernel) (by decide +kernel)
theorem tw_X4_3 : u_lay RX4 TX4 3 ∈ TB := tb_of 230 (by decide +kernel) (by decide +kernel)
theorem tw_X4_4 : u_lay RX4 TX4 4 ∈ TB := tb_of 232 (by decide +kernel) (by decide +kernel)
theorem tw_X4_5 : u_lay RX4 TX4 5 ∈ TB := tb_of 234 (by decide +kernel) (by decide +kernel)
theorem tw_X4_6 : u_lay RX4 TX4 6 ∈ TB := tb_of 236 (by decide +kernel) (by decide +kernel)
theorem tw_X4_7 : u_lay RX4 TX4 7 ∈ TB := tb_of 238 (by decide +kernel) (by decide +kernel)
theorem tw_X4_8 : u_lay RX4 TX4 8 ∈ TB := tb_of 240 (by decide +kernel) (by decide +kernel)
theorem tw_X4_9 : u_lay RX4 TX4 9 ∈ TB := tb_of 242 (by decide +kernel) (by decide +kernel)
theorem tw_X4_10 : u_lay RX4 TX4 10 ∈ TB := tb_of 244 (by decide +kernel) (by decide +kernel)
theorem tw_X4_11 : u_lay RX4 TX4 11 ∈ TB := tb_of 246 (by decide +kernel) (by decide +kernel)
theorem inT_X4 : ∀ w ∈ u_ws RX4 TX4 12, w ∈ TB := by
  intro w hw
  obtain ⟨k, hk, rfl⟩ := List.mem_map.mp hw
  have hk := List.mem_range.mp hk
  match k, hk with
  | 0, _ => exact tw_X4_0
  | 1, _ => exact tw_X4_1
  | 2, _ => exact tw_X4_2
  | 3, _ => exact tw_X4_3
  | 4, _ => exact tw_X4_4
  | 5, _ => exact tw_X4_5
  | 6, _ => exact tw_X4_6
  | 7, _ => exact tw_X4_7
  | 8, _ => exact tw_X4_8
  | 9, _ => exact tw_X4_9
  | 10, _ => exact tw_X4_10
  | 11, _ => exact tw_X4_11
  | k + 12, h => exact absurd h (by omega)
theorem tn_X5 : Cond.initialized RX5 ∈ TB := tb_of 116 (by decide +kernel) (by decide +kernel)
theorem tw_X5_0 : u_lay RX5 TX5 0 ∈ TB := tb_of 333 (by decide +kernel) (by decide +kernel)
theorem tw_X5_1 : u_lay RX5 TX5 1 ∈ TB := tb_of 335 (by decide +kernel) (by decide +kernel)
theorem tw_X5_2 : u_lay RX5 TX5 2 ∈ TB := tb_of 337 (by decide +kernel) (by decide +kernel)
theorem tw_X5_3 : u_lay RX5 TX5 3 ∈ TB := tb_of 339 (by decide +kernel) (by decide +kernel)
theorem tw_X5_4 : u_lay RX5 TX5 4 ∈ TB := tb_of 341 (by decide +kernel) (by decide +kernel)
theorem tw_X5_5 : u_lay RX5 TX5 5 ∈ TB := tb_of 343 (by decide +kernel) (by decide +kernel)
theorem tw_X5_6 : u_lay RX5 TX5 6 ∈ TB := tb_of 345 (by decide +kernel) (by decide +kernel)
theorem inT_X5 : ∀ w ∈ u_ws RX5 TX5 7, w ∈ TB := by
  intro w hw
  obtain ⟨k, hk, rfl⟩ := List.mem_map.mp hw
  have hk := List.mem_range.mp hk
  match k, hk with
  | 0, _ => exact tw_X5_0
  | 1, _ => exact tw_X5_1
  | 2, _ => exact tw_X5_2
  | 3, _ => exact tw_X5_3
  | 4, _ => exact tw_X5_4
  | 5, _ => exact tw_X5_5
  | 6, _ => exact tw_X5_6
  | k + 7, h => exact absurd h (by omega)
theorem tn_X6 : Cond.initialized RX6 ∈ TB := tb_of 122 (by decide +kernel) (by decide +kernel)
theorem tw_X6_0 : u_lay RX6 TX6 0 ∈ TB := tb_of 476 (by decide +kernel) (by decide +kernel)
theorem tw_X6_1 : u_lay RX6 TX6 1 ∈ TB := tb_of 478 (by decide +kernel) (by decide +kernel)
theorem tw_X6_2 : u_lay RX6 TX6 2 ∈ TB := tb_of 480 (by decide +kernel) (by decide +kernel)
theorem tw_X6_3 : u_lay RX6 TX6 3 ∈ TB := tb_of 482 (by decide +kernel) (by decide +kernel)
theorem tw_X6_4 : u_lay RX6 TX6 4 ∈ TB := tb_of 484 (by decide +kernel) (by decide +kernel)
theorem tw_X6_5 : u_lay RX6 TX6 5 ∈ TB := tb_of 486 (by decide +kernel) (by decide +kernel)
theorem tw_X6_6 : u_lay RX6 TX6 6 ∈ TB := tb_of 488 (by decide +kernel) (by decide +kernel)
theorem tw_X6_7 : u_lay RX6 TX6 7 ∈ TB := tb_of 490 (by decide +kernel) (by decide +kernel)
theorem tw_X6_8 : u_lay RX6 TX6 8 ∈ TB := tb_of 492 (by decide +kernel) (by decide +kernel)
theorem tw_X6_9 : u_lay RX6 TX6 9 ∈ TB := tb_of 494 (by decide +kernel) (by decide +kernel)
theorem tw_X6_10 : u_lay RX6 TX6 10 ∈ TB := tb_of 496 (by decide +kernel) (by decide +kernel)
theorem inT_X6 : ∀ w ∈ u_ws RX6 TX6 11, w ∈ TB := by
  intro w hw
  obtain ⟨k, hk, rfl⟩ := List.mem_map.mp hw
  have hk := List.mem_range.mp hk
  match k, hk with
  | 0, _ => exact tw_X6_0
  | 1, _ => exact tw_X6_1
  | 2, _ => exact tw_X6_2
  | 3, _ => exact tw_X6_3
  | 4, _ => exact tw_X6_4
  | 5, _ => exact tw_X6_5
  | 6, _ => exact tw_X6_6
  | 7, _ => exact tw_X6_7
  | 8, _ => exact tw_X6_8
  | 9, _ => exact tw_X6_9
  | 10, _ => exact tw_X6_10
  | k + 11, h => exact absurd h (by omega)
theorem tn_X7 : Cond.initialized RX7 ∈ TB := tb_of 117 (by decide +kernel) (by decide +kernel)
theorem tw_X7_0 : u_lay RX7 TX7 0 ∈ TB := tb_of 309 (by decide +kernel) (by decide +kernel)
theorem tw_X7_1 : u_lay RX7 TX7 1 ∈ TB := tb_of 311 (by decide +kernel) (by decide +kernel)
theorem tw_X7_2 : u_lay RX7 TX7 2 ∈ TB := tb_of 313 (by decide +kernel) (by decide +kernel)
theorem tw_X7_3 : u_lay RX7 TX7 3 ∈ TB := tb_of 315 (by decide +kernel) (by decide +kernel)
theorem tw_X7_4 : u_lay RX7 TX7 4 ∈ TB := tb_of 317 (by decide +kernel) (by decide +kernel)
theorem inT_X7 : ∀ w ∈ u_ws RX7 TX7 5, w ∈ TB := by
  intro w hw
  obtain ⟨k, hk, rfl⟩ := List.mem_map.mp hw
  have hk := List.mem_range.mp hk
  match k, hk with
  | 0, _ => exact tw_X7_0
  | 1, _ => exact tw_X7_1
  | 2, _ => exact tw_X7_2
  | 3, _ => exact tw_X7_3
  | 4, _ => exact tw_X7_4
  | k + 5, h => exact absurd h (by omega)
theorem tn_X8 : Cond.initialized RX8 ∈ TB := tb_of 119 (by decide +kernel) (by decide +kernel)
theorem tw_X8_0 : u_lay RX8 TX8 0 ∈ TB := tb_of 378 (by decide +kernel) (by decide +kernel)
theorem tw_X8_1 : u_lay RX8 TX8 1 ∈ TB := tb_of 380 (by decide +kernel) (by decide +kernel)
theorem inT_X8 : ∀ w ∈ u_ws RX8 TX8 2, w ∈ TB := by
  intro w hw
  obtain ⟨k, hk, rfl⟩ := List.mem_map.mp hw
  have hk := List.mem_range.mp hk
  match k, hk with
  | 0, _ => exact tw_X8_0
  | 1, _ => exact tw_X8_1
  | k + 2, h => exact absurd h (by omega)
theorem tn_X9 : Cond.initialized RX9 ∈ TB := tb_of 118 (by decide +kernel) (by decide +kernel)
theorem tw_X9_0 : u_lay RX9 TX9 0 ∈ TB := tb_of 361 (by decide +kernel) (by decide +kernel)
theorem tw_X9_1 : u_lay RX9 TX9 1 ∈ TB := tb_of 363 (by decide +kernel) (by decide +kernel)
theorem tw_X9_2 : u_lay RX9 TX9 2 ∈ TB := tb_of 365 (by decide +kernel) (by decide +kernel)
theorem inT_X9 : ∀ w ∈ u_ws RX9 TX9 3, w ∈ TB := by
  intro w hw
  obtain ⟨k, hk, rfl⟩ := List.mem_map.mp hw
  have hk := List.mem_range.mp hk
  match k, hk with
  | 0, _ => exact tw_X9_0
  | 1, _ => exact tw_X9_1
  | 2, _ => exact tw_X9_2
  | k + 3, h => exact absurd h (by omega)
theorem tn_X10 : Cond.initialized RX10 ∈ TB := tb_of 121 (by decide +kernel) (by decide +kernel)
theorem tw_X10_0 : u_lay RX10 TX10 0 ∈ TB := tb_of 442 (by decide +kernel) (by decide +kernel)
theorem tw_X10_1 : u_lay RX10 TX10 1 ∈ TB := tb_of 444 (by decide +kernel) (by decide +kernel)
theorem tw_X10_2 : u_lay RX10 TX10 2 ∈ TB := tb_of 446 (by decide +kernel) (by decide +kernel)
theorem tw_X10_3 : u_lay RX10 TX10 3 ∈ TB := tb_of 448 (by decide +kernel) (by decide +kernel)
theorem tw_X10_4 : u_lay RX10 TX10 4 ∈ TB := tb_of 450 (by decide +kernel) (by decide +kernel)
theorem tw_X10_5 : u_lay RX10 TX10 5 ∈ TB := tb_of 452 (by decide +kernel) (by decide +kernel)
theorem inT_X10 : ∀ w ∈ u_ws RX10 TX10 6, w ∈ TB := by
  intro w hw
  obtain ⟨k, hk, rfl⟩ := List.mem_map.mp hw
  have hk := List.mem_range.mp hk
  match k, hk with
  | 0, _ => exact tw_X10_0
  | 1, _ => exact tw_X10_1
  | 2, _ => exact tw_X10_2
  | 3, _ => exact tw_X10_3
  | 4, _ => exact tw_X10_4
  | 5, _ => exact tw_X10_5
  | k + 6, h => exact absurd h (by omega)
theorem tn_X11 : Cond.initialized RX11 ∈ TB := tb_of 111 (by decide +kernel) (by decide +kernel)
theorem tw_X11_0 : u_lay RX11 TX11 0 ∈ TB := tb_of 512 (by decide +kernel) (by decide +kernel)
theorem tw_X11_1 : u_lay RX11 TX11 1 ∈ TB := tb_of 514 (by decide +kernel) (by decide +kernel)
theorem tw_X11_2 : u_lay RX11 TX11 2 ∈ TB := tb_of 516 (by decide +kernel) (by decide +kernel)
theorem tw_X11_3 : u_lay RX11 TX11 3 ∈ TB := tb_of 518 (by decide +kernel) (by decide +kernel)
theorem tw_X11_4 : u_lay RX11 TX11 4 ∈ TB := tb_of 520 (by decide +kernel) (by decide +kernel)
theorem tw_X11_5 : u_lay RX11 TX11 5 ∈ TB := tb_of 522 (by decide +kernel) (by decide +kernel)
theorem tw_X11_6 : u_lay RX11 TX11 6 ∈ TB := tb_of 524 (by decide +kernel) (by decide +kernel)
theorem tw_X11_7 : u_lay RX11 TX11 7 ∈ TB := tb_of 526 (by decide +kernel) (by decide +kernel)
theorem tw_X11_8 : u_lay RX11 TX11 8 ∈ TB := tb_of 528 (by decide +kernel) (by decide +kernel)
theorem tw_X11_9 : u_lay RX11 TX11 9 ∈ TB := tb_of 530 (by decide +kernel) (by decide +kernel)
theorem tw_X11_10 : u_lay RX11 TX11 10 ∈ TB := tb_of 532 (by decide +kernel) (by decide +kernel)
theorem tw_X11_11 : u_lay RX11 TX11 11 ∈ TB := tb_of 534 (by decide +kernel) (by decide +kernel)
theorem tw_X11_12 : u_lay RX11 TX11 12 ∈ TB := tb_of 536 (by decide +kernel) (by decide +kernel)
theorem inT_X11 : ∀ w ∈ u_ws RX11 TX11 13, w ∈ TB := by
  intro w hw
  obtain ⟨k, hk, rfl⟩ := List.mem_map.mp hw
  have hk := List.mem_range.mp hk
  match k, hk with
  | 0, _ => exact tw_X11_0
  | 1, _ => exact tw_X11_1
  | 2, _ => exact tw_X11_2
  | 3, _ => exact tw_X11_3
  | 4, _ => exact tw_X11_4
  | 5, _ => exact tw_X11_5
  | 6, _ => exact tw_X11_6
  | 7, _ => exact tw_X11_7
  | 8, _ => exact tw_X11_8
  | 9, _ => exact tw_X11_9
  | 10, _ => exact tw_X11_10
  | 11, _ => exact tw_X11_11
  | 12, _ => exact tw_X11_12
  | k + 13, h => exact absurd h (by omega)
theorem tn_X12 : Cond.initialized RX12 ∈ TB := tb_of 123 (by decide +kernel) (by decide +kernel)
theorem tw_X12_0 : u_lay RX12 TX12 0 ∈ TB := tb_of 1401 (by decide +kernel) (by decide +kernel)
theorem tw_X12_1 : u_lay RX12 TX12 1 ∈ TB := tb_of 1403 (by decide +kernel) (by decide +kernel)
theorem tw_X12_2 : u_lay RX12 TX12 2 ∈ TB := tb_of 1405 (by decide +kernel) (by decide +kernel)
theorem tw_X12_3 : u_lay RX12 TX12 3 ∈ TB := tb_of 1407 (by decide +kernel) (by decide +kernel)
theorem tw_X12_4 : u_lay RX12 TX12 4 ∈ TB := tb_of 1409 (by decide +kernel) (by decide +kernel)
theorem tw_X12_5 : u_lay RX12 TX12 5 ∈ TB := tb_of 1411 (by decide +kernel) (by decide +kernel)
theorem tw_X12_6 : u_lay RX12 TX12 6 ∈ TB := tb_of 1413 (by decide +kernel) (by decide +kernel)
theorem tw_X12_7 : u_lay RX12 TX12 7 ∈ TB := tb_of 1415 (by decide +kernel) (by decide +kernel)
theorem tw_X12_8 : u_lay RX12 TX12 8 ∈ TB := tb_of 1417 (by decide +kernel) (by decide +kernel)
theorem tw_X12_9 : u_lay RX12 TX12 9 ∈ TB := tb_of 1419 (by decide +kernel) (by decide +kernel)
theorem tw_X12_10 : u_lay RX12 TX12 10 ∈ TB := tb_of 1421 (by decide +kernel) (by decide +kernel)
theorem tw_X12_11 : u_lay RX12 TX12 11 ∈ TB := tb_of 1423 (by decide +kernel) (by decide +kernel)
theorem tw_X12_12 : u_lay RX12 TX12 12 ∈ TB := tb_of 1425 (by decide +kernel) (by decide +kernel)
theorem tw_X12_13 : u_lay RX12 TX12 13 ∈ TB := tb_of 1427 (by decide +kernel) (by decide +kernel)
theorem tw_X12_14 : u_lay RX12 TX12 14 ∈ TB := tb_of 1429 (by decide +kernel) (by decide +kernel)
theorem tw_X12_15 : u_lay RX12 TX12 15 ∈ TB := tb_of 1431 (by decide +kernel) (by decide +kernel)
theorem tw_X12_16 : u_lay RX12 TX12 16 ∈ TB := tb_of 1433 (by decide +kernel) (by decide +kernel)
theorem tw_X12_17 : u_lay RX12 TX12 17 ∈ TB := tb_of 1435 (by decide +kernel) (by decide +kernel)
theorem tw_X12_18 : u_lay RX12 TX12 18 ∈ TB := tb_of 1437 (by decide +kernel) (by decide +kernel)
theorem tw_X12_19 : u_lay RX12 TX12 19 ∈ TB := tb_of 1439 (by decide +kernel) (by decide +kernel)
theorem tw_X12_20 : u_lay RX12 TX12 20 ∈ TB := tb_of 1441 (by decide +kernel) (by decide +kernel)
theorem tw_X12_21 : u_lay RX12 TX12 21 ∈ TB := tb_of 1443 (by decide +kernel) (by decide +kernel)
theorem tw_X12_22 : u_lay RX12 TX12 22 ∈ TB := tb_of 1445 (by decide +kernel) (by decide +kernel)
theorem tw_X12_23 : u_lay RX12 TX12 23 ∈ TB := tb_of 1447 (by decide +kernel) (by decide +kernel)
theorem tw_X12_24 : u_lay RX12 TX12 24 ∈ TB := tb_of 1449 (by decide +kernel) (by decide +kernel)
theorem tw_X12_25 : u_lay RX12 TX12 25 ∈ TB := tb_of 1451 (by decide +kernel) (by decide +kernel)
theorem tw_X12_26 : u_lay RX12 TX12 26 ∈ TB := tb_of 1453 (by decide +kernel) (by decide +kernel)
theorem tw_X12_27 : u_lay RX12 TX12 27 ∈ TB := tb_of 1455 (by decide +kernel) (by decide +kernel)
theorem tw_X12_28 : u_lay RX12 TX12 28 ∈ TB := tb_of 1457 (by decide +kernel) (by decide +kernel)
theorem tw_X12_29 : u_lay RX12 TX12 29 ∈ TB := tb_of 1459 (by decide +kernel) (by decide +kernel)
theorem tw_X12_30 : u_lay RX12 TX12 30 ∈ TB := tb_of 1461 (by decide +kernel) (by decide +kernel)
theorem tw_X12_31 : u_lay RX12 TX12 31 ∈ TB := tb_of 1463 (by decide +kernel) (by decide +kernel)
theorem tw_X12_32 : u_lay RX12 TX12 32 ∈ TB := tb_of 1465 (by decide +kernel) (by decide +kernel)
theorem tw_X12_33 : u_lay RX12 TX12 33 ∈ TB := tb_of 1467 (by decide +kernel) (by decide +kernel)
theorem tw_X12_34 : u_lay RX12 TX12 34 ∈ TB := tb_of 1469 (by decide +kernel) (by decide +kernel)
theorem tw_X12_35 : u_lay RX12 TX12 35 ∈ TB := tb_of 1471 (by decide +kernel) (by decide +kernel)
theorem tw_X12_36 : u_lay RX12 TX12 36 ∈ TB := tb_of 1473 (by decide +kernel) (by decide +kernel)
theorem tw_X12_37 : u_lay RX12 TX12 37 ∈ TB := tb_of 1475 (by decide +kernel) (by decide +kernel)
theorem tw_X12_38 : u_lay RX12 TX12 38 ∈ TB := tb_of 1477 (by decide +kernel) (by decide +kernel)
theorem tw_X12_39 : u_lay RX12 TX12 39 ∈ TB := tb_of 1479 (by decide +kernel) (by decide +kernel)
theorem tw_X12_40 : u_lay RX12 TX12 40 ∈ TB := tb_of 1481 (by decide +kernel) (by decide +kernel)
theorem tw_X12_41 : u_lay RX12 TX12 41 ∈ TB := tb_of 1483 (by decide +kernel) (by decide +kernel)
theorem tw_X12_42 : u_lay RX12 TX12 42 ∈ TB := tb_of 1485 (by decide +kernel) (by decide +kernel)
theorem tw_X12_43 : u_lay RX12 TX12 43 ∈ TB := tb_of 1487 (by decide +kernel) (by decide +kernel)
theorem tw_X12_44 : u_lay RX12 TX12 44 ∈ TB := tb_of 1489 (by decide +kernel) (by decide +kernel)
theorem tw_X12_45 : u_lay RX12 TX12 45 ∈ TB := tb_of 1491 (by decide +kernel) (by decide +kernel)
theorem tw_X12_46 : u_lay RX12 TX12 46 ∈ TB := tb_of 1493 (by decide +kernel) (by decide +kernel)
theorem tw_X12_47 : u_lay RX12 TX12 47 ∈ TB := tb_of 1495 (by decide +kernel) (by decide +kernel)
theorem tw_X12_48 : u_lay RX12 TX12 48 ∈ TB := tb_of 1497 (by decide +kernel) (by decide +kernel)
theorem tw_X12_49 : u_lay RX12 TX12 49 ∈ TB := tb_of 1499 (by decide +kernel) (by decide +kernel)
theorem tw_X12_50 : u_lay RX12 TX12 50 ∈ TB := tb_of 1501 (by decide +kernel) (by decide +kernel)
theorem inT_X12 : ∀ w ∈ u_ws RX12 TX12 51, w ∈ TB := by
  intro w hw
  obtain ⟨k, hk, rfl⟩ := List.mem_map.mp hw
  have hk := List.mem_range.mp hk
  match k, hk with
  | 0, _ => exact tw_X12_0
  | 1, _ => exact tw_X12_1
  | 2, _ => exact tw_X12_2
  | 3, _ => exact tw_X12_3
  | 4, _ => exact tw_X12_4
  | 5, _ => exact tw_X12_5
  | 6, _ => exact tw_X12_6
  | 7, _ => exact tw_X12_7
  | 8, _ => exact tw_X12_8
  | 9, _ => exact tw_X12_9
  | 10, _ => exact tw_X12_10
  | 11, _ => exact tw_X12_11
  | 12, _ => exact tw_X12_12
  | 13, _ => exact tw_X12_13
  | 14, _ => exact tw_X12_14
  | 15, _ => exact tw_X12_15
  | 16, _ => exact tw_X12_16
  | 17, _ => exact tw_X12_17
  | 18, _ => exact tw_X12_18
  | 19, _ => exact tw_X12_19
  | 20, _ => exact tw_X12_20
  | 21, _ => exact tw_X12_21
  | 22, _ => exact tw_X12_22
  | 23, _ => exact tw_X12_23
  | 24, _ => exact tw_X12_24
  | 25, _ => exact tw_X12_25
  | 26, _ => exact tw_X12_26
  | 27, _ => exact tw_X12_27
  | 28, _ => exact tw_X12_28
  | 29, _ => exact tw_X12_29
  | 30, _ => exact tw_X12_30
  | 31, _ => exact tw_X12_31
  | 32, _ => exact tw_X12_32
  | 33, _ => exact tw_X12_33
  | 34, _ => exact tw_X12_34
  | 35, _ => exact tw_X12_35
  | 36, _ => exact tw_X12_36
  | 37, _ => exact tw_X12_37
  | 38, _ => exact tw_X12_38
  | 39, _ => exact tw_X12_39
  | 40, _ => exact tw_X12_40
  | 41, _ => exact tw_X12_41
  | 42, _ => exact tw_X12_42
  | 43, _ => exact tw_X12_43
  | 44, _ => exact tw_X12_44
  | 45, _ => exact tw_X12_45
  | 46, _ => exact tw_X12_46
  | 47, _ => exact tw_X12_47
  | 48, _ => exact tw_X12_48
  | 49, _ => exact tw_X12_49
  | 50, _ => exact tw_X12_50
  | k + 51, h => exact absurd h (by omega)
theorem tn_J6 : Cond.initialized RJ6 ∈ TB := tb_of 136 (by decide +kernel) (by decide +kernel)
theorem tn_J13 : Cond.initialized RJ13 ∈ TB := tb_of 137 (by decide +kernel) (by decide +kernel)
theorem tn_J9 : Cond.initialized RJ9 ∈ TB := tb_of 128 (by decide +kernel) (by decide +kernel)
theorem tn_J0 : Cond.initialized RJ0 ∈ TB := tb_of 130 (by decide +kernel) (by decide +kernel)
theorem tn_J1 : Cond.initialized RJ1 ∈ TB := tb_of 131 (by decide +kernel) (by decide +kernel)
theorem tn_J2 : Cond.initialized RJ2 ∈ TB := tb_of 133 (by decide +kernel) (by decide +kernel)
theorem tn_J10 : Cond.initialized RJ10 ∈ TB := tb_of 134 (by decide +kernel) (by decide +kernel)
theorem tn_J7 : Cond.initialized RJ7 ∈ TB := tb_of 129 (by decide +kernel) (by decide +kernel)
theorem tn_J3 : Cond.initialized RJ3 ∈ TB := tb_of 132 (by decide +kernel) (by decide +kernel)
theorem ts_min : Cond.static Lib.Math.min.name ∈ TB := tb_of 755 (by decide +kernel) (by decide +kernel)
theorem tc_min : Cond.code Lib.Math.min.name Lib.Math.min.code 2 (some .int) ∈ TB := tb_of 756 (by decide +kernel) (by decide +kernel)
theorem ts_max : Cond.static Lib.Math.max.name ∈ TB := tb_of 705 (by decide +kernel) (by decide +kernel)
theorem tc_max : Cond.code Lib.Math.max.name Lib.Math.max.code 2 (some .int) ∈ TB := tb_of 706 (by decide +kernel) (by decide +kernel)
theorem ts_copy : Cond.static arraycopyName ∈ TB := tb_of 584 (by decide +kernel) (by decide +kernel)
theorem tnat_copy : Cond.native arraycopyName ∈ TB := tb_of 585 (by decide +kernel) (by decide +kernel)
theorem ti_X11_init : Cond.instanceMethod yX11_init ∈ TB := tb_of 141 (by decide +kernel) (by decide +kernel)
theorem tc_X11_init : Cond.code yX11_init cX11_init 1 none ∈ TB := tb_of 142 (by decide +kernel) (by decide +kernel)
theorem tm_X11_init : yX11_init.cls = RX11 ∧ yX11_init.cls ≠ "java/lang/invoke/MethodHandle" ∧ yX11_init.cls ≠ "java/lang/invoke/VarHandle" ∧ (parseMethodDescriptor yX11_init.desc).map (fun d => d.parameters.length) = some 0 := by decide +kernel
theorem tl_X11_22 : Cond.methodLinkNest RX11 22 yX0_init "FenceHeap" ∈ NST := nst_of 148 (by decide +kernel) (by decide +kernel)
theorem ti_X0_init : Cond.instanceMethod yX0_init ∈ TB := tb_of 149 (by decide +kernel) (by decide +kernel)
theorem tc_X0_init : Cond.code yX0_init cX0_init 1 none ∈ TB := tb_of 150 (by decide +kernel) (by decide +kernel)
theorem tm_X0_init : yX0_init.cls = RX0 ∧ yX0_init.cls ≠ "java/lang/invoke/MethodHandle" ∧ yX0_init.cls ≠ "java/lang/invoke/VarHandle" ∧ (parseMethodDescriptor yX0_init.desc).map (fun d => d.parameters.length) = some 0 := by decide +kernel
theorem tl_X0_11 : Cond.methodLinkNest RX0 11 yX4_init "FenceHeap" ∈ NST := nst_of 154 (by decide +kernel) (by decide +kernel)
theorem ti_X4_init : Cond.instanceMethod yX4_init ∈ TB := tb_of 155 (by decide +kernel) (by decide +kernel)
theorem tc_X4_init : Cond.code yX4_init cX4_init 1 none ∈ TB := tb_of 156 (by decide +kernel) (by decide +kernel)
theorem tm_X4_init : yX4_init.cls = RX4 ∧ yX4_init.cls ≠ "java/lang/invoke/MethodHandle" ∧ yX4_init.cls ≠ "java/lang/invoke/VarHandle" ∧ (parseMethodDescriptor yX4_init.desc).map (fun d => d.parameters.length) = some 0 := by decide +kernel
theorem tl_X4_11 : Cond.methodLinkNest RX4 11 yX1_init "FenceHeap" ∈ NST := nst_of 160 (by decide +kernel) (by decide +kernel)
theorem ti_X1_init : Cond.instanceMethod yX1_init ∈ TB := tb_of 161 (by decide +kernel) (by decide +kernel)
theorem tc_X1_init : Cond.code yX1_init cX1_init 1 none ∈ TB := tb_of 162 (by decide +kernel) (by decide +kernel)
theorem tm_X1_init : yX1_init.cls = RX1 ∧ yX1_init.cls ≠ "java/lang/invoke/MethodHandle" ∧ yX1_init.cls ≠ "java/lang/invoke/VarHandle" ∧ (parseMethodDescriptor yX1_init.desc).map (fun d => d.parameters.length) = some 0 := by decide +kernel
theorem tf_X1_9 : Cond.fieldLink RX1 9 (TX1 0).1 (TX1 0).2.1 (TX1 0).2.2.1 ∈ TB := tb_of 164 (by decide +kernel) (by decide +kernel)
theorem tf_X6_22 : Cond.fieldLink RX6 22 (TX1 0).1 (TX1 0).2.1 (TX1 0).2.2.1 ∈ TB := tb_of 165 (by decide +kernel) (by decide +kernel)
theorem tf_X9_27 : Cond.fieldLink RX9 27 (TX1 0).1 (TX1 0).2.1 (TX1 0).2.2.1 ∈ TB := tb_of 166 (by decide +kernel) (by decide +kernel)
theorem tf_X8_18 : Cond.fieldLink RX8 18 (TX1 0).1 (TX1 0).2.1 (TX1 0).2.2.1 ∈ TB := tb_of 167 (by decide +kernel) (by decide +kernel)
theorem tf_X11_166 : Cond.fieldLink RX11 166 (TX1 0).1 (TX1 0).2.1 (TX1 0).2.2.1 ∈ TB := tb_of 168 (by decide +kernel) (by decide +kernel)
theorem tf_X4_160 : Cond.fieldLink RX4 160 (TX1 0).1 (TX1 0).2.1 (TX1 0).2.2.1 ∈ TB := tb_of 169 (by decide +kernel) (by decide +kernel)
theorem tf_X1_15 : Cond.fieldLink RX1 15 (TX1 1).1 (TX1 1).2.1 (TX1 1).2.2.1 ∈ TB := tb_of 170 (by decide +kernel) (by decide +kernel)
theorem tf_X8_32 : Cond.fieldLink RX8 32 (TX1 1).1 (TX1 1).2.1 (TX1 1).2.2.1 ∈ TB := tb_of 171 (by decide +kernel) (by decide +kernel)
theorem tf_X9_49 : Cond.fieldLink RX9 49 (TX1 1).1 (TX1 1).2.1 (TX1 1).2.2.1 ∈ TB := tb_of 172 (by decide +kernel) (by decide +kernel)
theorem tf_X11_186 : Cond.fieldLink RX11 186 (TX1 1).1 (TX1 1).2.1 (TX1 1).2.2.1 ∈ TB := tb_of 173 (by decide +kernel) (by decide +kernel)
theorem tf_X1_18 : Cond.fieldLink RX1 18 (TX1 2).1 (TX1 2).2.1 (TX1 2).2.2.1 ∈ TB := tb_of 174 (by decide +kernel) (by decide +kernel)
theorem tf_X8_29 : Cond.fieldLink RX8 29 (TX1 2).1 (TX1 2).2.1 (TX1 2).2.2.1 ∈ TB := tb_of 175 (by decide +kernel) (by decide +kernel)
theorem tf_X9_42 : Cond.fieldLink RX9 42 (TX1 2).1 (TX1 2).2.1 (TX1 2).2.2.1 ∈ TB := tb_of 176 (by decide +kernel) (by decide +kernel)
theorem tf_X10_58 : Cond.fieldLink RX10 58 (TX1 2).1 (TX1 2).2.1 (TX1 2).2.2.1 ∈ TB := tb_of 177 (by decide +kernel) (by decide +kernel)
theorem tf_X11_178 : Cond.fieldLink RX11 178 (TX1 2).1 (TX1 2).2.1 (TX1 2).2.2.1 ∈ TB := tb_of 178 (by decide +kernel) (by decide +kernel)
theorem tf_X1_21 : Cond.fieldLink RX1 21 (TX1 3).1 (TX1 3).2.1 (TX1 3).2.2.1 ∈ TB := tb_of 179 (by decide +kernel) (by decide +kernel)
theorem tf_X11_181 : Cond.fieldLink RX11 181 (TX1 3).1 (TX1 3).2.1 (TX1 3).2.2.1 ∈ TB := tb_of 180 (by decide +kernel) (by decide +kernel)
theorem tf_X4_12 : Cond.fieldLink RX4 12 (TX4 0).1 (TX4 0).2.1 (TX4 0).2.2.1 ∈ TB := tb_of 191 (by decide +kernel) (by decide +kernel)
theorem tf_X6_18 : Cond.fieldLink RX6 18 (TX4 0).1 (TX4 0).2.1 (TX4 0).2.2.1 ∈ TB := tb_of 192 (by decide +kernel) (by decide +kernel)
theorem tf_X2_64 : Cond.fieldLink RX2 64 (TX4 0).1 (TX4 0).2.1 (TX4 0).2.2.1 ∈ TB := tb_of 193 (by decide +kernel) (by decide +kernel)
theorem tf_X10_54 : Cond.fieldLink RX10 54 (TX4 0).1 (TX4 0).2.1 (TX4 0).2.2.1 ∈ TB := tb_of 194 (by decide +kernel) (by decide +kernel)
theorem tf_X11_131 : Cond.fieldLink RX11 131 (TX4 0).1 (TX4 0).2.1 (TX4 0).2.2.1 ∈ TB := tb_of 195 (by decide +kernel) (by decide +kernel)
theorem tf_X4_18 : Cond.fieldLink RX4 18 (TX4 1).1 (TX4 1).2.1 (TX4 1).2.2.1 ∈ TB := tb_of 196 (by decide +kernel) (by decide +kernel)
theorem tf_X11_191 : Cond.fieldLink RX11 191 (TX4 1).1 (TX4 1).2.1 (TX4 1).2.2.1 ∈ TB := tb_of 197 (by decide +kernel) (by decide +kernel)
theorem tf_X4_22 : Cond.fieldLink RX4 22 (TX4 2).1 (TX4 2).2.1 (TX4 2).2.2.1 ∈ TB := tb_of 198 (by decide +kernel) (by decide +kernel)
theorem tf_X11_194 : Cond.fieldLink RX11 194 (TX4 2).1 (TX4 2).2.1 (TX4 2).2.2.1 ∈ TB := tb_of 199 (by decide +kernel) (by decide +kernel)
theorem tf_X4_26 : Cond.fieldLink RX4 26 (TX4 3).1 (TX4 3).2.1 (TX4 3).2.2.1 ∈ TB := tb_of 200 (by decide +kernel) (by decide +kernel)
theorem tf_X4_29 : Cond.fieldLink RX4 29 (TX4 4).1 (TX4 4).2.1 (TX4 4).2.2.1 ∈ TB := tb_of 201 (by decide +kernel) (by decide +kernel)
theorem tf_X9_65 : Cond.fieldLink RX9 65 (TX4 4).1 (TX4 4).2.1 (TX4 4).2.2.1 ∈ TB := tb_of 202 (by decide +kernel) (by decide +kernel)
theorem tf_X4_32 : Cond.fieldLink RX4 32 (TX4 5).1 (TX4 5).2.1 (TX4 5).2.2.1 ∈ TB := tb_of 203 (by decide +kernel) (by decide +kernel)
theorem tf_X9_68 : Cond.fieldLink RX9 68 (TX4 5).1 (TX4 5).2.1 (TX4 5).2.2.1 ∈ TB := tb_of 204 (by decide +kernel) (by decide +kernel)
theorem tf_X4_35 : Cond.fieldLink RX4 35 (TX4 6).1 (TX4 6).2.1 (TX4 6).2.2.1 ∈ TB := tb_of 205 (by decide +kernel) (by decide +kernel)
theorem tf_X6_84 : Cond.fieldLink RX6 84 (TX4 6).1 (TX4 6).2.1 (TX4 6).2.2.1 ∈ TB := tb_of 206 (by decide +kernel) (by decide +kernel)
theorem tf_X4_38 : Cond.fieldLink RX4 38 (TX4 7).1 (TX4 7).2.1 (TX4 7).2.2.1 ∈ TB := tb_of 207 (by decide +kernel) (by decide +kernel)
theorem tf_X6_87 : Cond.fieldLink RX6 87 (TX4 7).1 (TX4 7).2.1 (TX4 7).2.2.1 ∈ TB := tb_of 208 (by decide +kernel) (by decide +kernel)
theorem tf_X11_124 : Cond.fieldLink RX11 124 (TX4 7).1 (TX4 7).2.1 (TX4 7).2.2.1 ∈ TB := tb_of 209 (by decide +kernel) (by decide +kernel)
theorem tf_X4_41 : Cond.fieldLink RX4 41 (TX4 8).1 (TX4 8).2.1 (TX4 8).2.2.1 ∈ TB := tb_of 210 (by decide +kernel) (by decide +kernel)
theorem tf_X2_53 : Cond.fieldLink RX2 53 (TX4 8).1 (TX4 8).2.1 (TX4 8).2.2.1 ∈ TB := tb_of 211 (by decide +kernel) (by decide +kernel)
theorem tf_X10_85 : Cond.fieldLink RX10 85 (TX4 8).1 (TX4 8).2.1 (TX4 8).2.2.1 ∈ TB := tb_of 212 (by decide +kernel) (by decide +kernel)
theorem tf_X11_113 : Cond.fieldLink RX11 113 (TX4 8).1 (TX4 8).2.1 (TX4 8).2.2.1 ∈ TB := tb_of 213 (by decide +kernel) (by decide +kernel)
theorem tf_X4_44 : Cond.fieldLink RX4 44 (TX4 9).1 (TX4 9).2.1 (TX4 9).2.2.1 ∈ TB := tb_of 214 (by decide +kernel) (by decide +kernel)
theorem tf_X6_90 : Cond.fieldLink RX6 90 (TX4 9).1 (TX4 9).2.1 (TX4 9).2.2.1 ∈ TB := tb_of 215 (by decide +kernel) (by decide +kernel)
theorem tf_X11_118 : Cond.fieldLink RX11 118 (TX4 9).1 (TX4 9).2.1 (TX4 9).2.2.1 ∈ TB := tb_of 216 (by decide +kernel) (by decide +kernel)
theorem tf_X9_55 : Cond.fieldLink RX9 55 (TX4 9).1 (TX4 9).2.1 (TX4 9).2.2.1 ∈ TB := tb_of 217 (by decide +kernel) (by decide +kernel)
theorem tf_X4_47 : Cond.fieldLink RX4 47 (TX4 10).1 (TX4 10).2.1 (TX4 10).2.2.1 ∈ TB := tb_of 218 (by decide +kernel) (by decide +kernel)
theorem tf_X2_50 : Cond.fieldLink RX2 50 (TX4 10).1 (TX4 10).2.1 (TX4 10).2.2.1 ∈ TB := tb_of 219 (by decide +kernel) (by decide +kernel)
theorem tf_X6_93 : Cond.fieldLink RX6 93 (TX4 10).1 (TX4 10).2.1 (TX4 10).2.2.1 ∈ TB := tb_of 220 (by decide +kernel) (by decide +kernel)
theorem tf_X11_121 : Cond.fieldLink RX11 121 (TX4 10).1 (TX4 10).2.1 (TX4 10).2.2.1 ∈ TB := tb_of 221 (by decide +kernel) (by decide +kernel)
theorem tf_X4_50 : Cond.fieldLink RX4 50 (TX4 11).1 (TX4 11).2.1 (TX4 11).2.2.1 ∈ TB := tb_of 222 (by decide +kernel) (by decide +kernel)
theorem tf_X11_152 : Cond.fieldLink RX11 152 (TX4 11).1 (TX4 11).2.1 (TX4 11).2.2.1 ∈ TB := tb_of 223 (by decide +kernel) (by decide +kernel)
theorem tl_X0_20 : Cond.methodLinkNest RX0 20 yX3_init "FenceHeap" ∈ NST := nst_of 251 (by decide +kernel) (by decide +kernel)
theorem ti_X3_init : Cond.instanceMethod yX3_init ∈ TB := tb_of 252 (by decide +kernel) (by decide +kernel)
theorem tc_X3_init : Cond.code yX3_init cX3_init 1 none ∈ TB := tb_of 253 (by decide +kernel) (by decide +kernel)
theorem tm_X3_init : yX3_init.cls = RX3 ∧ yX3_init.cls ≠ "java/lang/invoke/MethodHandle" ∧ yX3_init.cls ≠ "java/lang/invoke/VarHandle" ∧ (parseMethodDescriptor yX3_init.desc).map (fun d => d.parameters.length) = some 0 := by decide +kernel
theorem tf_X3_11 : Cond.fieldLink RX3 11 (TX3 0).1 (TX3 0).2.1 (TX3 0).2.2.1 ∈ TB := tb_of 257 (by decide +kernel) (by decide +kernel)
theorem tf_X3_17 : Cond.fieldLink RX3 17 (TX3 1).1 (TX3 1).2.1 (TX3 1).2.2.1 ∈ TB := tb_of 258 (by decide +kernel) (by decide +kernel)
theorem tf_X3_21 : Cond.fieldLink RX3 21 (TX3 2).1 (TX3 2).2.1 (TX3 2).2.2.1 ∈ TB := tb_of 259 (by decide +kernel) (by decide +kernel)
theorem tf_X0_49 : Cond.fieldLink RX0 49 (TX3 2).1 (TX3 2).2.1 (TX3 2).2.2.1 ∈ TB := tb_of 260 (by decide +kernel) (by decide +kernel)
theorem tf_X11_144 : Cond.fieldLink RX11 144 (TX3 2).1 (TX3 2).2.1 (TX3 2).2.2.1 ∈ TB := tb_of 261 (by decide +kernel) (by decide +kernel)
theorem tf_X0_12 : Cond.fieldLink RX0 12 (TX0 0).1 (TX0 0).2.1 (TX0 0).2.2.1 ∈ TB := tb_of 269 (by decide +kernel) (by decide +kernel)
theorem tf_X11_112 : Cond.fieldLink RX11 112 (TX0 0).1 (TX0 0).2.1 (TX0 0).2.2.1 ∈ TB := tb_of 270 (by decide +kernel) (by decide +kernel)
theorem tf_X0_21 : Cond.fieldLink RX0 21 (TX0 1).1 (TX0 1).2.1 (TX0 1).2.2.1 ∈ TB := tb_of 271 (by decide +kernel) (by decide +kernel)
theorem tf_X11_140 : Cond.fieldLink RX11 140 (TX0 1).1 (TX0 1).2.1 (TX0 1).2.2.1 ∈ TB := tb_of 272 (by decide +kernel) (by decide +kernel)
theorem tf_X0_25 : Cond.fieldLink RX0 25 (TX0 2).1 (TX0 2).2.1 (TX0 2).2.2.1 ∈ TB := tb_of 273 (by decide +kernel) (by decide +kernel)
theorem tf_X11_345 : Cond.fieldLink RX11 345 (TX0 2).1 (TX0 2).2.1 (TX0 2).2.2.1 ∈ TB := tb_of 274 (by decide +kernel) (by decide +kernel)
theorem tf_X0_29 : Cond.fieldLink RX0 29 (TX0 3).1 (TX0 3).2.1 (TX0 3).2.2.1 ∈ TB := tb_of 275 (by decide +kernel) (by decide +kernel)
theorem tf_X11_149 : Cond.fieldLink RX11 149 (TX0 3).1 (TX0 3).2.1 (TX0 3).2.2.1 ∈ TB := tb_of 276 (by decide +kernel) (by decide +kernel)
theorem tf_X0_33 : Cond.fieldLink RX0 33 (TX0 4).1 (TX0 4).2.1 (TX0 4).2.2.1 ∈ TB := tb_of 277 (by decide +kernel) (by decide +kernel)
theorem tf_X11_101 : Cond.fieldLink RX11 101 (TX0 4).1 (TX0 4).2.1 (TX0 4).2.2.1 ∈ TB := tb_of 278 (by decide +kernel) (by decide +kernel)
theorem tl_X11_36 : Cond.methodLinkNest RX11 36 yX5_init "FenceHeap" ∈ NST := nst_of 292 (by decide +kernel) (by decide +kernel)
theorem ti_X5_init : Cond.instanceMethod yX5_init ∈ TB := tb_of 293 (by decide +kernel) (by decide +kernel)
theorem tc_X5_init : Cond.code yX5_init cX5_init 1 none ∈ TB := tb_of 294 (by decide +kernel) (by decide +kernel)
theorem tm_X5_init : yX5_init.cls = RX5 ∧ yX5_init.cls ≠ "java/lang/invoke/MethodHandle" ∧ yX5_init.cls ≠ "java/lang/invoke/VarHandle" ∧ (parseMethodDescriptor yX5_init.desc).map (fun d => d.parameters.length) = some 0 := by decide +kernel
theorem tl_X5_34 : Cond.methodLinkNest RX5 34 yX7_init "FenceHeap" ∈ NST := nst_of 298 (by decide +kernel) (by decide +kernel)
theorem ti_X7_init : Cond.instanceMethod yX7_init ∈ TB := tb_of 299 (by decide +kernel) (by decide +kernel)
theorem tc_X7_init : Cond.code yX7_init cX7_init 1 none ∈ TB := tb_of 300 (by decide +kernel) (by decide +kernel)
theorem tm_X7_init : yX7_init.cls = RX7 ∧ yX7_init.cls ≠ "java/lang/invoke/MethodHandle" ∧ yX7_init.cls ≠ "java/lang/invoke/VarHandle" ∧ (parseMethodDescriptor yX7_init.desc).map (fun d => d.parameters.length) = some 0 := by decide +kernel
theorem tf_X7_9 : Cond.fieldLink RX7 9 (TX7 0).1 (TX7 0).2.1 (TX7 0).2.2.1 ∈ TB := tb_of 302 (by decide +kernel) (by decide +kernel)
theorem tf_X7_15 : Cond.fieldLink RX7 15 (TX7 1).1 (TX7 1).2.1 (TX7 1).2.2.1 ∈ TB := tb_of 303 (by decide +kernel) (by decide +kernel)
theorem tf_X5_73 : Cond.fieldLinkNest RX5 73 "FenceHeap$Shape" "leaked" "I" "FenceHeap" ∈ NST := nst_of 304 (by decide +kernel) (by decide +kernel)
theorem tf_X11_380 : Cond.fieldLinkNest RX11 380 "FenceHeap$Shape" "leaked" "I" "FenceHeap" ∈ NST := nst_of 305 (by decide +kernel) (by decide +kernel)
theorem tf_X7_18 : Cond.fieldLink RX7 18 (TX7 2).1 (TX7 2).2.1 (TX7 2).2.2.1 ∈ TB := tb_of 306 (by decide +kernel) (by decide +kernel)
theorem tf_X7_21 : Cond.fieldLink RX7 21 (TX7 3).1 (TX7 3).2.1 (TX7 3).2.2.1 ∈ TB := tb_of 307 (by decide +kernel) (by decide +kernel)
theorem tf_X7_24 : Cond.fieldLink RX7 24 (TX7 4).1 (TX7 4).2.1 (TX7 4).2.2.1 ∈ TB := tb_of 308 (by decide +kernel) (by decide +kernel)
theorem tf_X5_9 : Cond.fieldLink RX5 9 (TX5 0).1 (TX5 0).2.1 (TX5 0).2.2.1 ∈ TB := tb_of 320 (by decide +kernel) (by decide +kernel)
theorem tf_X11_203 : Cond.fieldLink RX11 203 (TX5 0).1 (TX5 0).2.1 (TX5 0).2.2.1 ∈ TB := tb_of 321 (by decide +kernel) (by decide +kernel)
theorem tf_X4_101 : Cond.fieldLink RX4 101 (TX5 0).1 (TX5 0).2.1 (TX5 0).2.2.1 ∈ TB := tb_of 322 (by decide +kernel) (by decide +kernel)
theorem tf_X5_15 : Cond.fieldLink RX5 15 (TX5 1).1 (TX5 1).2.1 (TX5 1).2.2.1 ∈ TB := tb_of 323 (by decide +kernel) (by decide +kernel)
theorem tf_X4_119 : Cond.fieldLink RX4 119 (TX5 1).1 (TX5 1).2.1 (TX5 1).2.2.1 ∈ TB := tb_of 324 (by decide +kernel) (by decide +kernel)
theorem tf_X5_18 : Cond.fieldLink RX5 18 (TX5 2).1 (TX5 2).2.1 (TX5 2).2.2.1 ∈ TB := tb_of 325 (by decide +kernel) (by decide +kernel)
theorem tf_X4_132 : Cond.fieldLink RX4 132 (TX5 2).1 (TX5 2).2.1 (TX5 2).2.2.1 ∈ TB := tb_of 326 (by decide +kernel) (by decide +kernel)
theorem tf_X5_21 : Cond.fieldLink RX5 21 (TX5 3).1 (TX5 3).2.1 (TX5 3).2.2.1 ∈ TB := tb_of 327 (by decide +kernel) (by decide +kernel)
theorem tf_X4_122 : Cond.fieldLink RX4 122 (TX5 3).1 (TX5 3).2.1 (TX5 3).2.2.1 ∈ TB := tb_of 328 (by decide +kernel) (by decide +kernel)
theorem tf_X5_24 : Cond.fieldLink RX5 24 (TX5 4).1 (TX5 4).2.1 (TX5 4).2.2.1 ∈ TB := tb_of 329 (by decide +kernel) (by decide +kernel)
theorem tf_X4_116 : Cond.fieldLink RX4 116 (TX5 4).1 (TX5 4).2.1 (TX5 4).2.2.1 ∈ TB := tb_of 330 (by decide +kernel) (by decide +kernel)
theorem tf_X5_28 : Cond.fieldLink RX5 28 (TX5 5).1 (TX5 5).2.1 (TX5 5).2.2.1 ∈ TB := tb_of 331 (by decide +kernel) (by decide +kernel)
theorem tf_X5_35 : Cond.fieldLink RX5 35 (TX5 6).1 (TX5 6).2.1 (TX5 6).2.2.1 ∈ TB := tb_of 332 (by decide +kernel) (by decide +kernel)
theorem tl_X11_43 : Cond.methodLinkNest RX11 43 yX9_init "FenceHeap" ∈ NST := nst_of 350 (by decide +kernel) (by decide +kernel)
theorem ti_X9_init : Cond.instanceMethod yX9_init ∈ TB := tb_of 351 (by decide +kernel) (by decide +kernel)
theorem tc_X9_init : Cond.code yX9_init cX9_init 1 none ∈ TB := tb_of 352 (by decide +kernel) (by decide +kernel)
theorem tm_X9_init : yX9_init.cls = RX9 ∧ yX9_init.cls ≠ "java/lang/invoke/MethodHandle" ∧ yX9_init.cls ≠ "java/lang/invoke/VarHandle" ∧ (parseMethodDescriptor yX9_init.desc).map (fun d => d.parameters.length) = some 0 := by decide +kernel
theorem tf_X9_9 : Cond.fieldLink RX9 9 (TX9 0).1 (TX9 0).2.1 (TX9 0).2.2.1 ∈ TB := tb_of 354 (by decide +kernel) (by decide +kernel)
theorem tf_X9_15 : Cond.fieldLink RX9 15 (TX9 1).1 (TX9 1).2.1 (TX9 1).2.2.1 ∈ TB := tb_of 355 (by decide +kernel) (by decide +kernel)
theorem tf_X11_219 : Cond.fieldLink RX11 219 (TX9 1).1 (TX9 1).2.1 (TX9 1).2.2.1 ∈ TB := tb_of 356 (by decide +kernel) (by decide +kernel)
theorem tf_X4_145 : Cond.fieldLink RX4 145 (TX9 1).1 (TX9 1).2.1 (TX9 1).2.2.1 ∈ TB := tb_of 357 (by decide +kernel) (by decide +kernel)
theorem tf_X9_18 : Cond.fieldLink RX9 18 (TX9 2).1 (TX9 2).2.1 (TX9 2).2.2.1 ∈ TB := tb_of 358 (by decide +kernel) (by decide +kernel)
theorem tf_X11_222 : Cond.fieldLink RX11 222 (TX9 2).1 (TX9 2).2.1 (TX9 2).2.2.1 ∈ TB := tb_of 359 (by decide +kernel) (by decide +kernel)
theorem tf_X4_154 : Cond.fieldLink RX4 154 (TX9 2).1 (TX9 2).2.1 (TX9 2).2.2.1 ∈ TB := tb_of 360 (by decide +kernel) (by decide +kernel)
theorem tl_X11_50 : Cond.methodLinkNest RX11 50 yX7_init "FenceHeap" ∈ NST := nst_of 369 (by decide +kernel) (by decide +kernel)
theorem tl_X11_57 : Cond.methodLinkNest RX11 57 yX8_init "FenceHeap" ∈ NST := nst_of 372 (by decide +kernel) (by decide +kernel)
theorem ti_X8_init : Cond.instanceMethod yX8_init ∈ TB := tb_of 373 (by decide +kernel) (by decide +kernel)
theorem tc_X8_init : Cond.code yX8_init cX8_init 1 none ∈ TB := tb_of 374 (by decide +kernel) (by decide +kernel)
theorem tm_X8_init : yX8_init.cls = RX8 ∧ yX8_init.cls ≠ "java/lang/invoke/MethodHandle" ∧ yX8_init.cls ≠ "java/lang/invoke/VarHandle" ∧ (parseMethodDescriptor yX8_init.desc).map (fun d => d.parameters.length) = some 0 := by decide +kernel
theorem tf_X8_9 : Cond.fieldLink RX8 9 (TX8 0).1 (TX8 0).2.1 (TX8 0).2.2.1 ∈ TB := tb_of 376 (by decide +kernel) (by decide +kernel)
theorem tf_X8_15 : Cond.fieldLink RX8 15 (TX8 1).1 (TX8 1).2.1 (TX8 1).2.2.1 ∈ TB := tb_of 377 (by decide +kernel) (by decide +kernel)
theorem tl_X11_64 : Cond.methodLinkNest RX11 64 yX2_init "FenceHeap" ∈ NST := nst_of 385 (by decide +kernel) (by decide +kernel)
theorem ti_X2_init : Cond.instanceMethod yX2_init ∈ TB := tb_of 386 (by decide +kernel) (by decide +kernel)
theorem tc_X2_init : Cond.code yX2_init cX2_init 1 none ∈ TB := tb_of 387 (by decide +kernel) (by decide +kernel)
theorem tm_X2_init : yX2_init.cls = RX2 ∧ yX2_init.cls ≠ "java/lang/invoke/MethodHandle" ∧ yX2_init.cls ≠ "java/lang/invoke/VarHandle" ∧ (parseMethodDescriptor yX2_init.desc).map (fun d => d.parameters.length) = some 0 := by decide +kernel
theorem tl_X2_11 : Cond.methodLinkNest RX2 11 yX4_init "FenceHeap" ∈ NST := nst_of 390 (by decide +kernel) (by decide +kernel)
theorem tl_X2_20 : Cond.methodLinkNest RX2 20 yX5_init "FenceHeap" ∈ NST := nst_of 392 (by decide +kernel) (by decide +kernel)
theorem tl_X2_27 : Cond.methodLinkNest RX2 27 yX9_init "FenceHeap" ∈ NST := nst_of 394 (by decide +kernel) (by decide +kernel)
theorem tf_X2_12 : Cond.fieldLink RX2 12 (TX2 0).1 (TX2 0).2.1 (TX2 0).2.2.1 ∈ TB := tb_of 395 (by decide +kernel) (by decide +kernel)
theorem tf_X2_21 : Cond.fieldLink RX2 21 (TX2 1).1 (TX2 1).2.1 (TX2 1).2.2.1 ∈ TB := tb_of 396 (by decide +kernel) (by decide +kernel)
theorem tf_X2_28 : Cond.fieldLink RX2 28 (TX2 2).1 (TX2 2).2.1 (TX2 2).2.2.1 ∈ TB := tb_of 397 (by decide +kernel) (by decide +kernel)
theorem tf_X2_32 : Cond.fieldLink RX2 32 (TX2 3).1 (TX2 3).2.1 (TX2 3).2.2.1 ∈ TB := tb_of 398 (by decide +kernel) (by decide +kernel)
theorem tf_X11_306 : Cond.fieldLink RX11 306 (TX2 3).1 (TX2 3).2.1 (TX2 3).2.2.1 ∈ TB := tb_of 399 (by decide +kernel) (by decide +kernel)
theorem tf_X2_36 : Cond.fieldLink RX2 36 (TX2 4).1 (TX2 4).2.1 (TX2 4).2.2.1 ∈ TB := tb_of 400 (by decide +kernel) (by decide +kernel)
theorem tf_X11_309 : Cond.fieldLink RX11 309 (TX2 4).1 (TX2 4).2.1 (TX2 4).2.2.1 ∈ TB := tb_of 401 (by decide +kernel) (by decide +kernel)
theorem tf_X2_39 : Cond.fieldLink RX2 39 (TX2 5).1 (TX2 5).2.1 (TX2 5).2.2.1 ∈ TB := tb_of 402 (by decide +kernel) (by decide +kernel)
theorem tf_X11_312 : Cond.fieldLink RX11 312 (TX2 5).1 (TX2 5).2.1 (TX2 5).2.2.1 ∈ TB := tb_of 403 (by decide +kernel) (by decide +kernel)
theorem tf_X2_42 : Cond.fieldLink RX2 42 (TX2 6).1 (TX2 6).2.1 (TX2 6).2.2.1 ∈ TB := tb_of 404 (by decide +kernel) (by decide +kernel)
theorem tf_X11_303 : Cond.fieldLink RX11 303 (TX2 6).1 (TX2 6).2.1 (TX2 6).2.2.1 ∈ TB := tb_of 405 (by decide +kernel) (by decide +kernel)
theorem tl_X11_71 : Cond.methodLinkNest RX11 71 yX10_init "FenceHeap" ∈ NST := nst_of 423 (by decide +kernel) (by decide +kernel)
theorem ti_X10_init : Cond.instanceMethod yX10_init ∈ TB := tb_of 424 (by decide +kernel) (by decide +kernel)
theorem tc_X10_init : Cond.code yX10_init cX10_init 1 none ∈ TB := tb_of 425 (by decide +kernel) (by decide +kernel)
theorem tm_X10_init : yX10_init.cls = RX10 ∧ yX10_init.cls ≠ "java/lang/invoke/MethodHandle" ∧ yX10_init.cls ≠ "java/lang/invoke/VarHandle" ∧ (parseMethodDescriptor yX10_init.desc).map (fun d => d.parameters.length) = some 0 := by decide +kernel
theorem tl_X10_11 : Cond.methodLinkNest RX10 11 yX4_init "FenceHeap" ∈ NST := nst_of 428 (by decide +kernel) (by decide +kernel)
theorem tl_X10_20 : Cond.methodLinkNest RX10 20 yX5_init "FenceHeap" ∈ NST := nst_of 430 (by decide +kernel) (by decide +kernel)
theorem tl_X10_27 : Cond.methodLinkNest RX10 27 yX9_init "FenceHeap" ∈ NST := nst_of 432 (by decide +kernel) (by decide +kernel)
theorem tf_X10_12 : Cond.fieldLink RX10 12 (TX10 0).1 (TX10 0).2.1 (TX10 0).2.2.1 ∈ TB := tb_of 433 (by decide +kernel) (by decide +kernel)
theorem tf_X11_377 : Cond.fieldLink RX11 377 (TX10 0).1 (TX10 0).2.1 (TX10 0).2.2.1 ∈ TB := tb_of 434 (by decide +kernel) (by decide +kernel)
theorem tf_X10_21 : Cond.fieldLink RX10 21 (TX10 1).1 (TX10 1).2.1 (TX10 1).2.2.1 ∈ TB := tb_of 435 (by decide +kernel) (by decide +kernel)
theorem tf_X10_28 : Cond.fieldLink RX10 28 (TX10 2).1 (TX10 2).2.1 (TX10 2).2.2.1 ∈ TB := tb_of 436 (by decide +kernel) (by decide +kernel)
theorem tf_X10_32 : Cond.fieldLink RX10 32 (TX10 3).1 (TX10 3).2.1 (TX10 3).2.2.1 ∈ TB := tb_of 437 (by decide +kernel) (by decide +kernel)
theorem tf_X10_36 : Cond.fieldLink RX10 36 (TX10 4).1 (TX10 4).2.1 (TX10 4).2.2.1 ∈ TB := tb_of 438 (by decide +kernel) (by decide +kernel)
theorem tf_X11_383 : Cond.fieldLink RX11 383 (TX10 4).1 (TX10 4).2.1 (TX10 4).2.2.1 ∈ TB := tb_of 439 (by decide +kernel) (by decide +kernel)
theorem tf_X10_39 : Cond.fieldLink RX10 39 (TX10 5).1 (TX10 5).2.1 (TX10 5).2.2.1 ∈ TB := tb_of 440 (by decide +kernel) (by decide +kernel)
theorem tf_X11_386 : Cond.fieldLink RX11 386 (TX10 5).1 (TX10 5).2.1 (TX10 5).2.2.1 ∈ TB := tb_of 441 (by decide +kernel) (by decide +kernel)
theorem tl_X11_78 : Cond.methodLinkNest RX11 78 yX6_init "FenceHeap" ∈ NST := nst_of 457 (by decide +kernel) (by decide +kernel)
theorem ti_X6_init : Cond.instanceMethod yX6_init ∈ TB := tb_of 458 (by decide +kernel) (by decide +kernel)
theorem tc_X6_init : Cond.code yX6_init cX6_init 1 none ∈ TB := tb_of 459 (by decide +kernel) (by decide +kernel)
theorem tm_X6_init : yX6_init.cls = RX6 ∧ yX6_init.cls ≠ "java/lang/invoke/MethodHandle" ∧ yX6_init.cls ≠ "java/lang/invoke/VarHandle" ∧ (parseMethodDescriptor yX6_init.desc).map (fun d => d.parameters.length) = some 0 := by decide +kernel
theorem tl_X6_11 : Cond.methodLinkNest RX6 11 yX4_init "FenceHeap" ∈ NST := nst_of 462 (by decide +kernel) (by decide +kernel)
theorem tf_X6_12 : Cond.fieldLink RX6 12 (TX6 0).1 (TX6 0).2.1 (TX6 0).2.2.1 ∈ TB := tb_of 463 (by decide +kernel) (by decide +kernel)
theorem tf_X11_104 : Cond.fieldLink RX11 104 (TX6 0).1 (TX6 0).2.1 (TX6 0).2.2.1 ∈ TB := tb_of 464 (by decide +kernel) (by decide +kernel)
theorem tf_X6_28 : Cond.fieldLink RX6 28 (TX6 1).1 (TX6 1).2.1 (TX6 1).2.2.1 ∈ TB := tb_of 465 (by decide +kernel) (by decide +kernel)
theorem tf_X6_29 : Cond.fieldLink RX6 29 (TX6 2).1 (TX6 2).2.1 (TX6 2).2.2.1 ∈ TB := tb_of 466 (by decide +kernel) (by decide +kernel)
theorem tf_X6_32 : Cond.fieldLink RX6 32 (TX6 3).1 (TX6 3).2.1 (TX6 3).2.2.1 ∈ TB := tb_of 467 (by decide +kernel) (by decide +kernel)
theorem tf_X6_36 : Cond.fieldLink RX6 36 (TX6 4).1 (TX6 4).2.1 (TX6 4).2.2.1 ∈ TB := tb_of 468 (by decide +kernel) (by decide +kernel)
theorem tf_X6_39 : Cond.fieldLink RX6 39 (TX6 5).1 (TX6 5).2.1 (TX6 5).2.2.1 ∈ TB := tb_of 469 (by decide +kernel) (by decide +kernel)
theorem tf_X6_42 : Cond.fieldLink RX6 42 (TX6 6).1 (TX6 6).2.1 (TX6 6).2.2.1 ∈ TB := tb_of 470 (by decide +kernel) (by decide +kernel)
theorem tf_X11_98 : Cond.fieldLink RX11 98 (TX6 6).1 (TX6 6).2.1 (TX6 6).2.2.1 ∈ TB := tb_of 471 (by decide +kernel) (by decide +kernel)
theorem tf_X6_45 : Cond.fieldLink RX6 45 (TX6 7).1 (TX6 7).2.1 (TX6 7).2.2.1 ∈ TB := tb_of 472 (by decide +kernel) (by decide +kernel)
theorem tf_X6_48 : Cond.fieldLink RX6 48 (TX6 8).1 (TX6 8).2.1 (TX6 8).2.2.1 ∈ TB := tb_of 473 (by decide +kernel) (by decide +kernel)
theorem tf_X6_52 : Cond.fieldLink RX6 52 (TX6 9).1 (TX6 9).2.1 (TX6 9).2.2.1 ∈ TB := tb_of 474 (by decide +kernel) (by decide +kernel)
theorem tf_X6_55 : Cond.fieldLink RX6 55 (TX6 10).1 (TX6 10).2.1 (TX6 10).2.2.1 ∈ TB := tb_of 475 (by decide +kernel) (by decide +kernel)
theorem tf_X11_9 : Cond.fieldLink RX11 9 (TX11 0).1 (TX11 0).2.1 (TX11 0).2.2.1 ∈ TB := tb_of 499 (by decide +kernel) (by decide +kernel)
theorem tf_X11_13 : Cond.fieldLink RX11 13 (TX11 1).1 (TX11 1).2.1 (TX11 1).2.2.1 ∈ TB := tb_of 500 (by decide +kernel) (by decide +kernel)
theorem tf_X11_17 : Cond.fieldLink RX11 17 (TX11 2).1 (TX11 2).2.1 (TX11 2).2.2.1 ∈ TB := tb_of 501 (by decide +kernel) (by decide +kernel)
theorem tf_X11_23 : Cond.fieldLink RX11 23 (TX11 3).1 (TX11 3).2.1 (TX11 3).2.2.1 ∈ TB := tb_of 502 (by decide +kernel) (by decide +kernel)
theorem tf_X11_27 : Cond.fieldLink RX11 27 (TX11 4).1 (TX11 4).2.1 (TX11 4).2.2.1 ∈ TB := tb_of 503 (by decide +kernel) (by decide +kernel)
theorem tf_X11_30 : Cond.fieldLink RX11 30 (TX11 5).1 (TX11 5).2.1 (TX11 5).2.2.1 ∈ TB := tb_of 504 (by decide +kernel) (by decide +kernel)
theorem tf_X11_37 : Cond.fieldLink RX11 37 (TX11 6).1 (TX11 6).2.1 (TX11 6).2.2.1 ∈ TB := tb_of 505 (by decide +kernel) (by decide +kernel)
theorem tf_X11_44 : Cond.fieldLink RX11 44 (TX11 7).1 (TX11 7).2.1 (TX11 7).2.2.1 ∈ TB := tb_of 506 (by decide +kernel) (by decide +kernel)
theorem tf_X11_51 : Cond.fieldLink RX11 51 (TX11 8).1 (TX11 8).2.1 (TX11 8).2.2.1 ∈ TB := tb_of 507 (by decide +kernel) (by decide +kernel)
theorem tf_X11_58 : Cond.fieldLink RX11 58 (TX11 9).1 (TX11 9).2.1 (TX11 9).2.2.1 ∈ TB := tb_of 508 (by decide +kernel) (by decide +kernel)
theorem tf_X11_65 : Cond.fieldLink RX11 65 (TX11 10).1 (TX11 10).2.1 (TX11 10).2.2.1 ∈ TB := tb_of 509 (by decide +kernel) (by decide +kernel)
theorem tf_X11_72 : Cond.fieldLink RX11 72 (TX11 11).1 (TX11 11).2.1 (TX11 11).2.2.1 ∈ TB := tb_of 510 (by decide +kernel) (by decide +kernel)
theorem tf_X11_79 : Cond.fieldLink RX11 79 (TX11 12).1 (TX11 12).2.1 (TX11 12).2.2.1 ∈ TB := tb_of 511 (by decide +kernel) (by decide +kernel)
theorem ti_X11_feed : Cond.instanceMethod yX11_feed ∈ TB := tb_of 540 (by decide +kernel) (by decide +kernel)
theorem tz_X11_feed : Cond.selects RX11 yX11_feed yX11_feed ∈ TB := tb_of 541 (by decide +kernel) (by decide +kernel)
theorem tc_X11_feed : Cond.code yX11_feed cX11_feed 6 (some .int) ∈ TB := tb_of 542 (by decide +kernel) (by decide +kernel)
theorem tm_X11_feed : yX11_feed.cls = RX11 ∧ yX11_feed.cls ≠ "java/lang/invoke/MethodHandle" ∧ yX11_feed.cls ≠ "java/lang/invoke/VarHandle" ∧ (parseMethodDescriptor yX11_feed.desc).map (fun d => d.parameters.length) = some 5 := by decide +kernel
theorem tl_X11_83 : Cond.methodLink RX11 83 yX11_putBytes ∈ TB := tb_of 543 (by decide +kernel) (by decide +kernel)
theorem ti_X11_putBytes : Cond.instanceMethod yX11_putBytes ∈ TB := tb_of 545 (by decide +kernel) (by decide +kernel)
theorem tc_X11_putBytes : Cond.code yX11_putBytes cX11_putBytes 3 none ∈ TB := tb_of 546 (by decide +kernel) (by decide +kernel)
theorem tm_X11_putBytes : yX11_putBytes.cls = RX11 ∧ yX11_putBytes.cls ≠ "java/lang/invoke/MethodHandle" ∧ yX11_putBytes.cls ≠ "java/lang/invoke/VarHandle" ∧ (parseMethodDescriptor yX11_putBytes.desc).map (fun d => d.parameters.length) = some 1 := by decide +kernel
theorem ti_X11_fault : Cond.instanceMethod yX11_fault ∈ TB := tb_of 548 (by decide +kernel) (by decide +kernel)
theorem tz_X11_fault : Cond.selects RX11 yX11_fault yX11_fault ∈ TB := tb_of 549 (by decide +kernel) (by decide +kernel)
theorem tc_X11_fault : Cond.code yX11_fault cX11_fault 1 (some .int) ∈ TB := tb_of 550 (by decide +kernel) (by decide +kernel)
theorem tm_X11_fault : yX11_fault.cls = RX11 ∧ yX11_fault.cls ≠ "java/lang/invoke/MethodHandle" ∧ yX11_fault.cls ≠ "java/lang/invoke/VarHandle" ∧ (parseMethodDescriptor yX11_fault.desc).map (fun d => d.parameters.length) = some 0 := by decide +kernel
theorem ti_X11_orders : Cond.instanceMethod yX11_orders ∈ TB := tb_of 552 (by decide +kernel) (by decide +kernel)
theorem tz_X11_orders : Cond.selects RX11 yX11_orders yX11_orders ∈ TB := tb_of 553 (by decide +kernel) (by decide +kernel)
theorem tc_X11_orders : Cond.code yX11_orders cX11_orders 1 (some .long) ∈ TB := tb_of 554 (by decide +kernel) (by decide +kernel)
theorem tm_X11_orders : yX11_orders.cls = RX11 ∧ yX11_orders.cls ≠ "java/lang/invoke/MethodHandle" ∧ yX11_orders.cls ≠ "java/lang/invoke/VarHandle" ∧ (parseMethodDescriptor yX11_orders.desc).map (fun d => d.parameters.length) = some 0 := by decide +kernel
theorem tl_X11_197 : Cond.methodLink RX11 197 yX1_orderTotal ∈ TB := tb_of 555 (by decide +kernel) (by decide +kernel)
theorem ti_X1_orderTotal : Cond.instanceMethod yX1_orderTotal ∈ TB := tb_of 556 (by decide +kernel) (by decide +kernel)
theorem tz_X1_orderTotal : Cond.selects RX1 yX1_orderTotal yX1_orderTotal ∈ TB := tb_of 557 (by decide +kernel) (by decide +kernel)
theorem tc_X1_orderTotal : Cond.code yX1_orderTotal cX1_orderTotal 4 (some .long) ∈ TB := tb_of 558 (by decide +kernel) (by decide +kernel)
theorem tm_X1_orderTotal : yX1_orderTotal.cls = RX1 ∧ yX1_orderTotal.cls ≠ "java/lang/invoke/MethodHandle" ∧ yX1_orderTotal.cls ≠ "java/lang/invoke/VarHandle" ∧ (parseMethodDescriptor yX1_orderTotal.desc).map (fun d => d.parameters.length) = some 0 := by decide +kernel
theorem ti_X11_steps : Cond.instanceMethod yX11_steps ∈ TB := tb_of 560 (by decide +kernel) (by decide +kernel)
theorem tz_X11_steps : Cond.selects RX11 yX11_steps yX11_steps ∈ TB := tb_of 561 (by decide +kernel) (by decide +kernel)
theorem tc_X11_steps : Cond.code yX11_steps cX11_steps 4 (some .int) ∈ TB := tb_of 562 (by decide +kernel) (by decide +kernel)
theorem tm_X11_steps : yX11_steps.cls = RX11 ∧ yX11_steps.cls ≠ "java/lang/invoke/MethodHandle" ∧ yX11_steps.cls ≠ "java/lang/invoke/VarHandle" ∧ (parseMethodDescriptor yX11_steps.desc).map (fun d => d.parameters.length) = some 1 := by decide +kernel
theorem tl_X11_228 : Cond.methodLink RX11 228 yX4_canStep ∈ TB := tb_of 563 (by decide +kernel) (by decide +kernel)
theorem ti_X4_canStep : Cond.instanceMethod yX4_canStep ∈ TB := tb_of 564 (by decide +kernel) (by decide +kernel)
theorem tz_X4_canStep : Cond.selects RX4 yX4_canStep yX4_canStep ∈ TB := tb_of 565 (by decide +kernel) (by decide +kernel)
theorem tc_X4_canStep : Cond.code yX4_canStep cX4_canStep 2 (some .boolean) ∈ TB := tb_of 566 (by decide +kernel) (by decide +kernel)
theorem tm_X4_canStep : yX4_canStep.cls = RX4 ∧ yX4_canStep.cls ≠ "java/lang/invoke/MethodHandle" ∧ yX4_canStep.cls ≠ "java/lang/invoke/VarHandle" ∧ (parseMethodDescriptor yX4_canStep.desc).map (fun d => d.parameters.length) = some 1 := by decide +kernel
theorem tl_X4_63 : Cond.methodLink RX4 63 yX4_isIdle ∈ TB := tb_of 567 (by decide +kernel) (by decide +kernel)
theorem ti_X4_isIdle : Cond.instanceMethod yX4_isIdle ∈ TB := tb_of 568 (by decide +kernel) (by decide +kernel)
theorem tz_X4_isIdle : Cond.selects RX4 yX4_isIdle yX4_isIdle ∈ TB := tb_of 569 (by decide +kernel) (by decide +kernel)
theorem tc_X4_isIdle : Cond.code yX4_isIdle cX4_isIdle 1 (some .boolean) ∈ TB := tb_of 570 (by decide +kernel) (by decide +kernel)
theorem tm_X4_isIdle : yX4_isIdle.cls = RX4 ∧ yX4_isIdle.cls ≠ "java/lang/invoke/MethodHandle" ∧ yX4_isIdle.cls ≠ "java/lang/invoke/VarHandle" ∧ (parseMethodDescriptor yX4_isIdle.desc).map (fun d => d.parameters.length) = some 0 := by decide +kernel
theorem tl_X4_73 : Cond.methodLink RX4 73 yX4_isReady ∈ TB := tb_of 571 (by decide +kernel) (by decide +kernel)
theorem ti_X4_isReady : Cond.instanceMethod yX4_isReady ∈ TB := tb_of 572 (by decide +kernel) (by decide +kernel)
theorem tz_X4_isReady : Cond.selects RX4 yX4_isReady yX4_isReady ∈ TB := tb_of 573 (by decide +kernel) (by decide +kernel)
theorem tc_X4_isReady : Cond.code yX4_isReady cX4_isReady 3 (some .boolean) ∈ TB := tb_of 574 (by decide +kernel) (by decide +kernel)
theorem tm_X4_isReady : yX4_isReady.cls = RX4 ∧ yX4_isReady.cls ≠ "java/lang/invoke/MethodHandle" ∧ yX4_isReady.cls ≠ "java/lang/invoke/VarHandle" ∧ (parseMethodDescriptor yX4_isReady.desc).map (fun d => d.parameters.length) = some 1 := by decide +kernel
theorem tl_X4_67 : Cond.methodLink RX4 67 yX5_plan ∈ TB := tb_of 575 (by decide +kernel) (by decide +kernel)
theorem ti_X5_plan : Cond.instanceMethod yX5_plan ∈ TB := tb_of 576 (by decide +kernel) (by decide +kernel)
theorem tz_X5_plan : Cond.selects RX5 yX5_plan yX5_plan ∈ TB := tb_of 577 (by decide +kernel) (by decide +kernel)
theorem tc_X5_plan : Cond.code yX5_plan cX5_plan 7 (some .boolean) ∈ TB := tb_of 578 (by decide +kernel) (by decide +kernel)
theorem tm_X5_plan : yX5_plan.cls = RX5 ∧ yX5_plan.cls ≠ "java/lang/invoke/MethodHandle" ∧ yX5_plan.cls ≠ "java/lang/invoke/VarHandle" ∧ (parseMethodDescriptor yX5_plan.desc).map (fun d => d.parameters.length) = some 3 := by decide +kernel
theorem tl_X5_39 : Cond.methodLink RX5 39 yX1_fillWords ∈ TB := tb_of 579 (by decide +kernel) (by decide +kernel)
theorem ti_X1_fillWords : Cond.instanceMethod yX1_fillWords ∈ TB := tb_of 580 (by decide +kernel) (by decide +kernel)
theorem tz_X1_fillWords : Cond.selects RX1 yX1_fillWords yX1_fillWords ∈ TB := tb_of 581 (by decide +kernel) (by decide +kernel)
theorem tc_X1_fillWords : Cond.code yX1_fillWords cX1_fillWords 5 none ∈ TB := tb_of 582 (by decide +kernel) (by decide +kernel)
theorem tm_X1_fillWords : yX1_fillWords.cls = RX1 ∧ yX1_fillWords.cls ≠ "java/lang/invoke/MethodHandle" ∧ yX1_fillWords.cls ≠ "java/lang/invoke/VarHandle" ∧ (parseMethodDescriptor yX1_fillWords.desc).map (fun d => d.parameters.length) = some 1 := by decide +kernel
theorem tl_X1_24 : Cond.methodLink RX1 24 arraycopyName ∈ TB := tb_of 583 (by decide +kernel) (by decide +kernel)
theorem tl_X5_45 : Cond.methodLink RX5 45 yX5_planNew ∈ TB := tb_of 586 (by decide +kernel) (by decide +kernel)
theorem ti_X5_planNew : Cond.instanceMethod yX5_planNew ∈ TB := tb_of 588 (by decide +kernel) (by decide +kernel)
theorem tc_X5_planNew : Cond.code yX5_planNew cX5_planNew 5 none ∈ TB := tb_of 589 (by decide +kernel) (by decide +kernel)
theorem tm_X5_planNew : yX5_planNew.cls = RX5 ∧ yX5_planNew.cls ≠ "java/lang/invoke/MethodHandle" ∧ yX5_planNew.cls ≠ "java/lang/invoke/VarHandle" ∧ (parseMethodDescriptor yX5_planNew.desc).map (fun d => d.parameters.length) = some 2 := by decide +kernel
theorem tl_X5_62 : Cond.methodLinkNest RX5 62 yX11_blockAddress "FenceHeap" ∈ NST := nst_of 590 (by decide +kernel) (by decide +kernel)
theorem ts_X11_blockAddress : Cond.static yX11_blockAddress ∈ TB := tb_of 591 (by decide +kernel) (by decide +kernel)
theorem tc_X11_blockAddress : Cond.code yX11_blockAddress cX11_blockAddress 1 (some .int) ∈ TB := tb_of 592 (by decide +kernel) (by decide +kernel)
theorem tm_X11_blockAddress : yX11_blockAddress.cls = RX11 ∧ yX11_blockAddress.cls ≠ "java/lang/invoke/MethodHandle" ∧ yX11_blockAddress.cls ≠ "java/lang/invoke/VarHandle" ∧ (parseMethodDescriptor yX11_blockAddress.desc).map (fun d => d.parameters.length) = some 1 := by decide +kernel
theorem tl_X5_56 : Cond.methodLink RX5 56 yX5_write ∈ TB := tb_of 593 (by decide +kernel) (by decide +kernel)
theorem ti_X5_write : Cond.instanceMethod yX5_write ∈ TB := tb_of 595 (by decide +kernel) (by decide +kernel)
theorem tc_X5_write : Cond.code yX5_write cX5_write 3 none ∈ TB := tb_of 596 (by decide +kernel) (by decide +kernel)
theorem tm_X5_write : yX5_write.cls = RX5 ∧ yX5_write.cls ≠ "java/lang/invoke/MethodHandle" ∧ yX5_write.cls ≠ "java/lang/invoke/VarHandle" ∧ (parseMethodDescriptor yX5_write.desc).map (fun d => d.parameters.length) = some 2 := by decide +kernel
theorem tl_X5_49 : Cond.methodLink RX5 49 yX5_planDrop ∈ TB := tb_of 597 (by decide +kernel) (by decide +kernel)
theorem ti_X5_planDrop : Cond.instanceMethod yX5_planDrop ∈ TB := tb_of 599 (by decide +kernel) (by decide +kernel)
theorem tc_X5_planDrop : Cond.code yX5_planDrop cX5_planDrop 3 none ∈ TB := tb_of 600 (by decide +kernel) (by decide +kernel)
theorem tm_X5_planDrop : yX5_planDrop.cls = RX5 ∧ yX5_planDrop.cls ≠ "java/lang/invoke/MethodHandle" ∧ yX5_planDrop.cls ≠ "java/lang/invoke/VarHandle" ∧ (parseMethodDescriptor yX5_planDrop.desc).map (fun d => d.parameters.length) = some 1 := by decide +kernel
theorem tl_X5_66 : Cond.methodLinkNest RX5 66 yX11_isBlockAddress "FenceHeap" ∈ NST := nst_of 601 (by decide +kernel) (by decide +kernel)
theorem ts_X11_isBlockAddress : Cond.static yX11_isBlockAddress ∈ TB := tb_of 602 (by decide +kernel) (by decide +kernel)
theorem tc_X11_isBlockAddress : Cond.code yX11_isBlockAddress cX11_isBlockAddress 1 (some .boolean) ∈ TB := tb_of 603 (by decide +kernel) (by decide +kernel)
theorem tm_X11_isBlockAddress : yX11_isBlockAddress.cls = RX11 ∧ yX11_isBlockAddress.cls ≠ "java/lang/invoke/MethodHandle" ∧ yX11_isBlockAddress.cls ≠ "java/lang/invoke/VarHandle" ∧ (parseMethodDescriptor yX11_isBlockAddress.desc).map (fun d => d.parameters.length) = some 1 := by decide +kernel
theorem tl_X5_53 : Cond.methodLink RX5 53 yX5_planMove ∈ TB := tb_of 604 (by decide +kernel) (by decide +kernel)
theorem ti_X5_planMove : Cond.instanceMethod yX5_planMove ∈ TB := tb_of 606 (by decide +kernel) (by decide +kernel)
theorem tc_X5_planMove : Cond.code yX5_planMove cX5_planMove 4 none ∈ TB := tb_of 607 (by decide +kernel) (by decide +kernel)
theorem tm_X5_planMove : yX5_planMove.cls = RX5 ∧ yX5_planMove.cls ≠ "java/lang/invoke/MethodHandle" ∧ yX5_planMove.cls ≠ "java/lang/invoke/VarHandle" ∧ (parseMethodDescriptor yX5_planMove.desc).map (fun d => d.parameters.length) = some 2 := by decide +kernel
theorem tl_X5_59 : Cond.methodLink RX5 59 yX5_planSweep ∈ TB := tb_of 608 (by decide +kernel) (by decide +kernel)
theorem ti_X5_planSweep : Cond.instanceMethod yX5_planSweep ∈ TB := tb_of 610 (by decide +kernel) (by decide +kernel)
theorem tc_X5_planSweep : Cond.code yX5_planSweep cX5_planSweep 2 none ∈ TB := tb_of 611 (by decide +kernel) (by decide +kernel)
theorem tm_X5_planSweep : yX5_planSweep.cls = RX5 ∧ yX5_planSweep.cls ≠ "java/lang/invoke/MethodHandle" ∧ yX5_planSweep.cls ≠ "java/lang/invoke/VarHandle" ∧ (parseMethodDescriptor yX5_planSweep.desc).map (fun d => d.parameters.length) = some 0 := by decide +kernel
theorem tl_X5_70 : Cond.methodLink RX5 70 yX7_survey ∈ TB := tb_of 612 (by decide +kernel) (by decide +kernel)
theorem ti_X7_survey : Cond.instanceMethod yX7_survey ∈ TB := tb_of 613 (by decide +kernel) (by decide +kernel)
theorem tz_X7_survey : Cond.selects RX7 yX7_survey yX7_survey ∈ TB := tb_of 614 (by decide +kernel) (by decide +kernel)
theorem tc_X7_survey : Cond.code yX7_survey cX7_survey 3 none ∈ TB := tb_of 615 (by decide +kernel) (by decide +kernel)
theorem tm_X7_survey : yX7_survey.cls = RX7 ∧ yX7_survey.cls ≠ "java/lang/invoke/MethodHandle" ∧ yX7_survey.cls ≠ "java/lang/invoke/VarHandle" ∧ (parseMethodDescriptor yX7_survey.desc).map (fun d => d.parameters.length) = some 1 := by decide +kernel
theorem tl_X7_27 : Cond.methodLinkNest RX7 27 yX11_blockAddress "FenceHeap" ∈ NST := nst_of 616 (by decide +kernel) (by decide +kernel)
theorem tl_X7_31 : Cond.methodLink RX7 31 yX7_follow ∈ TB := tb_of 617 (by decide +kernel) (by decide +kernel)
theorem ti_X7_follow : Cond.instanceMethod yX7_follow ∈ TB := tb_of 619 (by decide +kernel) (by decide +kernel)
theorem tc_X7_follow : Cond.code yX7_follow cX7_follow 7 none ∈ TB := tb_of 620 (by decide +kernel) (by decide +kernel)
theorem tm_X7_follow : yX7_follow.cls = RX7 ∧ yX7_follow.cls ≠ "java/lang/invoke/MethodHandle" ∧ yX7_follow.cls ≠ "java/lang/invoke/VarHandle" ∧ (parseMethodDescriptor yX7_follow.desc).map (fun d => d.parameters.length) = some 2 := by decide +kernel
theorem tl_X7_35 : Cond.methodLinkNest RX7 35 yX11_isBlockAddress "FenceHeap" ∈ NST := nst_of 621 (by decide +kernel) (by decide +kernel)
theorem tl_X11_232 : Cond.methodLink RX11 232 yX11_refuseAct ∈ TB := tb_of 622 (by decide +kernel) (by decide +kernel)
theorem ti_X11_refuseAct : Cond.instanceMethod yX11_refuseAct ∈ TB := tb_of 624 (by decide +kernel) (by decide +kernel)
theorem tc_X11_refuseAct : Cond.code yX11_refuseAct cX11_refuseAct 1 (some .int) ∈ TB := tb_of 625 (by decide +kernel) (by decide +kernel)
theorem tm_X11_refuseAct : yX11_refuseAct.cls = RX11 ∧ yX11_refuseAct.cls ≠ "java/lang/invoke/MethodHandle" ∧ yX11_refuseAct.cls ≠ "java/lang/invoke/VarHandle" ∧ (parseMethodDescriptor yX11_refuseAct.desc).map (fun d => d.parameters.length) = some 0 := by decide +kernel
theorem tl_X11_235 : Cond.methodLink RX11 235 yX3_keep ∈ TB := tb_of 626 (by decide +kernel) (by decide +kernel)
theorem ti_X3_keep : Cond.instanceMethod yX3_keep ∈ TB := tb_of 627 (by decide +kernel) (by decide +kernel)
theorem tz_X3_keep : Cond.selects RX3 yX3_keep yX3_keep ∈ TB := tb_of 628 (by decide +kernel) (by decide +kernel)
theorem tc_X3_keep : Cond.code yX3_keep cX3_keep 2 none ∈ TB := tb_of 629 (by decide +kernel) (by decide +kernel)
theorem tm_X3_keep : yX3_keep.cls = RX3 ∧ yX3_keep.cls ≠ "java/lang/invoke/MethodHandle" ∧ yX3_keep.cls ≠ "java/lang/invoke/VarHandle" ∧ (parseMethodDescriptor yX3_keep.desc).map (fun d => d.parameters.length) = some 1 := by decide +kernel
theorem tl_X3_25 : Cond.methodLink RX3 25 yX3_rowAt ∈ TB := tb_of 630 (by decide +kernel) (by decide +kernel)
theorem ti_X3_rowAt : Cond.instanceMethod yX3_rowAt ∈ TB := tb_of 632 (by decide +kernel) (by decide +kernel)
theorem tc_X3_rowAt : Cond.code yX3_rowAt cX3_rowAt 3 (some (.object "FenceHeap$Machine")) ∈ TB := tb_of 633 (by decide +kernel) (by decide +kernel)
theorem tm_X3_rowAt : yX3_rowAt.cls = RX3 ∧ yX3_rowAt.cls ≠ "java/lang/invoke/MethodHandle" ∧ yX3_rowAt.cls ≠ "java/lang/invoke/VarHandle" ∧ (parseMethodDescriptor yX3_rowAt.desc).map (fun d => d.parameters.length) = some 1 := by decide +kernel
theorem tl_X3_24 : Cond.methodLinkNest RX3 24 yX4_init "FenceHeap" ∈ NST := nst_of 634 (by decide +kernel) (by decide +kernel)
theorem tl_X3_29 : Cond.methodLink RX3 29 yX4_copyFrom ∈ TB := tb_of 635 (by decide +kernel) (by decide +kernel)
theorem ti_X4_copyFrom : Cond.instanceMethod yX4_copyFrom ∈ TB := tb_of 636 (by decide +kernel) (by decide +kernel)
theorem tz_X4_copyFrom : Cond.selects RX4 yX4_copyFrom yX4_copyFrom ∈ TB := tb_of 637 (by decide +kernel) (by decide +kernel)
theorem tc_X4_copyFrom : Cond.code yX4_copyFrom cX4_copyFrom 2 none ∈ TB := tb_of 638 (by decide +kernel) (by decide +kernel)
theorem tm_X4_copyFrom : yX4_copyFrom.cls = RX4 ∧ yX4_copyFrom.cls ≠ "java/lang/invoke/MethodHandle" ∧ yX4_copyFrom.cls ≠ "java/lang/invoke/VarHandle" ∧ (parseMethodDescriptor yX4_copyFrom.desc).map (fun d => d.parameters.length) = some 1 := by decide +kernel
theorem tl_X4_53 : Cond.methodLink RX4 53 yX1_copyFrom ∈ TB := tb_of 639 (by decide +kernel) (by decide +kernel)
theorem ti_X1_copyFrom : Cond.instanceMethod yX1_copyFrom ∈ TB := tb_of 640 (by decide +kernel) (by decide +kernel)
theorem tz_X1_copyFrom : Cond.selects RX1 yX1_copyFrom yX1_copyFrom ∈ TB := tb_of 641 (by decide +kernel) (by decide +kernel)
theorem tc_X1_copyFrom : Cond.code yX1_copyFrom cX1_copyFrom 2 none ∈ TB := tb_of 642 (by decide +kernel) (by decide +kernel)
theorem tm_X1_copyFrom : yX1_copyFrom.cls = RX1 ∧ yX1_copyFrom.cls ≠ "java/lang/invoke/MethodHandle" ∧ yX1_copyFrom.cls ≠ "java/lang/invoke/VarHandle" ∧ (parseMethodDescriptor yX1_copyFrom.desc).map (fun d => d.parameters.length) = some 1 := by decide +kernel
theorem tl_X4_57 : Cond.methodLink RX4 57 arraycopyName ∈ TB := tb_of 643 (by decide +kernel) (by decide +kernel)
theorem tl_X11_238 : Cond.methodLink RX11 238 yX4_step ∈ TB := tb_of 644 (by decide +kernel) (by decide +kernel)
theorem ti_X4_step : Cond.instanceMethod yX4_step ∈ TB := tb_of 645 (by decide +kernel) (by decide +kernel)
theorem tz_X4_step : Cond.selects RX4 yX4_step yX4_step ∈ TB := tb_of 646 (by decide +kernel) (by decide +kernel)
theorem tc_X4_step : Cond.code yX4_step cX4_step 4 (some .boolean) ∈ TB := tb_of 647 (by decide +kernel) (by decide +kernel)
theorem tm_X4_step : yX4_step.cls = RX4 ∧ yX4_step.cls ≠ "java/lang/invoke/MethodHandle" ∧ yX4_step.cls ≠ "java/lang/invoke/VarHandle" ∧ (parseMethodDescriptor yX4_step.desc).map (fun d => d.parameters.length) = some 1 := by decide +kernel
theorem tl_X4_77 : Cond.methodLink RX4 77 yX4_takeWaiting ∈ TB := tb_of 648 (by decide +kernel) (by decide +kernel)
theorem ti_X4_takeWaiting : Cond.instanceMethod yX4_takeWaiting ∈ TB := tb_of 650 (by decide +kernel) (by decide +kernel)
theorem tc_X4_takeWaiting : Cond.code yX4_takeWaiting cX4_takeWaiting 1 none ∈ TB := tb_of 651 (by decide +kernel) (by decide +kernel)
theorem tm_X4_takeWaiting : yX4_takeWaiting.cls = RX4 ∧ yX4_takeWaiting.cls ≠ "java/lang/invoke/MethodHandle" ∧ yX4_takeWaiting.cls ≠ "java/lang/invoke/VarHandle" ∧ (parseMethodDescriptor yX4_takeWaiting.desc).map (fun d => d.parameters.length) = some 0 := by decide +kernel
theorem tl_X4_80 : Cond.methodLink RX4 80 yX4_begin ∈ TB := tb_of 652 (by decide +kernel) (by decide +kernel)
theorem ti_X4_begin : Cond.instanceMethod yX4_begin ∈ TB := tb_of 654 (by decide +kernel) (by decide +kernel)
theorem tc_X4_begin : Cond.code yX4_begin cX4_begin 2 none ∈ TB := tb_of 655 (by decide +kernel) (by decide +kernel)
theorem tm_X4_begin : yX4_begin.cls = RX4 ∧ yX4_begin.cls ≠ "java/lang/invoke/MethodHandle" ∧ yX4_begin.cls ≠ "java/lang/invoke/VarHandle" ∧ (parseMethodDescriptor yX4_begin.desc).map (fun d => d.parameters.length) = some 1 := by decide +kernel
theorem tl_X4_104 : Cond.methodLink RX4 104 yX4_dropMicros ∈ TB := tb_of 656 (by decide +kernel) (by decide +kernel)
theorem ti_X4_dropMicros : Cond.instanceMethod yX4_dropMicros ∈ TB := tb_of 657 (by decide +kernel) (by decide +kernel)
theorem tz_X4_dropMicros : Cond.selects RX4 yX4_dropMicros yX4_dropMicros ∈ TB := tb_of 658 (by decide +kernel) (by decide +kernel)
theorem tc_X4_dropMicros : Cond.code yX4_dropMicros cX4_dropMicros 1 none ∈ TB := tb_of 659 (by decide +kernel) (by decide +kernel)
theorem tm_X4_dropMicros : yX4_dropMicros.cls = RX4 ∧ yX4_dropMicros.cls ≠ "java/lang/invoke/MethodHandle" ∧ yX4_dropMicros.cls ≠ "java/lang/invoke/VarHandle" ∧ (parseMethodDescriptor yX4_dropMicros.desc).map (fun d => d.parameters.length) = some 0 := by decide +kernel
theorem tl_X4_107 : Cond.methodLink RX4 107 yX4_addUndoing ∈ TB := tb_of 660 (by decide +kernel) (by decide +kernel)
theorem ti_X4_addUndoing : Cond.instanceMethod yX4_addUndoing ∈ TB := tb_of 662 (by decide +kernel) (by decide +kernel)
theorem tc_X4_addUndoing : Cond.code yX4_addUndoing cX4_addUndoing 3 none ∈ TB := tb_of 663 (by decide +kernel) (by decide +kernel)
theorem tm_X4_addUndoing : yX4_addUndoing.cls = RX4 ∧ yX4_addUndoing.cls ≠ "java/lang/invoke/MethodHandle" ∧ yX4_addUndoing.cls ≠ "java/lang/invoke/VarHandle" ∧ (parseMethodDescriptor yX4_addUndoing.desc).map (fun d => d.parameters.length) = some 1 := by decide +kernel
theorem tl_X4_125 : Cond.methodLink RX4 125 yX4_addEntry ∈ TB := tb_of 664 (by decide +kernel) (by decide +kernel)
theorem ti_X4_addEntry : Cond.instanceMethod yX4_addEntry ∈ TB := tb_of 666 (by decide +kernel) (by decide +kernel)
theorem tc_X4_addEntry : Cond.code yX4_addEntry cX4_addEntry 5 none ∈ TB := tb_of 667 (by decide +kernel) (by decide +kernel)
theorem tm_X4_addEntry : yX4_addEntry.cls = RX4 ∧ yX4_addEntry.cls ≠ "java/lang/invoke/MethodHandle" ∧ yX4_addEntry.cls ≠ "java/lang/invoke/VarHandle" ∧ (parseMethodDescriptor yX4_addEntry.desc).map (fun d => d.parameters.length) = some 3 := by decide +kernel
theorem tl_X4_135 : Cond.methodLink RX4 135 yX4_addMicro ∈ TB := tb_of 668 (by decide +kernel) (by decide +kernel)
theorem ti_X4_addMicro : Cond.instanceMethod yX4_addMicro ∈ TB := tb_of 670 (by decide +kernel) (by decide +kernel)
theorem tc_X4_addMicro : Cond.code yX4_addMicro cX4_addMicro 4 none ∈ TB := tb_of 671 (by decide +kernel) (by decide +kernel)
theorem tm_X4_addMicro : yX4_addMicro.cls = RX4 ∧ yX4_addMicro.cls ≠ "java/lang/invoke/MethodHandle" ∧ yX4_addMicro.cls ≠ "java/lang/invoke/VarHandle" ∧ (parseMethodDescriptor yX4_addMicro.desc).map (fun d => d.parameters.length) = some 3 := by decide +kernel
theorem tl_X4_141 : Cond.methodLink RX4 141 yX4_isLeftOut ∈ TB := tb_of 672 (by decide +kernel) (by decide +kernel)
theorem ti_X4_isLeftOut : Cond.instanceMethod yX4_isLeftOut ∈ TB := tb_of 674 (by decide +kernel) (by decide +kernel)
theorem tc_X4_isLeftOut : Cond.code yX4_isLeftOut cX4_isLeftOut 2 (some .boolean) ∈ TB := tb_of 675 (by decide +kernel) (by decide +kernel)
theorem tm_X4_isLeftOut : yX4_isLeftOut.cls = RX4 ∧ yX4_isLeftOut.cls ≠ "java/lang/invoke/MethodHandle" ∧ yX4_isLeftOut.cls ≠ "java/lang/invoke/VarHandle" ∧ (parseMethodDescriptor yX4_isLeftOut.desc).map (fun d => d.parameters.length) = some 1 := by decide +kernel
theorem tl_X4_129 : Cond.methodLink RX4 129 yX4_addCount ∈ TB := tb_of 676 (by decide +kernel) (by decide +kernel)
theorem ti_X4_addCount : Cond.instanceMethod yX4_addCount ∈ TB := tb_of 678 (by decide +kernel) (by decide +kernel)
theorem tc_X4_addCount : Cond.code yX4_addCount cX4_addCount 4 none ∈ TB := tb_of 679 (by decide +kernel) (by decide +kernel)
theorem tm_X4_addCount : yX4_addCount.cls = RX4 ∧ yX4_addCount.cls ≠ "java/lang/invoke/MethodHandle" ∧ yX4_addCount.cls ≠ "java/lang/invoke/VarHandle" ∧ (parseMethodDescriptor yX4_addCount.desc).map (fun d => d.parameters.length) = some 3 := by decide +kernel
theorem tl_X4_110 : Cond.methodLink RX4 110 yX4_addRedoing ∈ TB := tb_of 680 (by decide +kernel) (by decide +kernel)
theorem ti_X4_addRedoing : Cond.instanceMethod yX4_addRedoing ∈ TB := tb_of 682 (by decide +kernel) (by decide +kernel)
theorem tc_X4_addRedoing : Cond.code yX4_addRedoing cX4_addRedoing 3 none ∈ TB := tb_of 683 (by decide +kernel) (by decide +kernel)
theorem tm_X4_addRedoing : yX4_addRedoing.cls = RX4 ∧ yX4_addRedoing.cls ≠ "java/lang/invoke/MethodHandle" ∧ yX4_addRedoing.cls ≠ "java/lang/invoke/VarHandle" ∧ (parseMethodDescriptor yX4_addRedoing.desc).map (fun d => d.parameters.length) = some 1 := by decide +kernel
theorem tl_X4_138 : Cond.methodLink RX4 138 yX4_addWrites ∈ TB := tb_of 684 (by decide +kernel) (by decide +kernel)
theorem ti_X4_addWrites : Cond.instanceMethod yX4_addWrites ∈ TB := tb_of 686 (by decide +kernel) (by decide +kernel)
theorem tc_X4_addWrites : Cond.code yX4_addWrites cX4_addWrites 3 none ∈ TB := tb_of 687 (by decide +kernel) (by decide +kernel)
theorem tm_X4_addWrites : yX4_addWrites.cls = RX4 ∧ yX4_addWrites.cls ≠ "java/lang/invoke/MethodHandle" ∧ yX4_addWrites.cls ≠ "java/lang/invoke/VarHandle" ∧ (parseMethodDescriptor yX4_addWrites.desc).map (fun d => d.parameters.length) = some 1 := by decide +kernel
theorem tl_X4_113 : Cond.methodLink RX4 113 yX4_addEnding ∈ TB := tb_of 688 (by decide +kernel) (by decide +kernel)
theorem ti_X4_addEnding : Cond.instanceMethod yX4_addEnding ∈ TB := tb_of 690 (by decide +kernel) (by decide +kernel)
theorem tc_X4_addEnding : Cond.code yX4_addEnding cX4_addEnding 5 none ∈ TB := tb_of 691 (by decide +kernel) (by decide +kernel)
theorem tm_X4_addEnding : yX4_addEnding.cls = RX4 ∧ yX4_addEnding.cls ≠ "java/lang/invoke/MethodHandle" ∧ yX4_addEnding.cls ≠ "java/lang/invoke/VarHandle" ∧ (parseMethodDescriptor yX4_addEnding.desc).map (fun d => d.parameters.length) = some 1 := by decide +kernel
theorem tl_X4_84 : Cond.methodLink RX4 84 yX4_doMicro ∈ TB := tb_of 692 (by decide +kernel) (by decide +kernel)
theorem ti_X4_doMicro : Cond.instanceMethod yX4_doMicro ∈ TB := tb_of 694 (by decide +kernel) (by decide +kernel)
theorem tc_X4_doMicro : Cond.code yX4_doMicro cX4_doMicro 4 none ∈ TB := tb_of 695 (by decide +kernel) (by decide +kernel)
theorem tm_X4_doMicro : yX4_doMicro.cls = RX4 ∧ yX4_doMicro.cls ≠ "java/lang/invoke/MethodHandle" ∧ yX4_doMicro.cls ≠ "java/lang/invoke/VarHandle" ∧ (parseMethodDescriptor yX4_doMicro.desc).map (fun d => d.parameters.length) = some 1 := by decide +kernel
theorem tl_X4_91 : Cond.methodLink RX4 91 yX1_put ∈ TB := tb_of 696 (by decide +kernel) (by decide +kernel)
theorem ti_X1_put : Cond.instanceMethod yX1_put ∈ TB := tb_of 697 (by decide +kernel) (by decide +kernel)
theorem tz_X1_put : Cond.selects RX1 yX1_put yX1_put ∈ TB := tb_of 698 (by decide +kernel) (by decide +kernel)
theorem tc_X1_put : Cond.code yX1_put cX1_put 4 none ∈ TB := tb_of 699 (by decide +kernel) (by decide +kernel)
theorem tm_X1_put : yX1_put.cls = RX1 ∧ yX1_put.cls ≠ "java/lang/invoke/MethodHandle" ∧ yX1_put.cls ≠ "java/lang/invoke/VarHandle" ∧ (parseMethodDescriptor yX1_put.desc).map (fun d => d.parameters.length) = some 2 := by decide +kernel
theorem tl_X1_36 : Cond.methodLink RX1 36 yX1_reach ∈ TB := tb_of 700 (by decide +kernel) (by decide +kernel)
theorem ti_X1_reach : Cond.instanceMethod yX1_reach ∈ TB := tb_of 701 (by decide +kernel) (by decide +kernel)
theorem tz_X1_reach : Cond.selects RX1 yX1_reach yX1_reach ∈ TB := tb_of 702 (by decide +kernel) (by decide +kernel)
theorem tc_X1_reach : Cond.code yX1_reach cX1_reach 5 none ∈ TB := tb_of 703 (by decide +kernel) (by decide +kernel)
theorem tm_X1_reach : yX1_reach.cls = RX1 ∧ yX1_reach.cls ≠ "java/lang/invoke/MethodHandle" ∧ yX1_reach.cls ≠ "java/lang/invoke/VarHandle" ∧ (parseMethodDescriptor yX1_reach.desc).map (fun d => d.parameters.length) = some 2 := by decide +kernel
theorem tl_X1_40 : Cond.methodLink RX1 40 Lib.Math.max.name ∈ TB := tb_of 704 (by decide +kernel) (by decide +kernel)
theorem tl_X4_95 : Cond.methodLink RX4 95 yX1_ask ∈ TB := tb_of 707 (by decide +kernel) (by decide +kernel)
theorem ti_X1_ask : Cond.instanceMethod yX1_ask ∈ TB := tb_of 708 (by decide +kernel) (by decide +kernel)
theorem tz_X1_ask : Cond.selects RX1 yX1_ask yX1_ask ∈ TB := tb_of 709 (by decide +kernel) (by decide +kernel)
theorem tc_X1_ask : Cond.code yX1_ask cX1_ask 2 none ∈ TB := tb_of 710 (by decide +kernel) (by decide +kernel)
theorem tm_X1_ask : yX1_ask.cls = RX1 ∧ yX1_ask.cls ≠ "java/lang/invoke/MethodHandle" ∧ yX1_ask.cls ≠ "java/lang/invoke/VarHandle" ∧ (parseMethodDescriptor yX1_ask.desc).map (fun d => d.parameters.length) = some 1 := by decide +kernel
theorem tl_X4_98 : Cond.methodLink RX4 98 yX1_await ∈ TB := tb_of 711 (by decide +kernel) (by decide +kernel)
theorem ti_X1_await : Cond.instanceMethod yX1_await ∈ TB := tb_of 712 (by decide +kernel) (by decide +kernel)
theorem tz_X1_await : Cond.selects RX1 yX1_await yX1_await ∈ TB := tb_of 713 (by decide +kernel) (by decide +kernel)
theorem tc_X1_await : Cond.code yX1_await cX1_await 2 none ∈ TB := tb_of 714 (by decide +kernel) (by decide +kernel)
theorem tm_X1_await : yX1_await.cls = RX1 ∧ yX1_await.cls ≠ "java/lang/invoke/MethodHandle" ∧ yX1_await.cls ≠ "java/lang/invoke/VarHandle" ∧ (parseMethodDescriptor yX1_await.desc).map (fun d => d.parameters.length) = some 0 := by decide +kernel
theorem tl_X4_88 : Cond.methodLink RX4 88 yX4_finish ∈ TB := tb_of 715 (by decide +kernel) (by decide +kernel)
theorem ti_X4_finish : Cond.instanceMethod yX4_finish ∈ TB := tb_of 717 (by decide +kernel) (by decide +kernel)
theorem tc_X4_finish : Cond.code yX4_finish cX4_finish 1 none ∈ TB := tb_of 718 (by decide +kernel) (by decide +kernel)
theorem tm_X4_finish : yX4_finish.cls = RX4 ∧ yX4_finish.cls ≠ "java/lang/invoke/MethodHandle" ∧ yX4_finish.cls ≠ "java/lang/invoke/VarHandle" ∧ (parseMethodDescriptor yX4_finish.desc).map (fun d => d.parameters.length) = some 0 := by decide +kernel
theorem ti_X11_crash : Cond.instanceMethod yX11_crash ∈ TB := tb_of 720 (by decide +kernel) (by decide +kernel)
theorem tz_X11_crash : Cond.selects RX11 yX11_crash yX11_crash ∈ TB := tb_of 721 (by decide +kernel) (by decide +kernel)
theorem tc_X11_crash : Cond.code yX11_crash cX11_crash 4 (some .int) ∈ TB := tb_of 722 (by decide +kernel) (by decide +kernel)
theorem tm_X11_crash : yX11_crash.cls = RX11 ∧ yX11_crash.cls ≠ "java/lang/invoke/MethodHandle" ∧ yX11_crash.cls ≠ "java/lang/invoke/VarHandle" ∧ (parseMethodDescriptor yX11_crash.desc).map (fun d => d.parameters.length) = some 1 := by decide +kernel
theorem tl_X11_245 : Cond.methodLink RX11 245 yX11_isOrder ∈ TB := tb_of 723 (by decide +kernel) (by decide +kernel)
theorem ti_X11_isOrder : Cond.instanceMethod yX11_isOrder ∈ TB := tb_of 725 (by decide +kernel) (by decide +kernel)
theorem tc_X11_isOrder : Cond.code yX11_isOrder cX11_isOrder 2 (some .boolean) ∈ TB := tb_of 726 (by decide +kernel) (by decide +kernel)
theorem tm_X11_isOrder : yX11_isOrder.cls = RX11 ∧ yX11_isOrder.cls ≠ "java/lang/invoke/MethodHandle" ∧ yX11_isOrder.cls ≠ "java/lang/invoke/VarHandle" ∧ (parseMethodDescriptor yX11_isOrder.desc).map (fun d => d.parameters.length) = some 1 := by decide +kernel
theorem tl_X11_248 : Cond.methodLink RX11 248 yX9_open ∈ TB := tb_of 727 (by decide +kernel) (by decide +kernel)
theorem ti_X9_open : Cond.instanceMethod yX9_open ∈ TB := tb_of 728 (by decide +kernel) (by decide +kernel)
theorem tz_X9_open : Cond.selects RX9 yX9_open yX9_open ∈ TB := tb_of 729 (by decide +kernel) (by decide +kernel)
theorem tc_X9_open : Cond.code yX9_open cX9_open 6 none ∈ TB := tb_of 730 (by decide +kernel) (by decide +kernel)
theorem tm_X9_open : yX9_open.cls = RX9 ∧ yX9_open.cls ≠ "java/lang/invoke/MethodHandle" ∧ yX9_open.cls ≠ "java/lang/invoke/VarHandle" ∧ (parseMethodDescriptor yX9_open.desc).map (fun d => d.parameters.length) = some 2 := by decide +kernel
theorem tl_X9_38 : Cond.methodLink RX9 38 yX9_start ∈ TB := tb_of 731 (by decide +kernel) (by decide +kernel)
theorem ti_X9_start : Cond.instanceMethod yX9_start ∈ TB := tb_of 732 (by decide +kernel) (by decide +kernel)
theorem tz_X9_start : Cond.selects RX9 yX9_start yX9_start ∈ TB := tb_of 733 (by decide +kernel) (by decide +kernel)
theorem tc_X9_start : Cond.code yX9_start cX9_start 2 none ∈ TB := tb_of 734 (by decide +kernel) (by decide +kernel)
theorem tm_X9_start : yX9_start.cls = RX9 ∧ yX9_start.cls ≠ "java/lang/invoke/MethodHandle" ∧ yX9_start.cls ≠ "java/lang/invoke/VarHandle" ∧ (parseMethodDescriptor yX9_start.desc).map (fun d => d.parameters.length) = some 1 := by decide +kernel
theorem tl_X9_21 : Cond.methodLink RX9 21 yJ7_fill_53178 ∈ TB := tb_of 735 (by decide +kernel) (by decide +kernel)
theorem ts_J7_fill_53178 : Cond.static yJ7_fill_53178 ∈ TB := tb_of 736 (by decide +kernel) (by decide +kernel)
theorem tc_J7_fill_53178 : Cond.code yJ7_fill_53178 cJ7_fill_53178 4 none ∈ TB := tb_of 737 (by decide +kernel) (by decide +kernel)
theorem tm_J7_fill_53178 : yJ7_fill_53178.cls = RJ7 ∧ yJ7_fill_53178.cls ≠ "java/lang/invoke/MethodHandle" ∧ yJ7_fill_53178.cls ≠ "java/lang/invoke/VarHandle" ∧ (parseMethodDescriptor yJ7_fill_53178.desc).map (fun d => d.parameters.length) = some 2 := by decide +kernel
theorem tl_X9_32 : Cond.methodLink RX9 32 arraycopyName ∈ TB := tb_of 738 (by decide +kernel) (by decide +kernel)
theorem tl_X9_45 : Cond.methodLink RX9 45 yX9_raise ∈ TB := tb_of 739 (by decide +kernel) (by decide +kernel)
theorem ti_X9_raise : Cond.instanceMethod yX9_raise ∈ TB := tb_of 740 (by decide +kernel) (by decide +kernel)
theorem tz_X9_raise : Cond.selects RX9 yX9_raise yX9_raise ∈ TB := tb_of 741 (by decide +kernel) (by decide +kernel)
theorem tc_X9_raise : Cond.code yX9_raise cX9_raise 6 none ∈ TB := tb_of 742 (by decide +kernel) (by decide +kernel)
theorem tm_X9_raise : yX9_raise.cls = RX9 ∧ yX9_raise.cls ≠ "java/lang/invoke/MethodHandle" ∧ yX9_raise.cls ≠ "java/lang/invoke/VarHandle" ∧ (parseMethodDescriptor yX9_raise.desc).map (fun d => d.parameters.length) = some 3 := by decide +kernel
theorem tl_X11_252 : Cond.methodLink RX11 252 yX9_fateBy ∈ TB := tb_of 743 (by decide +kernel) (by decide +kernel)
theorem ti_X9_fateBy : Cond.instanceMethod yX9_fateBy ∈ TB := tb_of 744 (by decide +kernel) (by decide +kernel)
theorem tz_X9_fateBy : Cond.selects RX9 yX9_fateBy yX9_fateBy ∈ TB := tb_of 745 (by decide +kernel) (by decide +kernel)
theorem tc_X9_fateBy : Cond.code yX9_fateBy cX9_fateBy 6 (some .int) ∈ TB := tb_of 746 (by decide +kernel) (by decide +kernel)
theorem tm_X9_fateBy : yX9_fateBy.cls = RX9 ∧ yX9_fateBy.cls ≠ "java/lang/invoke/MethodHandle" ∧ yX9_fateBy.cls ≠ "java/lang/invoke/VarHandle" ∧ (parseMethodDescriptor yX9_fateBy.desc).map (fun d => d.parameters.length) = some 1 := by decide +kernel
theorem tl_X9_61 : Cond.methodLink RX9 61 yX9_recoverPicture ∈ TB := tb_of 747 (by decide +kernel) (by decide +kernel)
theorem ti_X9_recoverPicture : Cond.instanceMethod yX9_recoverPicture ∈ TB := tb_of 748 (by decide +kernel) (by decide +kernel)
theorem tz_X9_recoverPicture : Cond.selects RX9 yX9_recoverPicture yX9_recoverPicture ∈ TB := tb_of 749 (by decide +kernel) (by decide +kernel)
theorem tc_X9_recoverPicture : Cond.code yX9_recoverPicture cX9_recoverPicture 2 none ∈ TB := tb_of 750 (by decide +kernel) (by decide +kernel)
theorem tm_X9_recoverPicture : yX9_recoverPicture.cls = RX9 ∧ yX9_recoverPicture.cls ≠ "java/lang/invoke/MethodHandle" ∧ yX9_recoverPicture.cls ≠ "java/lang/invoke/VarHandle" ∧ (parseMethodDescriptor yX9_recoverPicture.desc).map (fun d => d.parameters.length) = some 1 := by decide +kernel
theorem tl_X9_52 : Cond.methodLinkNest RX9 52 yX11_recoverWords "FenceHeap" ∈ NST := nst_of 751 (by decide +kernel) (by decide +kernel)
theorem ts_X11_recoverWords : Cond.static yX11_recoverWords ∈ TB := tb_of 752 (by decide +kernel) (by decide +kernel)
theorem tc_X11_recoverWords : Cond.code yX11_recoverWords cX11_recoverWords 5 none ∈ TB := tb_of 753 (by decide +kernel) (by decide +kernel)
theorem tm_X11_recoverWords : yX11_recoverWords.cls = RX11 ∧ yX11_recoverWords.cls ≠ "java/lang/invoke/MethodHandle" ∧ yX11_recoverWords.cls ≠ "java/lang/invoke/VarHandle" ∧ (parseMethodDescriptor yX11_recoverWords.desc).map (fun d => d.parameters.length) = some 2 := by decide +kernel
theorem tl_X11_391 : Cond.methodLink RX11 391 Lib.Math.min.name ∈ TB := tb_of 754 (by decide +kernel) (by decide +kernel)
theorem tl_X11_394 : Cond.methodLink RX11 394 yX11_entryPlace ∈ TB := tb_of 757 (by decide +kernel) (by decide +kernel)
theorem ts_X11_entryPlace : Cond.static yX11_entryPlace ∈ TB := tb_of 758 (by decide +kernel) (by decide +kernel)
theorem tc_X11_entryPlace : Cond.code yX11_entryPlace cX11_entryPlace 3 (some .int) ∈ TB := tb_of 759 (by decide +kernel) (by decide +kernel)
theorem tm_X11_entryPlace : yX11_entryPlace.cls = RX11 ∧ yX11_entryPlace.cls ≠ "java/lang/invoke/MethodHandle" ∧ yX11_entryPlace.cls ≠ "java/lang/invoke/VarHandle" ∧ (parseMethodDescriptor yX11_entryPlace.desc).map (fun d => d.parameters.length) = some 3 := by decide +kernel
theorem tl_X11_397 : Cond.methodLink RX11 397 yX11_isHeapAddress ∈ TB := tb_of 760 (by decide +kernel) (by decide +kernel)
theorem ts_X11_isHeapAddress : Cond.static yX11_isHeapAddress ∈ TB := tb_of 761 (by decide +kernel) (by decide +kernel)
theorem tc_X11_isHeapAddress : Cond.code yX11_isHeapAddress cX11_isHeapAddress 1 (some .boolean) ∈ TB := tb_of 762 (by decide +kernel) (by decide +kernel)
theorem tm_X11_isHeapAddress : yX11_isHeapAddress.cls = RX11 ∧ yX11_isHeapAddress.cls ≠ "java/lang/invoke/MethodHandle" ∧ yX11_isHeapAddress.cls ≠ "java/lang/invoke/VarHandle" ∧ (parseMethodDescriptor yX11_isHeapAddress.desc).map (fun d => d.parameters.length) = some 1 := by decide +kernel
theorem tl_X11_256 : Cond.methodLink RX11 256 yX4_fall ∈ TB := tb_of 763 (by decide +kernel) (by decide +kernel)
theorem ti_X4_fall : Cond.instanceMethod yX4_fall ∈ TB := tb_of 764 (by decide +kernel) (by decide +kernel)
theorem tz_X4_fall : Cond.selects RX4 yX4_fall yX4_fall ∈ TB := tb_of 765 (by decide +kernel) (by decide +kernel)
theorem tc_X4_fall : Cond.code yX4_fall cX4_fall 2 none ∈ TB := tb_of 766 (by decide +kernel) (by decide +kernel)
theorem tm_X4_fall : yX4_fall.cls = RX4 ∧ yX4_fall.cls ≠ "java/lang/invoke/MethodHandle" ∧ yX4_fall.cls ≠ "java/lang/invoke/VarHandle" ∧ (parseMethodDescriptor yX4_fall.desc).map (fun d => d.parameters.length) = some 1 := by decide +kernel
theorem tl_X4_150 : Cond.methodLink RX4 150 yX1_holdMedia ∈ TB := tb_of 767 (by decide +kernel) (by decide +kernel)
theorem ti_X1_holdMedia : Cond.instanceMethod yX1_holdMedia ∈ TB := tb_of 768 (by decide +kernel) (by decide +kernel)
theorem tz_X1_holdMedia : Cond.selects RX1 yX1_holdMedia yX1_holdMedia ∈ TB := tb_of 769 (by decide +kernel) (by decide +kernel)
theorem tc_X1_holdMedia : Cond.code yX1_holdMedia cX1_holdMedia 2 none ∈ TB := tb_of 770 (by decide +kernel) (by decide +kernel)
theorem tm_X1_holdMedia : yX1_holdMedia.cls = RX1 ∧ yX1_holdMedia.cls ≠ "java/lang/invoke/MethodHandle" ∧ yX1_holdMedia.cls ≠ "java/lang/invoke/VarHandle" ∧ (parseMethodDescriptor yX1_holdMedia.desc).map (fun d => d.parameters.length) = some 1 := by decide +kernel
theorem tl_X1_30 : Cond.methodLink RX1 30 yJ7_fill_53178 ∈ TB := tb_of 771 (by decide +kernel) (by decide +kernel)
theorem tl_X4_157 : Cond.methodLink RX4 157 yX4_settle ∈ TB := tb_of 772 (by decide +kernel) (by decide +kernel)
theorem ti_X4_settle : Cond.instanceMethod yX4_settle ∈ TB := tb_of 773 (by decide +kernel) (by decide +kernel)
theorem tz_X4_settle : Cond.selects RX4 yX4_settle yX4_settle ∈ TB := tb_of 774 (by decide +kernel) (by decide +kernel)
theorem tc_X4_settle : Cond.code yX4_settle cX4_settle 2 none ∈ TB := tb_of 775 (by decide +kernel) (by decide +kernel)
theorem tm_X4_settle : yX4_settle.cls = RX4 ∧ yX4_settle.cls ≠ "java/lang/invoke/MethodHandle" ∧ yX4_settle.cls ≠ "java/lang/invoke/VarHandle" ∧ (parseMethodDescriptor yX4_settle.desc).map (fun d => d.parameters.length) = some 1 := by decide +kernel
theorem ti_X11_recover : Cond.instanceMethod yX11_recover ∈ TB := tb_of 777 (by decide +kernel) (by decide +kernel)
theorem tz_X11_recover : Cond.selects RX11 yX11_recover yX11_recover ∈ TB := tb_of 778 (by decide +kernel) (by decide +kernel)
theorem tc_X11_recover : Cond.code yX11_recover cX11_recover 2 (some .int) ∈ TB := tb_of 779 (by decide +kernel) (by decide +kernel)
theorem tm_X11_recover : yX11_recover.cls = RX11 ∧ yX11_recover.cls ≠ "java/lang/invoke/MethodHandle" ∧ yX11_recover.cls ≠ "java/lang/invoke/VarHandle" ∧ (parseMethodDescriptor yX11_recover.desc).map (fun d => d.parameters.length) = some 0 := by decide +kernel
theorem tl_X11_260 : Cond.methodLink RX11 260 yX4_beginRecovery ∈ TB := tb_of 780 (by decide +kernel) (by decide +kernel)
theorem ti_X4_beginRecovery : Cond.instanceMethod yX4_beginRecovery ∈ TB := tb_of 781 (by decide +kernel) (by decide +kernel)
theorem tz_X4_beginRecovery : Cond.selects RX4 yX4_beginRecovery yX4_beginRecovery ∈ TB := tb_of 782 (by decide +kernel) (by decide +kernel)
theorem tc_X4_beginRecovery : Cond.code yX4_beginRecovery cX4_beginRecovery 2 none ∈ TB := tb_of 783 (by decide +kernel) (by decide +kernel)
theorem tm_X4_beginRecovery : yX4_beginRecovery.cls = RX4 ∧ yX4_beginRecovery.cls ≠ "java/lang/invoke/MethodHandle" ∧ yX4_beginRecovery.cls ≠ "java/lang/invoke/VarHandle" ∧ (parseMethodDescriptor yX4_beginRecovery.desc).map (fun d => d.parameters.length) = some 1 := by decide +kernel
theorem tl_X4_163 : Cond.methodLink RX4 163 yX5_planRecovery ∈ TB := tb_of 784 (by decide +kernel) (by decide +kernel)
theorem ti_X5_planRecovery : Cond.instanceMethod yX5_planRecovery ∈ TB := tb_of 785 (by decide +kernel) (by decide +kernel)
theorem tz_X5_planRecovery : Cond.selects RX5 yX5_planRecovery yX5_planRecovery ∈ TB := tb_of 786 (by decide +kernel) (by decide +kernel)
theorem tc_X5_planRecovery : Cond.code yX5_planRecovery cX5_planRecovery 6 none ∈ TB := tb_of 787 (by decide +kernel) (by decide +kernel)
theorem tm_X5_planRecovery : yX5_planRecovery.cls = RX5 ∧ yX5_planRecovery.cls ≠ "java/lang/invoke/MethodHandle" ∧ yX5_planRecovery.cls ≠ "java/lang/invoke/VarHandle" ∧ (parseMethodDescriptor yX5_planRecovery.desc).map (fun d => d.parameters.length) = some 2 := by decide +kernel
theorem tl_X5_76 : Cond.methodLink RX5 76 Lib.Math.min.name ∈ TB := tb_of 788 (by decide +kernel) (by decide +kernel)
theorem tl_X5_82 : Cond.methodLinkNest RX5 82 yX11_entryPlace "FenceHeap" ∈ NST := nst_of 789 (by decide +kernel) (by decide +kernel)
theorem tl_X5_86 : Cond.methodLinkNest RX5 86 yX11_isHeapAddress "FenceHeap" ∈ NST := nst_of 790 (by decide +kernel) (by decide +kernel)
theorem tl_X11_127 : Cond.methodLink RX11 127 yX4_microsLeft ∈ TB := tb_of 791 (by decide +kernel) (by decide +kernel)
theorem ti_X4_microsLeft : Cond.instanceMethod yX4_microsLeft ∈ TB := tb_of 792 (by decide +kernel) (by decide +kernel)
theorem tz_X4_microsLeft : Cond.selects RX4 yX4_microsLeft yX4_microsLeft ∈ TB := tb_of 793 (by decide +kernel) (by decide +kernel)
theorem tc_X4_microsLeft : Cond.code yX4_microsLeft cX4_microsLeft 1 (some .int) ∈ TB := tb_of 794 (by decide +kernel) (by decide +kernel)
theorem tm_X4_microsLeft : yX4_microsLeft.cls = RX4 ∧ yX4_microsLeft.cls ≠ "java/lang/invoke/MethodHandle" ∧ yX4_microsLeft.cls ≠ "java/lang/invoke/VarHandle" ∧ (parseMethodDescriptor yX4_microsLeft.desc).map (fun d => d.parameters.length) = some 0 := by decide +kernel
theorem ti_X11_undo : Cond.instanceMethod yX11_undo ∈ TB := tb_of 796 (by decide +kernel) (by decide +kernel)
theorem tz_X11_undo : Cond.selects RX11 yX11_undo yX11_undo ∈ TB := tb_of 797 (by decide +kernel) (by decide +kernel)
theorem tc_X11_undo : Cond.code yX11_undo cX11_undo 1 (some .int) ∈ TB := tb_of 798 (by decide +kernel) (by decide +kernel)
theorem tm_X11_undo : yX11_undo.cls = RX11 ∧ yX11_undo.cls ≠ "java/lang/invoke/MethodHandle" ∧ yX11_undo.cls ≠ "java/lang/invoke/VarHandle" ∧ (parseMethodDescriptor yX11_undo.desc).map (fun d => d.parameters.length) = some 0 := by decide +kernel
theorem tl_X11_291 : Cond.methodLink RX11 291 yX3_giveBack ∈ TB := tb_of 799 (by decide +kernel) (by decide +kernel)
theorem ti_X3_giveBack : Cond.instanceMethod yX3_giveBack ∈ TB := tb_of 800 (by decide +kernel) (by decide +kernel)
theorem tz_X3_giveBack : Cond.selects RX3 yX3_giveBack yX3_giveBack ∈ TB := tb_of 801 (by decide +kernel) (by decide +kernel)
theorem tc_X3_giveBack : Cond.code yX3_giveBack cX3_giveBack 2 (some .boolean) ∈ TB := tb_of 802 (by decide +kernel) (by decide +kernel)
theorem tm_X3_giveBack : yX3_giveBack.cls = RX3 ∧ yX3_giveBack.cls ≠ "java/lang/invoke/MethodHandle" ∧ yX3_giveBack.cls ≠ "java/lang/invoke/VarHandle" ∧ (parseMethodDescriptor yX3_giveBack.desc).map (fun d => d.parameters.length) = some 1 := by decide +kernel
theorem ti_X11_needless : Cond.instanceMethod yX11_needless ∈ TB := tb_of 804 (by decide +kernel) (by decide +kernel)
theorem tz_X11_needless : Cond.selects RX11 yX11_needless yX11_needless ∈ TB := tb_of 805 (by decide +kernel) (by decide +kernel)
theorem tc_X11_needless : Cond.code yX11_needless cX11_needless 5 (some .int) ∈ TB := tb_of 806 (by decide +kernel) (by decide +kernel)
theorem tm_X11_needless : yX11_needless.cls = RX11 ∧ yX11_needless.cls ≠ "java/lang/invoke/MethodHandle" ∧ yX11_needless.cls ≠ "java/lang/invoke/VarHandle" ∧ (parseMethodDescriptor yX11_needless.desc).map (fun d => d.parameters.length) = some 0 := by decide +kernel
theorem tl_X11_315 : Cond.methodLink RX11 315 yX4_isReady ∈ TB := tb_of 807 (by decide +kernel) (by decide +kernel)
theorem tl_X11_299 : Cond.methodLink RX11 299 yX2_run ∈ TB := tb_of 808 (by decide +kernel) (by decide +kernel)
theorem ti_X2_run : Cond.instanceMethod yX2_run ∈ TB := tb_of 809 (by decide +kernel) (by decide +kernel)
theorem tz_X2_run : Cond.selects RX2 yX2_run yX2_run ∈ TB := tb_of 810 (by decide +kernel) (by decide +kernel)
theorem tc_X2_run : Cond.code yX2_run cX2_run 8 none ∈ TB := tb_of 811 (by decide +kernel) (by decide +kernel)
theorem tm_X2_run : yX2_run.cls = RX2 ∧ yX2_run.cls ≠ "java/lang/invoke/MethodHandle" ∧ yX2_run.cls ≠ "java/lang/invoke/VarHandle" ∧ (parseMethodDescriptor yX2_run.desc).map (fun d => d.parameters.length) = some 3 := by decide +kernel
theorem tl_X2_46 : Cond.methodLink RX2 46 yX4_copyFrom ∈ TB := tb_of 812 (by decide +kernel) (by decide +kernel)
theorem tl_X2_56 : Cond.methodLink RX2 56 yX4_beginRecovery ∈ TB := tb_of 813 (by decide +kernel) (by decide +kernel)
theorem tl_X2_60 : Cond.methodLink RX2 60 yX4_isIdle ∈ TB := tb_of 814 (by decide +kernel) (by decide +kernel)
theorem tl_X2_68 : Cond.methodLink RX2 68 yX1_orderTotal ∈ TB := tb_of 815 (by decide +kernel) (by decide +kernel)
theorem tk_X2_74 : Cond.constantLong RX2 74 (2000 : Int64) ∈ TB := tb_of 816 (by decide +kernel) (by decide +kernel)
theorem tl_X2_76 : Cond.methodLink RX2 76 yX2_countBad ∈ TB := tb_of 817 (by decide +kernel) (by decide +kernel)
theorem ti_X2_countBad : Cond.instanceMethod yX2_countBad ∈ TB := tb_of 819 (by decide +kernel) (by decide +kernel)
theorem tc_X2_countBad : Cond.code yX2_countBad cX2_countBad 5 none ∈ TB := tb_of 820 (by decide +kernel) (by decide +kernel)
theorem tm_X2_countBad : yX2_countBad.cls = RX2 ∧ yX2_countBad.cls ≠ "java/lang/invoke/MethodHandle" ∧ yX2_countBad.cls ≠ "java/lang/invoke/VarHandle" ∧ (parseMethodDescriptor yX2_countBad.desc).map (fun d => d.parameters.length) = some 2 := by decide +kernel
theorem tl_X2_84 : Cond.methodLink RX2 84 yX9_start ∈ TB := tb_of 821 (by decide +kernel) (by decide +kernel)
theorem tl_X2_88 : Cond.methodLink RX2 88 yX9_fateBy ∈ TB := tb_of 822 (by decide +kernel) (by decide +kernel)
theorem tl_X2_92 : Cond.methodLink RX2 92 yX9_goOn ∈ TB := tb_of 823 (by decide +kernel) (by decide +kernel)
theorem ti_X9_goOn : Cond.instanceMethod yX9_goOn ∈ TB := tb_of 824 (by decide +kernel) (by decide +kernel)
theorem tz_X9_goOn : Cond.selects RX9 yX9_goOn yX9_goOn ∈ TB := tb_of 825 (by decide +kernel) (by decide +kernel)
theorem tc_X9_goOn : Cond.code yX9_goOn cX9_goOn 3 none ∈ TB := tb_of 826 (by decide +kernel) (by decide +kernel)
theorem tm_X9_goOn : yX9_goOn.cls = RX9 ∧ yX9_goOn.cls ≠ "java/lang/invoke/MethodHandle" ∧ yX9_goOn.cls ≠ "java/lang/invoke/VarHandle" ∧ (parseMethodDescriptor yX9_goOn.desc).map (fun d => d.parameters.length) = some 1 := by decide +kernel
theorem tl_X2_80 : Cond.methodLink RX2 80 yX4_step ∈ TB := tb_of 827 (by decide +kernel) (by decide +kernel)
theorem tl_X11_318 : Cond.methodLink RX11 318 yX2_isSound ∈ TB := tb_of 828 (by decide +kernel) (by decide +kernel)
theorem ti_X2_isSound : Cond.instanceMethod yX2_isSound ∈ TB := tb_of 829 (by decide +kernel) (by decide +kernel)
theorem tz_X2_isSound : Cond.selects RX2 yX2_isSound yX2_isSound ∈ TB := tb_of 830 (by decide +kernel) (by decide +kernel)
theorem tc_X2_isSound : Cond.code yX2_isSound cX2_isSound 1 (some .boolean) ∈ TB := tb_of 831 (by decide +kernel) (by decide +kernel)
theorem tm_X2_isSound : yX2_isSound.cls = RX2 ∧ yX2_isSound.cls ≠ "java/lang/invoke/MethodHandle" ∧ yX2_isSound.cls ≠ "java/lang/invoke/VarHandle" ∧ (parseMethodDescriptor yX2_isSound.desc).map (fun d => d.parameters.length) = some 0 := by decide +kernel
theorem ti_X11_see : Cond.instanceMethod yX11_see ∈ TB := tb_of 833 (by decide +kernel) (by decide +kernel)
theorem tz_X11_see : Cond.selects RX11 yX11_see yX11_see ∈ TB := tb_of 834 (by decide +kernel) (by decide +kernel)
theorem tc_X11_see : Cond.code yX11_see cX11_see 3 (some .int) ∈ TB := tb_of 835 (by decide +kernel) (by decide +kernel)
theorem tm_X11_see : yX11_see.cls = RX11 ∧ yX11_see.cls ≠ "java/lang/invoke/MethodHandle" ∧ yX11_see.cls ≠ "java/lang/invoke/VarHandle" ∧ (parseMethodDescriptor yX11_see.desc).map (fun d => d.parameters.length) = some 2 := by decide +kernel
theorem tl_X11_160 : Cond.methodLink RX11 160 yX11_isWord ∈ TB := tb_of 836 (by decide +kernel) (by decide +kernel)
theorem ts_X11_isWord : Cond.static yX11_isWord ∈ TB := tb_of 837 (by decide +kernel) (by decide +kernel)
theorem tc_X11_isWord : Cond.code yX11_isWord cX11_isWord 1 (some .boolean) ∈ TB := tb_of 838 (by decide +kernel) (by decide +kernel)
theorem tm_X11_isWord : yX11_isWord.cls = RX11 ∧ yX11_isWord.cls ≠ "java/lang/invoke/MethodHandle" ∧ yX11_isWord.cls ≠ "java/lang/invoke/VarHandle" ∧ (parseMethodDescriptor yX11_isWord.desc).map (fun d => d.parameters.length) = some 1 := by decide +kernel
theorem ti_X11_forget : Cond.instanceMethod yX11_forget ∈ TB := tb_of 840 (by decide +kernel) (by decide +kernel)
theorem tz_X11_forget : Cond.selects RX11 yX11_forget yX11_forget ∈ TB := tb_of 841 (by decide +kernel) (by decide +kernel)
theorem tc_X11_forget : Cond.code yX11_forget cX11_forget 1 none ∈ TB := tb_of 842 (by decide +kernel) (by decide +kernel)
theorem tm_X11_forget : yX11_forget.cls = RX11 ∧ yX11_forget.cls ≠ "java/lang/invoke/MethodHandle" ∧ yX11_forget.cls ≠ "java/lang/invoke/VarHandle" ∧ (parseMethodDescriptor yX11_forget.desc).map (fun d => d.parameters.length) = some 0 := by decide +kernel
theorem ti_X11_image : Cond.instanceMethod yX11_image ∈ TB := tb_of 844 (by decide +kernel) (by decide +kernel)
theorem tz_X11_image : Cond.selects RX11 yX11_image yX11_image ∈ TB := tb_of 845 (by decide +kernel) (by decide +kernel)
theorem tc_X11_image : Cond.code yX11_image cX11_image 1 none ∈ TB := tb_of 846 (by decide +kernel) (by decide +kernel)
theorem tm_X11_image : yX11_image.cls = RX11 ∧ yX11_image.cls ≠ "java/lang/invoke/MethodHandle" ∧ yX11_image.cls ≠ "java/lang/invoke/VarHandle" ∧ (parseMethodDescriptor yX11_image.desc).map (fun d => d.parameters.length) = some 0 := by decide +kernel
theorem tl_X11_387 : Cond.methodLink RX11 387 yX0_copyFrom ∈ TB := tb_of 847 (by decide +kernel) (by decide +kernel)
theorem ti_X0_copyFrom : Cond.instanceMethod yX0_copyFrom ∈ TB := tb_of 848 (by decide +kernel) (by decide +kernel)
theorem tz_X0_copyFrom : Cond.selects RX0 yX0_copyFrom yX0_copyFrom ∈ TB := tb_of 849 (by decide +kernel) (by decide +kernel)
theorem tc_X0_copyFrom : Cond.code yX0_copyFrom cX0_copyFrom 2 none ∈ TB := tb_of 850 (by decide +kernel) (by decide +kernel)
theorem tm_X0_copyFrom : yX0_copyFrom.cls = RX0 ∧ yX0_copyFrom.cls ≠ "java/lang/invoke/MethodHandle" ∧ yX0_copyFrom.cls ≠ "java/lang/invoke/VarHandle" ∧ (parseMethodDescriptor yX0_copyFrom.desc).map (fun d => d.parameters.length) = some 1 := by decide +kernel
theorem tl_X0_36 : Cond.methodLink RX0 36 yX4_copyFrom ∈ TB := tb_of 851 (by decide +kernel) (by decide +kernel)
theorem tl_X0_40 : Cond.methodLink RX0 40 yX3_copyFrom ∈ TB := tb_of 852 (by decide +kernel) (by decide +kernel)
theorem ti_X3_copyFrom : Cond.instanceMethod yX3_copyFrom ∈ TB := tb_of 853 (by decide +kernel) (by decide +kernel)
theorem tz_X3_copyFrom : Cond.selects RX3 yX3_copyFrom yX3_copyFrom ∈ TB := tb_of 854 (by decide +kernel) (by decide +kernel)
theorem tc_X3_copyFrom : Cond.code yX3_copyFrom cX3_copyFrom 3 none ∈ TB := tb_of 855 (by decide +kernel) (by decide +kernel)
theorem tm_X3_copyFrom : yX3_copyFrom.cls = RX3 ∧ yX3_copyFrom.cls ≠ "java/lang/invoke/MethodHandle" ∧ yX3_copyFrom.cls ≠ "java/lang/invoke/VarHandle" ∧ (parseMethodDescriptor yX3_copyFrom.desc).map (fun d => d.parameters.length) = some 1 := by decide +kernel
theorem tl_X0_43 : Cond.methodLink RX0 43 arraycopyName ∈ TB := tb_of 856 (by decide +kernel) (by decide +kernel)
theorem ti_X11_restore : Cond.instanceMethod yX11_restore ∈ TB := tb_of 858 (by decide +kernel) (by decide +kernel)
theorem tz_X11_restore : Cond.selects RX11 yX11_restore yX11_restore ∈ TB := tb_of 859 (by decide +kernel) (by decide +kernel)
theorem tc_X11_restore : Cond.code yX11_restore cX11_restore 1 (some .boolean) ∈ TB := tb_of 860 (by decide +kernel) (by decide +kernel)
theorem tm_X11_restore : yX11_restore.cls = RX11 ∧ yX11_restore.cls ≠ "java/lang/invoke/MethodHandle" ∧ yX11_restore.cls ≠ "java/lang/invoke/VarHandle" ∧ (parseMethodDescriptor yX11_restore.desc).map (fun d => d.parameters.length) = some 0 := by decide +kernel
theorem ti_X11_heap : Cond.instanceMethod yX11_heap ∈ TB := tb_of 866 (by decide +kernel) (by decide +kernel)
theorem tz_X11_heap : Cond.selects RX11 yX11_heap yX11_heap ∈ TB := tb_of 867 (by decide +kernel) (by decide +kernel)
theorem tc_X11_heap : Cond.code yX11_heap cX11_heap 3 (some .int) ∈ TB := tb_of 868 (by decide +kernel) (by decide +kernel)
theorem tm_X11_heap : yX11_heap.cls = RX11 ∧ yX11_heap.cls ≠ "java/lang/invoke/MethodHandle" ∧ yX11_heap.cls ≠ "java/lang/invoke/VarHandle" ∧ (parseMethodDescriptor yX11_heap.desc).map (fun d => d.parameters.length) = some 1 := by decide +kernel
theorem tl_X11_94 : Cond.methodLink RX11 94 yX6_readText ∈ TB := tb_of 936 (by decide +kernel) (by decide +kernel)
theorem ti_X6_readText : Cond.instanceMethod yX6_readText ∈ TB := tb_of 937 (by decide +kernel) (by decide +kernel)
theorem tz_X6_readText : Cond.selects RX6 yX6_readText yX6_readText ∈ TB := tb_of 938 (by decide +kernel) (by decide +kernel)
theorem tc_X6_readText : Cond.code yX6_readText cX6_readText 5 (some .int) ∈ TB := tb_of 939 (by decide +kernel) (by decide +kernel)
theorem tm_X6_readText : yX6_readText.cls = RX6 ∧ yX6_readText.cls ≠ "java/lang/invoke/MethodHandle" ∧ yX6_readText.cls ≠ "java/lang/invoke/VarHandle" ∧ (parseMethodDescriptor yX6_readText.desc).map (fun d => d.parameters.length) = some 2 := by decide +kernel
theorem tl_X6_58 : Cond.methodLink RX6 58 Lib.Math.min.name ∈ TB := tb_of 940 (by decide +kernel) (by decide +kernel)
theorem tl_X6_64 : Cond.methodLink RX6 64 yX6_clear ∈ TB := tb_of 941 (by decide +kernel) (by decide +kernel)
theorem ti_X6_clear : Cond.instanceMethod yX6_clear ∈ TB := tb_of 943 (by decide +kernel) (by decide +kernel)
theorem tc_X6_clear : Cond.code yX6_clear cX6_clear 1 none ∈ TB := tb_of 944 (by decide +kernel) (by decide +kernel)
theorem tm_X6_clear : yX6_clear.cls = RX6 ∧ yX6_clear.cls ≠ "java/lang/invoke/MethodHandle" ∧ yX6_clear.cls ≠ "java/lang/invoke/VarHandle" ∧ (parseMethodDescriptor yX6_clear.desc).map (fun d => d.parameters.length) = some 0 := by decide +kernel
theorem tl_X6_78 : Cond.methodLink RX6 78 yJ7_fill_53178 ∈ TB := tb_of 945 (by decide +kernel) (by decide +kernel)
theorem tl_X6_67 : Cond.methodLink RX6 67 yX6_goOn ∈ TB := tb_of 946 (by decide +kernel) (by decide +kernel)
theorem ti_X6_goOn : Cond.instanceMethod yX6_goOn ∈ TB := tb_of 948 (by decide +kernel) (by decide +kernel)
theorem tc_X6_goOn : Cond.code yX6_goOn cX6_goOn 2 none ∈ TB := tb_of 949 (by decide +kernel) (by decide +kernel)
theorem tm_X6_goOn : yX6_goOn.cls = RX6 ∧ yX6_goOn.cls ≠ "java/lang/invoke/MethodHandle" ∧ yX6_goOn.cls ≠ "java/lang/invoke/VarHandle" ∧ (parseMethodDescriptor yX6_goOn.desc).map (fun d => d.parameters.length) = some 0 := by decide +kernel
theorem tl_X6_96 : Cond.methodLink RX6 96 yX6_kindOf ∈ TB := tb_of 950 (by decide +kernel) (by decide +kernel)
theorem ts_X6_kindOf : Cond.static yX6_kindOf ∈ TB := tb_of 951 (by decide +kernel) (by decide +kernel)
theorem tc_X6_kindOf : Cond.code yX6_kindOf cX6_kindOf 1 (some .int) ∈ TB := tb_of 952 (by decide +kernel) (by decide +kernel)
theorem tm_X6_kindOf : yX6_kindOf.cls = RX6 ∧ yX6_kindOf.cls ≠ "java/lang/invoke/MethodHandle" ∧ yX6_kindOf.cls ≠ "java/lang/invoke/VarHandle" ∧ (parseMethodDescriptor yX6_kindOf.desc).map (fun d => d.parameters.length) = some 1 := by decide +kernel
theorem tl_X6_70 : Cond.methodLink RX6 70 yX6_readClause ∈ TB := tb_of 953 (by decide +kernel) (by decide +kernel)
theorem ti_X6_readClause : Cond.instanceMethod yX6_readClause ∈ TB := tb_of 955 (by decide +kernel) (by decide +kernel)
theorem tc_X6_readClause : Cond.code yX6_readClause cX6_readClause 1 (some .int) ∈ TB := tb_of 956 (by decide +kernel) (by decide +kernel)
theorem tm_X6_readClause : yX6_readClause.cls = RX6 ∧ yX6_readClause.cls ≠ "java/lang/invoke/MethodHandle" ∧ yX6_readClause.cls ≠ "java/lang/invoke/VarHandle" ∧ (parseMethodDescriptor yX6_readClause.desc).map (fun d => d.parameters.length) = some 0 := by decide +kernel
theorem tl_X6_114 : Cond.methodLink RX6 114 yX6_isLetters ∈ TB := tb_of 958 (by decide +kernel) (by decide +kernel)
theorem ti_X6_isLetters : Cond.instanceMethod yX6_isLetters ∈ TB := tb_of 960 (by decide +kernel) (by decide +kernel)
theorem tc_X6_isLetters : Cond.code yX6_isLetters cX6_isLetters 3 (some .boolean) ∈ TB := tb_of 961 (by decide +kernel) (by decide +kernel)
theorem tm_X6_isLetters : yX6_isLetters.cls = RX6 ∧ yX6_isLetters.cls ≠ "java/lang/invoke/MethodHandle" ∧ yX6_isLetters.cls ≠ "java/lang/invoke/VarHandle" ∧ (parseMethodDescriptor yX6_isLetters.desc).map (fun d => d.parameters.length) = some 1 := by decide +kernel
theorem tl_X6_100 : Cond.methodLink RX6 100 yJ0_length_8abf5 ∈ TB := tb_of 962 (by decide +kernel) (by decide +kernel)
theorem ti_J0_length_8abf5 : Cond.instanceMethod yJ0_length_8abf5 ∈ TB := tb_of 963 (by decide +kernel) (by decide +kernel)
theorem tz_J0_length_8abf5 : Cond.selects RJ0 yJ0_length_8abf5 yJ0_length_8abf5 ∈ TB := tb_of 964 (by decide +kernel) (by decide +kernel)
theorem tc_J0_length_8abf5 : Cond.code yJ0_length_8abf5 cJ0_length_8abf5 1 (some .int) ∈ TB := tb_of 965 (by decide +kernel) (by decide +kernel)
theorem tm_J0_length_8abf5 : yJ0_length_8abf5.cls = RJ0 ∧ yJ0_length_8abf5.cls ≠ "java/lang/invoke/MethodHandle" ∧ yJ0_length_8abf5.cls ≠ "java/lang/invoke/VarHandle" ∧ (parseMethodDescriptor yJ0_length_8abf5.desc).map (fun d => d.parameters.length) = some 0 := by decide +kernel
theorem tl_J0_335 : Cond.methodLink RJ0 335 yJ0_coder_7d493 ∈ TB := tb_of 966 (by decide +kernel) (by decide +kernel)
theorem ti_J0_coder_7d493 : Cond.instanceMethod yJ0_coder_7d493 ∈ TB := tb_of 967 (by decide +kernel) (by decide +kernel)
theorem tz_J0_coder_7d493 : Cond.selects RJ0 yJ0_coder_7d493 yJ0_coder_7d493 ∈ TB := tb_of 968 (by decide +kernel) (by decide +kernel)
theorem tc_J0_coder_7d493 : Cond.code yJ0_coder_7d493 cJ0_coder_7d493 1 (some .byte) ∈ TB := tb_of 969 (by decide +kernel) (by decide +kernel)
theorem tm_J0_coder_7d493 : yJ0_coder_7d493.cls = RJ0 ∧ yJ0_coder_7d493.cls ≠ "java/lang/invoke/MethodHandle" ∧ yJ0_coder_7d493.cls ≠ "java/lang/invoke/VarHandle" ∧ (parseMethodDescriptor yJ0_coder_7d493.desc).map (fun d => d.parameters.length) = some 0 := by decide +kernel
theorem tl_X6_104 : Cond.methodLink RX6 104 yJ0_charAt_5068e ∈ TB := tb_of 972 (by decide +kernel) (by decide +kernel)
theorem ti_J0_charAt_5068e : Cond.instanceMethod yJ0_charAt_5068e ∈ TB := tb_of 973 (by decide +kernel) (by decide +kernel)
theorem tz_J0_charAt_5068e : Cond.selects RJ0 yJ0_charAt_5068e yJ0_charAt_5068e ∈ TB := tb_of 974 (by decide +kernel) (by decide +kernel)
theorem tc_J0_charAt_5068e : Cond.code yJ0_charAt_5068e cJ0_charAt_5068e 2 (some .char) ∈ TB := tb_of 975 (by decide +kernel) (by decide +kernel)
theorem tm_J0_charAt_5068e : yJ0_charAt_5068e.cls = RJ0 ∧ yJ0_charAt_5068e.cls ≠ "java/lang/invoke/MethodHandle" ∧ yJ0_charAt_5068e.cls ≠ "java/lang/invoke/VarHandle" ∧ (parseMethodDescriptor yJ0_charAt_5068e.desc).map (fun d => d.parameters.length) = some 1 := by decide +kernel
theorem tl_J0_492 : Cond.methodLink RJ0 492 yJ0_isLatin1_aae02 ∈ TB := tb_of 976 (by decide +kernel) (by decide +kernel)
theorem ti_J0_isLatin1_aae02 : Cond.instanceMethod yJ0_isLatin1_aae02 ∈ TB := tb_of 977 (by decide +kernel) (by decide +kernel)
theorem tz_J0_isLatin1_aae02 : Cond.selects RJ0 yJ0_isLatin1_aae02 yJ0_isLatin1_aae02 ∈ TB := tb_of 978 (by decide +kernel) (by decide +kernel)
theorem tc_J0_isLatin1_aae02 : Cond.code yJ0_isLatin1_aae02 cJ0_isLatin1_aae02 1 (some .boolean) ∈ TB := tb_of 979 (by decide +kernel) (by decide +kernel)
theorem tm_J0_isLatin1_aae02 : yJ0_isLatin1_aae02.cls = RJ0 ∧ yJ0_isLatin1_aae02.cls ≠ "java/lang/invoke/MethodHandle" ∧ yJ0_isLatin1_aae02.cls ≠ "java/lang/invoke/VarHandle" ∧ (parseMethodDescriptor yJ0_isLatin1_aae02.desc).map (fun d => d.parameters.length) = some 0 := by decide +kernel
theorem tl_J0_495 : Cond.methodLink RJ0 495 yJ1_charAt_3b067 ∈ TB := tb_of 980 (by decide +kernel) (by decide +kernel)
theorem ts_J1_charAt_3b067 : Cond.static yJ1_charAt_3b067 ∈ TB := tb_of 981 (by decide +kernel) (by decide +kernel)
theorem tc_J1_charAt_3b067 : Cond.code yJ1_charAt_3b067 cJ1_charAt_3b067 2 (some .char) ∈ TB := tb_of 982 (by decide +kernel) (by decide +kernel)
theorem tm_J1_charAt_3b067 : yJ1_charAt_3b067.cls = RJ1 ∧ yJ1_charAt_3b067.cls ≠ "java/lang/invoke/MethodHandle" ∧ yJ1_charAt_3b067.cls ≠ "java/lang/invoke/VarHandle" ∧ (parseMethodDescriptor yJ1_charAt_3b067.desc).map (fun d => d.parameters.length) = some 2 := by decide +kernel
theorem tl_J1_9 : Cond.methodLink RJ1 9 yJ0_checkIndex_df160 ∈ TB := tb_of 983 (by decide +kernel) (by decide +kernel)
theorem ts_J0_checkIndex_df160 : Cond.static yJ0_checkIndex_df160 ∈ TB := tb_of 984 (by decide +kernel) (by decide +kernel)
theorem tc_J0_checkIndex_df160 : Cond.code yJ0_checkIndex_df160 cJ0_checkIndex_df160 2 none ∈ TB := tb_of 985 (by decide +kernel) (by decide +kernel)
theorem tm_J0_checkIndex_df160 : yJ0_checkIndex_df160.cls = RJ0 ∧ yJ0_checkIndex_df160.cls ≠ "java/lang/invoke/MethodHandle" ∧ yJ0_checkIndex_df160.cls ≠ "java/lang/invoke/VarHandle" ∧ (parseMethodDescriptor yJ0_checkIndex_df160.desc).map (fun d => d.parameters.length) = some 2 := by decide +kernel
theorem tl_J0_1059 : Cond.methodLink RJ0 1059 yJ3_checkIndex_8e157 ∈ TB := tb_of 988 (by decide +kernel) (by decide +kernel)
theorem ts_J3_checkIndex_8e157 : Cond.static yJ3_checkIndex_8e157 ∈ TB := tb_of 989 (by decide +kernel) (by decide +kernel)
theorem tc_J3_checkIndex_8e157 : Cond.code yJ3_checkIndex_8e157 cJ3_checkIndex_8e157 3 (some .int) ∈ TB := tb_of 990 (by decide +kernel) (by decide +kernel)
theorem tm_J3_checkIndex_8e157 : yJ3_checkIndex_8e157.cls = RJ3 ∧ yJ3_checkIndex_8e157.cls ≠ "java/lang/invoke/MethodHandle" ∧ yJ3_checkIndex_8e157.cls ≠ "java/lang/invoke/VarHandle" ∧ (parseMethodDescriptor yJ3_checkIndex_8e157.desc).map (fun d => d.parameters.length) = some 3 := by decide +kernel
theorem tl_J0_498 : Cond.methodLink RJ0 498 yJ2_charAt_3b067 ∈ TB := tb_of 991 (by decide +kernel) (by decide +kernel)
theorem ts_J2_charAt_3b067 : Cond.static yJ2_charAt_3b067 ∈ TB := tb_of 992 (by decide +kernel) (by decide +kernel)
theorem tc_J2_charAt_3b067 : Cond.code yJ2_charAt_3b067 cJ2_charAt_3b067 2 (some .char) ∈ TB := tb_of 993 (by decide +kernel) (by decide +kernel)
theorem tm_J2_charAt_3b067 : yJ2_charAt_3b067.cls = RJ2 ∧ yJ2_charAt_3b067.cls ≠ "java/lang/invoke/MethodHandle" ∧ yJ2_charAt_3b067.cls ≠ "java/lang/invoke/VarHandle" ∧ (parseMethodDescriptor yJ2_charAt_3b067.desc).map (fun d => d.parameters.length) = some 2 := by decide +kernel
theorem tl_J2_67 : Cond.methodLink RJ2 67 yJ2_checkIndex_2214a ∈ TB := tb_of 994 (by decide +kernel) (by decide +kernel)
theorem ts_J2_checkIndex_2214a : Cond.static yJ2_checkIndex_2214a ∈ TB := tb_of 995 (by decide +kernel) (by decide +kernel)
theorem tc_J2_checkIndex_2214a : Cond.code yJ2_checkIndex_2214a cJ2_checkIndex_2214a 2 none ∈ TB := tb_of 996 (by decide +kernel) (by decide +kernel)
theorem tm_J2_checkIndex_2214a : yJ2_checkIndex_2214a.cls = RJ2 ∧ yJ2_checkIndex_2214a.cls ≠ "java/lang/invoke/MethodHandle" ∧ yJ2_checkIndex_2214a.cls ≠ "java/lang/invoke/VarHandle" ∧ (parseMethodDescriptor yJ2_checkIndex_2214a.desc).map (fun d => d.parameters.length) = some 2 := by decide +kernel
theorem tl_J2_48 : Cond.methodLink RJ2 48 yJ2_length_9d52b ∈ TB := tb_of 997 (by decide +kernel) (by decide +kernel)
theorem ts_J2_length_9d52b : Cond.static yJ2_length_9d52b ∈ TB := tb_of 998 (by decide +kernel) (by decide +kernel)
theorem tc_J2_length_9d52b : Cond.code yJ2_length_9d52b cJ2_length_9d52b 1 (some .int) ∈ TB := tb_of 999 (by decide +kernel) (by decide +kernel)
theorem tm_J2_length_9d52b : yJ2_length_9d52b.cls = RJ2 ∧ yJ2_length_9d52b.cls ≠ "java/lang/invoke/MethodHandle" ∧ yJ2_length_9d52b.cls ≠ "java/lang/invoke/VarHandle" ∧ (parseMethodDescriptor yJ2_length_9d52b.desc).map (fun d => d.parameters.length) = some 1 := by decide +kernel
theorem tl_J2_414 : Cond.methodLink RJ2 414 yJ0_checkIndex_df160 ∈ TB := tb_of 1000 (by decide +kernel) (by decide +kernel)
theorem tl_J2_71 : Cond.methodLink RJ2 71 yJ2_getChar_3b067 ∈ TB := tb_of 1001 (by decide +kernel) (by decide +kernel)
theorem ts_J2_getChar_3b067 : Cond.static yJ2_getChar_3b067 ∈ TB := tb_of 1002 (by decide +kernel) (by decide +kernel)
theorem tc_J2_getChar_3b067 : Cond.code yJ2_getChar_3b067 cJ2_getChar_3b067 2 (some .char) ∈ TB := tb_of 1003 (by decide +kernel) (by decide +kernel)
theorem tm_J2_getChar_3b067 : yJ2_getChar_3b067.cls = RJ2 ∧ yJ2_getChar_3b067.cls ≠ "java/lang/invoke/MethodHandle" ∧ yJ2_getChar_3b067.cls ≠ "java/lang/invoke/VarHandle" ∧ (parseMethodDescriptor yJ2_getChar_3b067.desc).map (fun d => d.parameters.length) = some 2 := by decide +kernel
theorem tl_X6_118 : Cond.methodLink RX6 118 yX6_readMode ∈ TB := tb_of 1010 (by decide +kernel) (by decide +kernel)
theorem ti_X6_readMode : Cond.instanceMethod yX6_readMode ∈ TB := tb_of 1012 (by decide +kernel) (by decide +kernel)
theorem tc_X6_readMode : Cond.code yX6_readMode cX6_readMode 2 (some .int) ∈ TB := tb_of 1013 (by decide +kernel) (by decide +kernel)
theorem tm_X6_readMode : yX6_readMode.cls = RX6 ∧ yX6_readMode.cls ≠ "java/lang/invoke/MethodHandle" ∧ yX6_readMode.cls ≠ "java/lang/invoke/VarHandle" ∧ (parseMethodDescriptor yX6_readMode.desc).map (fun d => d.parameters.length) = some 1 := by decide +kernel
theorem tl_X6_148 : Cond.methodLink RX6 148 yX6_readSemicolon ∈ TB := tb_of 1014 (by decide +kernel) (by decide +kernel)
theorem ti_X6_readSemicolon : Cond.instanceMethod yX6_readSemicolon ∈ TB := tb_of 1016 (by decide +kernel) (by decide +kernel)
theorem tc_X6_readSemicolon : Cond.code yX6_readSemicolon cX6_readSemicolon 1 (some .int) ∈ TB := tb_of 1017 (by decide +kernel) (by decide +kernel)
theorem tm_X6_readSemicolon : yX6_readSemicolon.cls = RX6 ∧ yX6_readSemicolon.cls ≠ "java/lang/invoke/MethodHandle" ∧ yX6_readSemicolon.cls ≠ "java/lang/invoke/VarHandle" ∧ (parseMethodDescriptor yX6_readSemicolon.desc).map (fun d => d.parameters.length) = some 0 := by decide +kernel
theorem tl_X6_108 : Cond.methodLink RX6 108 yX6_isSign ∈ TB := tb_of 1018 (by decide +kernel) (by decide +kernel)
theorem ti_X6_isSign : Cond.instanceMethod yX6_isSign ∈ TB := tb_of 1020 (by decide +kernel) (by decide +kernel)
theorem tc_X6_isSign : Cond.code yX6_isSign cX6_isSign 2 (some .boolean) ∈ TB := tb_of 1021 (by decide +kernel) (by decide +kernel)
theorem tm_X6_isSign : yX6_isSign.cls = RX6 ∧ yX6_isSign.cls ≠ "java/lang/invoke/MethodHandle" ∧ yX6_isSign.cls ≠ "java/lang/invoke/VarHandle" ∧ (parseMethodDescriptor yX6_isSign.desc).map (fun d => d.parameters.length) = some 1 := by decide +kernel
theorem tl_X6_125 : Cond.methodLink RX6 125 yX6_readWithout ∈ TB := tb_of 1024 (by decide +kernel) (by decide +kernel)
theorem ti_X6_readWithout : Cond.instanceMethod yX6_readWithout ∈ TB := tb_of 1026 (by decide +kernel) (by decide +kernel)
theorem tc_X6_readWithout : Cond.code yX6_readWithout cX6_readWithout 3 (some .int) ∈ TB := tb_of 1027 (by decide +kernel) (by decide +kernel)
theorem tm_X6_readWithout : yX6_readWithout.cls = RX6 ∧ yX6_readWithout.cls ≠ "java/lang/invoke/MethodHandle" ∧ yX6_readWithout.cls ≠ "java/lang/invoke/VarHandle" ∧ (parseMethodDescriptor yX6_readWithout.desc).map (fun d => d.parameters.length) = some 0 := by decide +kernel
theorem tl_X6_130 : Cond.methodLink RX6 130 yX6_readChain ∈ TB := tb_of 1029 (by decide +kernel) (by decide +kernel)
theorem ti_X6_readChain : Cond.instanceMethod yX6_readChain ∈ TB := tb_of 1031 (by decide +kernel) (by decide +kernel)
theorem tc_X6_readChain : Cond.code yX6_readChain cX6_readChain 4 (some .int) ∈ TB := tb_of 1032 (by decide +kernel) (by decide +kernel)
theorem tm_X6_readChain : yX6_readChain.cls = RX6 ∧ yX6_readChain.cls ≠ "java/lang/invoke/MethodHandle" ∧ yX6_readChain.cls ≠ "java/lang/invoke/VarHandle" ∧ (parseMethodDescriptor yX6_readChain.desc).map (fun d => d.parameters.length) = some 0 := by decide +kernel
theorem tl_X6_151 : Cond.methodLink RX6 151 yX6_judgeNumber ∈ TB := tb_of 1033 (by decide +kernel) (by decide +kernel)
theorem ti_X6_judgeNumber : Cond.instanceMethod yX6_judgeNumber ∈ TB := tb_of 1035 (by decide +kernel) (by decide +kernel)
theorem tc_X6_judgeNumber : Cond.code yX6_judgeNumber cX6_judgeNumber 4 (some .int) ∈ TB := tb_of 1036 (by decide +kernel) (by decide +kernel)
theorem tm_X6_judgeNumber : yX6_judgeNumber.cls = RX6 ∧ yX6_judgeNumber.cls ≠ "java/lang/invoke/MethodHandle" ∧ yX6_judgeNumber.cls ≠ "java/lang/invoke/VarHandle" ∧ (parseMethodDescriptor yX6_judgeNumber.desc).map (fun d => d.parameters.length) = some 2 := by decide +kernel
theorem tl_X6_154 : Cond.methodLink RX6 154 yX6_judgeBlock ∈ TB := tb_of 1037 (by decide +kernel) (by decide +kernel)
theorem ti_X6_judgeBlock : Cond.instanceMethod yX6_judgeBlock ∈ TB := tb_of 1039 (by decide +kernel) (by decide +kernel)
theorem tc_X6_judgeBlock : Cond.code yX6_judgeBlock cX6_judgeBlock 2 (some .int) ∈ TB := tb_of 1040 (by decide +kernel) (by decide +kernel)
theorem tm_X6_judgeBlock : yX6_judgeBlock.cls = RX6 ∧ yX6_judgeBlock.cls ≠ "java/lang/invoke/MethodHandle" ∧ yX6_judgeBlock.cls ≠ "java/lang/invoke/VarHandle" ∧ (parseMethodDescriptor yX6_judgeBlock.desc).map (fun d => d.parameters.length) = some 0 := by decide +kernel
theorem tl_X6_157 : Cond.methodLinkNest RX6 157 yX11_blockAddress "FenceHeap" ∈ NST := nst_of 1041 (by decide +kernel) (by decide +kernel)
theorem tl_X6_135 : Cond.methodLink RX6 135 yX6_readLeak ∈ TB := tb_of 1043 (by decide +kernel) (by decide +kernel)
theorem ti_X6_readLeak : Cond.instanceMethod yX6_readLeak ∈ TB := tb_of 1045 (by decide +kernel) (by decide +kernel)
theorem tc_X6_readLeak : Cond.code yX6_readLeak cX6_readLeak 2 (some .int) ∈ TB := tb_of 1046 (by decide +kernel) (by decide +kernel)
theorem tm_X6_readLeak : yX6_readLeak.cls = RX6 ∧ yX6_readLeak.cls ≠ "java/lang/invoke/MethodHandle" ∧ yX6_readLeak.cls ≠ "java/lang/invoke/VarHandle" ∧ (parseMethodDescriptor yX6_readLeak.desc).map (fun d => d.parameters.length) = some 0 := by decide +kernel
theorem tl_X6_140 : Cond.methodLink RX6 140 yX6_readData ∈ TB := tb_of 1048 (by decide +kernel) (by decide +kernel)
theorem ti_X6_readData : Cond.instanceMethod yX6_readData ∈ TB := tb_of 1050 (by decide +kernel) (by decide +kernel)
theorem tc_X6_readData : Cond.code yX6_readData cX6_readData 4 (some .int) ∈ TB := tb_of 1051 (by decide +kernel) (by decide +kernel)
theorem tm_X6_readData : yX6_readData.cls = RX6 ∧ yX6_readData.cls ≠ "java/lang/invoke/MethodHandle" ∧ yX6_readData.cls ≠ "java/lang/invoke/VarHandle" ∧ (parseMethodDescriptor yX6_readData.desc).map (fun d => d.parameters.length) = some 0 := by decide +kernel
theorem tl_X6_145 : Cond.methodLink RX6 145 yX6_readDo ∈ TB := tb_of 1053 (by decide +kernel) (by decide +kernel)
theorem ti_X6_readDo : Cond.instanceMethod yX6_readDo ∈ TB := tb_of 1055 (by decide +kernel) (by decide +kernel)
theorem tc_X6_readDo : Cond.code yX6_readDo cX6_readDo 3 (some .int) ∈ TB := tb_of 1056 (by decide +kernel) (by decide +kernel)
theorem tm_X6_readDo : yX6_readDo.cls = RX6 ∧ yX6_readDo.cls ≠ "java/lang/invoke/MethodHandle" ∧ yX6_readDo.cls ≠ "java/lang/invoke/VarHandle" ∧ (parseMethodDescriptor yX6_readDo.desc).map (fun d => d.parameters.length) = some 0 := by decide +kernel
theorem tl_X6_160 : Cond.methodLink RX6 160 yX6_readOp ∈ TB := tb_of 1057 (by decide +kernel) (by decide +kernel)
theorem ti_X6_readOp : Cond.instanceMethod yX6_readOp ∈ TB := tb_of 1059 (by decide +kernel) (by decide +kernel)
theorem tc_X6_readOp : Cond.code yX6_readOp cX6_readOp 5 (some .int) ∈ TB := tb_of 1060 (by decide +kernel) (by decide +kernel)
theorem tm_X6_readOp : yX6_readOp.cls = RX6 ∧ yX6_readOp.cls ≠ "java/lang/invoke/MethodHandle" ∧ yX6_readOp.cls ≠ "java/lang/invoke/VarHandle" ∧ (parseMethodDescriptor yX6_readOp.desc).map (fun d => d.parameters.length) = some 1 := by decide +kernel
theorem tl_X6_163 : Cond.methodLink RX6 163 yX6_opTold ∈ TB := tb_of 1061 (by decide +kernel) (by decide +kernel)
theorem ti_X6_opTold : Cond.instanceMethod yX6_opTold ∈ TB := tb_of 1063 (by decide +kernel) (by decide +kernel)
theorem tc_X6_opTold : Cond.code yX6_opTold cX6_opTold 1 (some .int) ∈ TB := tb_of 1064 (by decide +kernel) (by decide +kernel)
theorem tm_X6_opTold : yX6_opTold.cls = RX6 ∧ yX6_opTold.cls ≠ "java/lang/invoke/MethodHandle" ∧ yX6_opTold.cls ≠ "java/lang/invoke/VarHandle" ∧ (parseMethodDescriptor yX6_opTold.desc).map (fun d => d.parameters.length) = some 0 := by decide +kernel
theorem tf_X6_166 : Cond.fieldLinkNest RX6 166 "FenceHeap" "ARGUMENTS" "[I" "FenceHeap" ∈ NST := nst_of 1070 (by decide +kernel) (by decide +kernel)
theorem tf_X6_169 : Cond.fieldLinkNest RX6 169 "FenceHeap" "FIRST_LEAST" "[I" "FenceHeap" ∈ NST := nst_of 1072 (by decide +kernel) (by decide +kernel)
theorem tf_X6_172 : Cond.fieldLinkNest RX6 172 "FenceHeap" "FIRST_MOST" "[I" "FenceHeap" ∈ NST := nst_of 1074 (by decide +kernel) (by decide +kernel)
theorem tf_X6_175 : Cond.fieldLinkNest RX6 175 "FenceHeap" "SECOND_MOST" "[I" "FenceHeap" ∈ NST := nst_of 1076 (by decide +kernel) (by decide +kernel)
theorem tl_X6_178 : Cond.methodLinkNest RX6 178 yX11_packOp "FenceHeap" ∈ NST := nst_of 1078 (by decide +kernel) (by decide +kernel)
theorem ts_X11_packOp : Cond.static yX11_packOp ∈ TB := tb_of 1079 (by decide +kernel) (by decide +kernel)
theorem tc_X11_packOp : Cond.code yX11_packOp cX11_packOp 5 (some .int) ∈ TB := tb_of 1080 (by decide +kernel) (by decide +kernel)
theorem tm_X11_packOp : yX11_packOp.cls = RX11 ∧ yX11_packOp.cls ≠ "java/lang/invoke/MethodHandle" ∧ yX11_packOp.cls ≠ "java/lang/invoke/VarHandle" ∧ (parseMethodDescriptor yX11_packOp.desc).map (fun d => d.parameters.length) = some 3 := by decide +kernel
theorem tf_X11_277 : Cond.fieldLink RX11 277 "FenceHeap" "ARGUMENTS" "[I" ∈ TB := tb_of 1081 (by decide +kernel) (by decide +kernel)
theorem tl_X6_74 : Cond.methodLink RX6 74 yX4_settle ∈ TB := tb_of 1082 (by decide +kernel) (by decide +kernel)
theorem tl_X11_108 : Cond.methodLink RX11 108 yX0_renew ∈ TB := tb_of 1083 (by decide +kernel) (by decide +kernel)
theorem ti_X0_renew : Cond.instanceMethod yX0_renew ∈ TB := tb_of 1084 (by decide +kernel) (by decide +kernel)
theorem tz_X0_renew : Cond.selects RX0 yX0_renew yX0_renew ∈ TB := tb_of 1085 (by decide +kernel) (by decide +kernel)
theorem tc_X0_renew : Cond.code yX0_renew cX0_renew 2 none ∈ TB := tb_of 1086 (by decide +kernel) (by decide +kernel)
theorem tm_X0_renew : yX0_renew.cls = RX0 ∧ yX0_renew.cls ≠ "java/lang/invoke/MethodHandle" ∧ yX0_renew.cls ≠ "java/lang/invoke/VarHandle" ∧ (parseMethodDescriptor yX0_renew.desc).map (fun d => d.parameters.length) = some 1 := by decide +kernel
theorem ti_X11_count : Cond.instanceMethod yX11_count ∈ TB := tb_of 1092 (by decide +kernel) (by decide +kernel)
theorem tz_X11_count : Cond.selects RX11 yX11_count yX11_count ∈ TB := tb_of 1093 (by decide +kernel) (by decide +kernel)
theorem tc_X11_count : Cond.code yX11_count cX11_count 3 (some .int) ∈ TB := tb_of 1094 (by decide +kernel) (by decide +kernel)
theorem tm_X11_count : yX11_count.cls = RX11 ∧ yX11_count.cls ≠ "java/lang/invoke/MethodHandle" ∧ yX11_count.cls ≠ "java/lang/invoke/VarHandle" ∧ (parseMethodDescriptor yX11_count.desc).map (fun d => d.parameters.length) = some 1 := by decide +kernel
theorem tl_X11_135 : Cond.methodLink RX11 135 yX1_pendingInAll ∈ TB := tb_of 1095 (by decide +kernel) (by decide +kernel)
theorem ti_X1_pendingInAll : Cond.instanceMethod yX1_pendingInAll ∈ TB := tb_of 1096 (by decide +kernel) (by decide +kernel)
theorem tz_X1_pendingInAll : Cond.selects RX1 yX1_pendingInAll yX1_pendingInAll ∈ TB := tb_of 1097 (by decide +kernel) (by decide +kernel)
theorem tc_X1_pendingInAll : Cond.code yX1_pendingInAll cX1_pendingInAll 3 (some .int) ∈ TB := tb_of 1098 (by decide +kernel) (by decide +kernel)
theorem tm_X1_pendingInAll : yX1_pendingInAll.cls = RX1 ∧ yX1_pendingInAll.cls ≠ "java/lang/invoke/MethodHandle" ∧ yX1_pendingInAll.cls ≠ "java/lang/invoke/VarHandle" ∧ (parseMethodDescriptor yX1_pendingInAll.desc).map (fun d => d.parameters.length) = some 0 := by decide +kernel
theorem ti_X11_word : Cond.instanceMethod yX11_word ∈ TB := tb_of 1119 (by decide +kernel) (by decide +kernel)
theorem tz_X11_word : Cond.selects RX11 yX11_word yX11_word ∈ TB := tb_of 1120 (by decide +kernel) (by decide +kernel)
theorem tc_X11_word : Cond.code yX11_word cX11_word 4 (some .int) ∈ TB := tb_of 1121 (by decide +kernel) (by decide +kernel)
theorem tm_X11_word : yX11_word.cls = RX11 ∧ yX11_word.cls ≠ "java/lang/invoke/MethodHandle" ∧ yX11_word.cls ≠ "java/lang/invoke/VarHandle" ∧ (parseMethodDescriptor yX11_word.desc).map (fun d => d.parameters.length) = some 2 := by decide +kernel
theorem tl_X11_169 : Cond.methodLink RX11 169 yX1_wordNow ∈ TB := tb_of 1123 (by decide +kernel) (by decide +kernel)
theorem ti_X1_wordNow : Cond.instanceMethod yX1_wordNow ∈ TB := tb_of 1124 (by decide +kernel) (by decide +kernel)
theorem tz_X1_wordNow : Cond.selects RX1 yX1_wordNow yX1_wordNow ∈ TB := tb_of 1125 (by decide +kernel) (by decide +kernel)
theorem tc_X1_wordNow : Cond.code yX1_wordNow cX1_wordNow 5 (some .int) ∈ TB := tb_of 1126 (by decide +kernel) (by decide +kernel)
theorem tm_X1_wordNow : yX1_wordNow.cls = RX1 ∧ yX1_wordNow.cls ≠ "java/lang/invoke/MethodHandle" ∧ yX1_wordNow.cls ≠ "java/lang/invoke/VarHandle" ∧ (parseMethodDescriptor yX1_wordNow.desc).map (fun d => d.parameters.length) = some 1 := by decide +kernel
theorem ti_X11_line : Cond.instanceMethod yX11_line ∈ TB := tb_of 1131 (by decide +kernel) (by decide +kernel)
theorem tz_X11_line : Cond.selects RX11 yX11_line yX11_line ∈ TB := tb_of 1132 (by decide +kernel) (by decide +kernel)
theorem tc_X11_line : Cond.code yX11_line cX11_line 4 (some .int) ∈ TB := tb_of 1133 (by decide +kernel) (by decide +kernel)
theorem tm_X11_line : yX11_line.cls = RX11 ∧ yX11_line.cls ≠ "java/lang/invoke/MethodHandle" ∧ yX11_line.cls ≠ "java/lang/invoke/VarHandle" ∧ (parseMethodDescriptor yX11_line.desc).map (fun d => d.parameters.length) = some 2 := by decide +kernel
theorem tl_X11_173 : Cond.methodLink RX11 173 yX11_isLine ∈ TB := tb_of 1134 (by decide +kernel) (by decide +kernel)
theorem ts_X11_isLine : Cond.static yX11_isLine ∈ TB := tb_of 1135 (by decide +kernel) (by decide +kernel)
theorem tc_X11_isLine : Cond.code yX11_isLine cX11_isLine 1 (some .boolean) ∈ TB := tb_of 1136 (by decide +kernel) (by decide +kernel)
theorem tm_X11_isLine : yX11_isLine.cls = RX11 ∧ yX11_isLine.cls ≠ "java/lang/invoke/MethodHandle" ∧ yX11_isLine.cls ≠ "java/lang/invoke/VarHandle" ∧ (parseMethodDescriptor yX11_isLine.desc).map (fun d => d.parameters.length) = some 1 := by decide +kernel
theorem ti_X11_micro : Cond.instanceMethod yX11_micro ∈ TB := tb_of 1143 (by decide +kernel) (by decide +kernel)
theorem tz_X11_micro : Cond.selects RX11 yX11_micro yX11_micro ∈ TB := tb_of 1144 (by decide +kernel) (by decide +kernel)
theorem tc_X11_micro : Cond.code yX11_micro cX11_micro 7 (some .int) ∈ TB := tb_of 1145 (by decide +kernel) (by decide +kernel)
theorem tm_X11_micro : yX11_micro.cls = RX11 ∧ yX11_micro.cls ≠ "java/lang/invoke/MethodHandle" ∧ yX11_micro.cls ≠ "java/lang/invoke/VarHandle" ∧ (parseMethodDescriptor yX11_micro.desc).map (fun d => d.parameters.length) = some 2 := by decide +kernel
theorem ti_X11_shape : Cond.instanceMethod yX11_shape ∈ TB := tb_of 1151 (by decide +kernel) (by decide +kernel)
theorem tz_X11_shape : Cond.selects RX11 yX11_shape yX11_shape ∈ TB := tb_of 1152 (by decide +kernel) (by decide +kernel)
theorem tc_X11_shape : Cond.code yX11_shape cX11_shape 4 (some .int) ∈ TB := tb_of 1153 (by decide +kernel) (by decide +kernel)
theorem tm_X11_shape : yX11_shape.cls = RX11 ∧ yX11_shape.cls ≠ "java/lang/invoke/MethodHandle" ∧ yX11_shape.cls ≠ "java/lang/invoke/VarHandle" ∧ (parseMethodDescriptor yX11_shape.desc).map (fun d => d.parameters.length) = some 2 := by decide +kernel
theorem tl_X11_206 : Cond.methodLink RX11 206 yX1_fillWords ∈ TB := tb_of 1155 (by decide +kernel) (by decide +kernel)
theorem tl_X11_210 : Cond.methodLink RX11 210 yX7_survey ∈ TB := tb_of 1156 (by decide +kernel) (by decide +kernel)
theorem tl_X11_213 : Cond.methodLink RX11 213 yX9_start ∈ TB := tb_of 1157 (by decide +kernel) (by decide +kernel)
theorem tl_X11_216 : Cond.methodLink RX11 216 yX9_recoverPicture ∈ TB := tb_of 1158 (by decide +kernel) (by decide +kernel)
theorem tl_X11_225 : Cond.methodLink RX11 225 yX7_answer ∈ TB := tb_of 1159 (by decide +kernel) (by decide +kernel)
theorem ti_X7_answer : Cond.instanceMethod yX7_answer ∈ TB := tb_of 1160 (by decide +kernel) (by decide +kernel)
theorem tz_X7_answer : Cond.selects RX7 yX7_answer yX7_answer ∈ TB := tb_of 1161 (by decide +kernel) (by decide +kernel)
theorem tc_X7_answer : Cond.code yX7_answer cX7_answer 2 (some .int) ∈ TB := tb_of 1162 (by decide +kernel) (by decide +kernel)
theorem tm_X7_answer : yX7_answer.cls = RX7 ∧ yX7_answer.cls ≠ "java/lang/invoke/MethodHandle" ∧ yX7_answer.cls ≠ "java/lang/invoke/VarHandle" ∧ (parseMethodDescriptor yX7_answer.desc).map (fun d => d.parameters.length) = some 1 := by decide +kernel
theorem ti_X11_evict : Cond.instanceMethod yX11_evict ∈ TB := tb_of 1167 (by decide +kernel) (by decide +kernel)
theorem tz_X11_evict : Cond.selects RX11 yX11_evict yX11_evict ∈ TB := tb_of 1168 (by decide +kernel) (by decide +kernel)
theorem tc_X11_evict : Cond.code yX11_evict cX11_evict 4 (some .int) ∈ TB := tb_of 1169 (by decide +kernel) (by decide +kernel)
theorem tm_X11_evict : yX11_evict.cls = RX11 ∧ yX11_evict.cls ≠ "java/lang/invoke/MethodHandle" ∧ yX11_evict.cls ≠ "java/lang/invoke/VarHandle" ∧ (parseMethodDescriptor yX11_evict.desc).map (fun d => d.parameters.length) = some 2 := by decide +kernel
theorem tl_X11_241 : Cond.methodLink RX11 241 yX1_reach ∈ TB := tb_of 1170 (by decide +kernel) (by decide +kernel)
theorem ti_X11_later : Cond.instanceMethod yX11_later ∈ TB := tb_of 1175 (by decide +kernel) (by decide +kernel)
theorem tz_X11_later : Cond.selects RX11 yX11_later yX11_later ∈ TB := tb_of 1176 (by decide +kernel) (by decide +kernel)
theorem tc_X11_later : Cond.code yX11_later cX11_later 5 (some .int) ∈ TB := tb_of 1177 (by decide +kernel) (by decide +kernel)
theorem tm_X11_later : yX11_later.cls = RX11 ∧ yX11_later.cls ≠ "java/lang/invoke/MethodHandle" ∧ yX11_later.cls ≠ "java/lang/invoke/VarHandle" ∧ (parseMethodDescriptor yX11_later.desc).map (fun d => d.parameters.length) = some 3 := by decide +kernel
theorem tl_X11_266 : Cond.methodLink RX11 266 yX11_isAsTold ∈ TB := tb_of 1179 (by decide +kernel) (by decide +kernel)
theorem ts_X11_isAsTold : Cond.static yX11_isAsTold ∈ TB := tb_of 1180 (by decide +kernel) (by decide +kernel)
theorem tc_X11_isAsTold : Cond.code yX11_isAsTold cX11_isAsTold 3 (some .boolean) ∈ TB := tb_of 1181 (by decide +kernel) (by decide +kernel)
theorem tm_X11_isAsTold : yX11_isAsTold.cls = RX11 ∧ yX11_isAsTold.cls ≠ "java/lang/invoke/MethodHandle" ∧ yX11_isAsTold.cls ≠ "java/lang/invoke/VarHandle" ∧ (parseMethodDescriptor yX11_isAsTold.desc).map (fun d => d.parameters.length) = some 3 := by decide +kernel
theorem tf_X11_280 : Cond.fieldLink RX11 280 "FenceHeap" "FIRST_LEAST" "[I" ∈ TB := tb_of 1182 (by decide +kernel) (by decide +kernel)
theorem tf_X11_283 : Cond.fieldLink RX11 283 "FenceHeap" "FIRST_MOST" "[I" ∈ TB := tb_of 1183 (by decide +kernel) (by decide +kernel)
theorem tf_X11_286 : Cond.fieldLink RX11 286 "FenceHeap" "SECOND_MOST" "[I" ∈ TB := tb_of 1184 (by decide +kernel) (by decide +kernel)
theorem tl_X11_270 : Cond.methodLink RX11 270 yX11_packOp ∈ TB := tb_of 1185 (by decide +kernel) (by decide +kernel)
theorem tl_X11_274 : Cond.methodLink RX11 274 yX4_addWaiting ∈ TB := tb_of 1186 (by decide +kernel) (by decide +kernel)
theorem ti_X4_addWaiting : Cond.instanceMethod yX4_addWaiting ∈ TB := tb_of 1187 (by decide +kernel) (by decide +kernel)
theorem tz_X4_addWaiting : Cond.selects RX4 yX4_addWaiting yX4_addWaiting ∈ TB := tb_of 1188 (by decide +kernel) (by decide +kernel)
theorem tc_X4_addWaiting : Cond.code yX4_addWaiting cX4_addWaiting 3 none ∈ TB := tb_of 1189 (by decide +kernel) (by decide +kernel)
theorem tm_X4_addWaiting : yX4_addWaiting.cls = RX4 ∧ yX4_addWaiting.cls ≠ "java/lang/invoke/MethodHandle" ∧ yX4_addWaiting.cls ≠ "java/lang/invoke/VarHandle" ∧ (parseMethodDescriptor yX4_addWaiting.desc).map (fun d => d.parameters.length) = some 1 := by decide +kernel
theorem ti_X11_site : Cond.instanceMethod yX11_site ∈ TB := tb_of 1194 (by decide +kernel) (by decide +kernel)
theorem tz_X11_site : Cond.selects RX11 yX11_site yX11_site ∈ TB := tb_of 1195 (by decide +kernel) (by decide +kernel)
theorem tc_X11_site : Cond.code yX11_site cX11_site 2 (some .int) ∈ TB := tb_of 1196 (by decide +kernel) (by decide +kernel)
theorem tm_X11_site : yX11_site.cls = RX11 ∧ yX11_site.cls ≠ "java/lang/invoke/MethodHandle" ∧ yX11_site.cls ≠ "java/lang/invoke/VarHandle" ∧ (parseMethodDescriptor yX11_site.desc).map (fun d => d.parameters.length) = some 1 := by decide +kernel
theorem ti_X11_recovered : Cond.instanceMethod yX11_recovered ∈ TB := tb_of 1202 (by decide +kernel) (by decide +kernel)
theorem tz_X11_recovered : Cond.selects RX11 yX11_recovered yX11_recovered ∈ TB := tb_of 1203 (by decide +kernel) (by decide +kernel)
theorem tc_X11_recovered : Cond.code yX11_recovered cX11_recovered 3 (some .int) ∈ TB := tb_of 1204 (by decide +kernel) (by decide +kernel)
theorem tm_X11_recovered : yX11_recovered.cls = RX11 ∧ yX11_recovered.cls ≠ "java/lang/invoke/MethodHandle" ∧ yX11_recovered.cls ≠ "java/lang/invoke/VarHandle" ∧ (parseMethodDescriptor yX11_recovered.desc).map (fun d => d.parameters.length) = some 2 := by decide +kernel
theorem ti_X11_fate : Cond.instanceMethod yX11_fate ∈ TB := tb_of 1210 (by decide +kernel) (by decide +kernel)
theorem tz_X11_fate : Cond.selects RX11 yX11_fate yX11_fate ∈ TB := tb_of 1211 (by decide +kernel) (by decide +kernel)
theorem tc_X11_fate : Cond.code yX11_fate cX11_fate 2 (some .int) ∈ TB := tb_of 1212 (by decide +kernel) (by decide +kernel)
theorem tm_X11_fate : yX11_fate.cls = RX11 ∧ yX11_fate.cls ≠ "java/lang/invoke/MethodHandle" ∧ yX11_fate.cls ≠ "java/lang/invoke/VarHandle" ∧ (parseMethodDescriptor yX11_fate.desc).map (fun d => d.parameters.length) = some 1 := by decide +kernel
theorem ti_X11_check : Cond.instanceMethod yX11_check ∈ TB := tb_of 1217 (by decide +kernel) (by decide +kernel)
theorem tz_X11_check : Cond.selects RX11 yX11_check yX11_check ∈ TB := tb_of 1218 (by decide +kernel) (by decide +kernel)
theorem tc_X11_check : Cond.code yX11_check cX11_check 2 (some .int) ∈ TB := tb_of 1219 (by decide +kernel) (by decide +kernel)
theorem tm_X11_check : yX11_check.cls = RX11 ∧ yX11_check.cls ≠ "java/lang/invoke/MethodHandle" ∧ yX11_check.cls ≠ "java/lang/invoke/VarHandle" ∧ (parseMethodDescriptor yX11_check.desc).map (fun d => d.parameters.length) = some 1 := by decide +kernel
theorem ti_X11_least : Cond.instanceMethod yX11_least ∈ TB := tb_of 1225 (by decide +kernel) (by decide +kernel)
theorem tz_X11_least : Cond.selects RX11 yX11_least yX11_least ∈ TB := tb_of 1226 (by decide +kernel) (by decide +kernel)
theorem tc_X11_least : Cond.code yX11_least cX11_least 6 (some .int) ∈ TB := tb_of 1227 (by decide +kernel) (by decide +kernel)
theorem tm_X11_least : yX11_least.cls = RX11 ∧ yX11_least.cls ≠ "java/lang/invoke/MethodHandle" ∧ yX11_least.cls ≠ "java/lang/invoke/VarHandle" ∧ (parseMethodDescriptor yX11_least.desc).map (fun d => d.parameters.length) = some 1 := by decide +kernel
theorem tl_X11_324 : Cond.methodLink RX11 324 yJ6_bitCount_0f7a4 ∈ TB := tb_of 1229 (by decide +kernel) (by decide +kernel)
theorem ts_J6_bitCount_0f7a4 : Cond.static yJ6_bitCount_0f7a4 ∈ TB := tb_of 1230 (by decide +kernel) (by decide +kernel)
theorem tc_J6_bitCount_0f7a4 : Cond.code yJ6_bitCount_0f7a4 cJ6_bitCount_0f7a4 1 (some .int) ∈ TB := tb_of 1231 (by decide +kernel) (by decide +kernel)
theorem tm_J6_bitCount_0f7a4 : yJ6_bitCount_0f7a4.cls = RJ6 ∧ yJ6_bitCount_0f7a4.cls ≠ "java/lang/invoke/MethodHandle" ∧ yJ6_bitCount_0f7a4.cls ≠ "java/lang/invoke/VarHandle" ∧ (parseMethodDescriptor yJ6_bitCount_0f7a4.desc).map (fun d => d.parameters.length) = some 1 := by decide +kernel
theorem tk_J6_265 : Cond.constant RJ6 265 (1431655765 : Int32) ∈ TB := tb_of 1232 (by decide +kernel) (by decide +kernel)
theorem tk_J6_266 : Cond.constant RJ6 266 (858993459 : Int32) ∈ TB := tb_of 1233 (by decide +kernel) (by decide +kernel)
theorem tk_J6_267 : Cond.constant RJ6 267 (252645135 : Int32) ∈ TB := tb_of 1234 (by decide +kernel) (by decide +kernel)
theorem ti_X11_chance : Cond.instanceMethod yX11_chance ∈ TB := tb_of 1239 (by decide +kernel) (by decide +kernel)
theorem tz_X11_chance : Cond.selects RX11 yX11_chance yX11_chance ∈ TB := tb_of 1240 (by decide +kernel) (by decide +kernel)
theorem tc_X11_chance : Cond.code yX11_chance cX11_chance 7 (some .int) ∈ TB := tb_of 1241 (by decide +kernel) (by decide +kernel)
theorem tm_X11_chance : yX11_chance.cls = RX11 ∧ yX11_chance.cls ≠ "java/lang/invoke/MethodHandle" ∧ yX11_chance.cls ≠ "java/lang/invoke/VarHandle" ∧ (parseMethodDescriptor yX11_chance.desc).map (fun d => d.parameters.length) = some 1 := by decide +kernel
theorem tk_X11_331 : Cond.constantLong RX11 331 (2000 : Int64) ∈ TB := tb_of 1243 (by decide +kernel) (by decide +kernel)
theorem tl_X11_333 : Cond.methodLink RX11 333 yX9_goOn ∈ TB := tb_of 1244 (by decide +kernel) (by decide +kernel)
theorem tl_X11_336 : Cond.methodLink RX11 336 yX11_commonDivisor ∈ TB := tb_of 1245 (by decide +kernel) (by decide +kernel)
theorem ts_X11_commonDivisor : Cond.static yX11_commonDivisor ∈ TB := tb_of 1246 (by decide +kernel) (by decide +kernel)
theorem tc_X11_commonDivisor : Cond.code yX11_commonDivisor cX11_commonDivisor 6 (some .int) ∈ TB := tb_of 1247 (by decide +kernel) (by decide +kernel)
theorem tm_X11_commonDivisor : yX11_commonDivisor.cls = RX11 ∧ yX11_commonDivisor.cls ≠ "java/lang/invoke/MethodHandle" ∧ yX11_commonDivisor.cls ≠ "java/lang/invoke/VarHandle" ∧ (parseMethodDescriptor yX11_commonDivisor.desc).map (fun d => d.parameters.length) = some 2 := by decide +kernel
theorem tl_X11_340 : Cond.methodLink RX11 340 Lib.Math.max.name ∈ TB := tb_of 1248 (by decide +kernel) (by decide +kernel)
theorem ti_X11_explained : Cond.instanceMethod yX11_explained ∈ TB := tb_of 1253 (by decide +kernel) (by decide +kernel)
theorem tz_X11_explained : Cond.selects RX11 yX11_explained yX11_explained ∈ TB := tb_of 1254 (by decide +kernel) (by decide +kernel)
theorem tc_X11_explained : Cond.code yX11_explained cX11_explained 4 (some .int) ∈ TB := tb_of 1255 (by decide +kernel) (by decide +kernel)
theorem tm_X11_explained : yX11_explained.cls = RX11 ∧ yX11_explained.cls ≠ "java/lang/invoke/MethodHandle" ∧ yX11_explained.cls ≠ "java/lang/invoke/VarHandle" ∧ (parseMethodDescriptor yX11_explained.desc).map (fun d => d.parameters.length) = some 1 := by decide +kernel
theorem tl_X11_350 : Cond.methodLink RX11 350 yX8_narrow ∈ TB := tb_of 1257 (by decide +kernel) (by decide +kernel)
theorem ti_X8_narrow : Cond.instanceMethod yX8_narrow ∈ TB := tb_of 1258 (by decide +kernel) (by decide +kernel)
theorem tz_X8_narrow : Cond.selects RX8 yX8_narrow yX8_narrow ∈ TB := tb_of 1259 (by decide +kernel) (by decide +kernel)
theorem tc_X8_narrow : Cond.code yX8_narrow cX8_narrow 7 none ∈ TB := tb_of 1260 (by decide +kernel) (by decide +kernel)
theorem tm_X8_narrow : yX8_narrow.cls = RX8 ∧ yX8_narrow.cls ≠ "java/lang/invoke/MethodHandle" ∧ yX8_narrow.cls ≠ "java/lang/invoke/VarHandle" ∧ (parseMethodDescriptor yX8_narrow.desc).map (fun d => d.parameters.length) = some 3 := by decide +kernel
theorem tl_X8_23 : Cond.methodLink RX8 23 arraycopyName ∈ TB := tb_of 1261 (by decide +kernel) (by decide +kernel)
theorem tl_X8_35 : Cond.methodLink RX8 35 yX8_fits ∈ TB := tb_of 1262 (by decide +kernel) (by decide +kernel)
theorem ti_X8_fits : Cond.instanceMethod yX8_fits ∈ TB := tb_of 1264 (by decide +kernel) (by decide +kernel)
theorem tc_X8_fits : Cond.code yX8_fits cX8_fits 6 (some .boolean) ∈ TB := tb_of 1265 (by decide +kernel) (by decide +kernel)
theorem tm_X8_fits : yX8_fits.cls = RX8 ∧ yX8_fits.cls ≠ "java/lang/invoke/MethodHandle" ∧ yX8_fits.cls ≠ "java/lang/invoke/VarHandle" ∧ (parseMethodDescriptor yX8_fits.desc).map (fun d => d.parameters.length) = some 3 := by decide +kernel
theorem tl_X11_354 : Cond.methodLink RX11 354 yX8_ordersLeft ∈ TB := tb_of 1266 (by decide +kernel) (by decide +kernel)
theorem ti_X8_ordersLeft : Cond.instanceMethod yX8_ordersLeft ∈ TB := tb_of 1267 (by decide +kernel) (by decide +kernel)
theorem tz_X8_ordersLeft : Cond.selects RX8 yX8_ordersLeft yX8_ordersLeft ∈ TB := tb_of 1268 (by decide +kernel) (by decide +kernel)
theorem tc_X8_ordersLeft : Cond.code yX8_ordersLeft cX8_ordersLeft 3 (some .int) ∈ TB := tb_of 1269 (by decide +kernel) (by decide +kernel)
theorem tm_X8_ordersLeft : yX8_ordersLeft.cls = RX8 ∧ yX8_ordersLeft.cls ≠ "java/lang/invoke/MethodHandle" ∧ yX8_ordersLeft.cls ≠ "java/lang/invoke/VarHandle" ∧ (parseMethodDescriptor yX8_ordersLeft.desc).map (fun d => d.parameters.length) = some 0 := by decide +kernel
theorem tl_X8_39 : Cond.methodLink RX8 39 yJ6_bitCount_0f7a4 ∈ TB := tb_of 1270 (by decide +kernel) (by decide +kernel)
theorem tl_X11_357 : Cond.methodLink RX11 357 yX8_firstLeft ∈ TB := tb_of 1271 (by decide +kernel) (by decide +kernel)
theorem ti_X8_firstLeft : Cond.instanceMethod yX8_firstLeft ∈ TB := tb_of 1272 (by decide +kernel) (by decide +kernel)
theorem tz_X8_firstLeft : Cond.selects RX8 yX8_firstLeft yX8_firstLeft ∈ TB := tb_of 1273 (by decide +kernel) (by decide +kernel)
theorem tc_X8_firstLeft : Cond.code yX8_firstLeft cX8_firstLeft 4 (some .int) ∈ TB := tb_of 1274 (by decide +kernel) (by decide +kernel)
theorem tm_X8_firstLeft : yX8_firstLeft.cls = RX8 ∧ yX8_firstLeft.cls ≠ "java/lang/invoke/MethodHandle" ∧ yX8_firstLeft.cls ≠ "java/lang/invoke/VarHandle" ∧ (parseMethodDescriptor yX8_firstLeft.desc).map (fun d => d.parameters.length) = some 1 := by decide +kernel
theorem tl_X8_45 : Cond.methodLink RX8 45 yJ6_numberOfTrailingZeros_0f7a4 ∈ TB := tb_of 1275 (by decide +kernel) (by decide +kernel)
theorem ts_J6_numberOfTrailingZeros_0f7a4 : Cond.static yJ6_numberOfTrailingZeros_0f7a4 ∈ TB := tb_of 1276 (by decide +kernel) (by decide +kernel)
theorem tc_J6_numberOfTrailingZeros_0f7a4 : Cond.code yJ6_numberOfTrailingZeros_0f7a4 cJ6_numberOfTrailingZeros_0f7a4 2 (some .int) ∈ TB := tb_of 1277 (by decide +kernel) (by decide +kernel)
theorem tm_J6_numberOfTrailingZeros_0f7a4 : yJ6_numberOfTrailingZeros_0f7a4.cls = RJ6 ∧ yJ6_numberOfTrailingZeros_0f7a4.cls ≠ "java/lang/invoke/MethodHandle" ∧ yJ6_numberOfTrailingZeros_0f7a4.cls ≠ "java/lang/invoke/VarHandle" ∧ (parseMethodDescriptor yJ6_numberOfTrailingZeros_0f7a4.desc).map (fun d => d.parameters.length) = some 1 := by decide +kernel
theorem tk_J6_264 : Cond.constant RJ6 264 (65536 : Int32) ∈ TB := tb_of 1278 (by decide +kernel) (by decide +kernel)
theorem ti_X11_look : Cond.instanceMethod yX11_look ∈ TB := tb_of 1283 (by decide +kernel) (by decide +kernel)
theorem tz_X11_look : Cond.selects RX11 yX11_look yX11_look ∈ TB := tb_of 1284 (by decide +kernel) (by decide +kernel)
theorem tc_X11_look : Cond.code yX11_look cX11_look 7 (some .int) ∈ TB := tb_of 1285 (by decide +kernel) (by decide +kernel)
theorem tm_X11_look : yX11_look.cls = RX11 ∧ yX11_look.cls ≠ "java/lang/invoke/MethodHandle" ∧ yX11_look.cls ≠ "java/lang/invoke/VarHandle" ∧ (parseMethodDescriptor yX11_look.desc).map (fun d => d.parameters.length) = some 1 := by decide +kernel
theorem tl_X11_363 : Cond.methodLink RX11 363 yX8_unlikeNumbers ∈ TB := tb_of 1287 (by decide +kernel) (by decide +kernel)
theorem ti_X8_unlikeNumbers : Cond.instanceMethod yX8_unlikeNumbers ∈ TB := tb_of 1288 (by decide +kernel) (by decide +kernel)
theorem tz_X8_unlikeNumbers : Cond.selects RX8 yX8_unlikeNumbers yX8_unlikeNumbers ∈ TB := tb_of 1289 (by decide +kernel) (by decide +kernel)
theorem tc_X8_unlikeNumbers : Cond.code yX8_unlikeNumbers cX8_unlikeNumbers 11 (some .int) ∈ TB := tb_of 1290 (by decide +kernel) (by decide +kernel)
theorem tm_X8_unlikeNumbers : yX8_unlikeNumbers.cls = RX8 ∧ yX8_unlikeNumbers.cls ≠ "java/lang/invoke/MethodHandle" ∧ yX8_unlikeNumbers.cls ≠ "java/lang/invoke/VarHandle" ∧ (parseMethodDescriptor yX8_unlikeNumbers.desc).map (fun d => d.parameters.length) = some 2 := by decide +kernel
theorem tl_X8_48 : Cond.methodLink RX8 48 yJ13_bitCount_95d88 ∈ TB := tb_of 1291 (by decide +kernel) (by decide +kernel)
theorem ts_J13_bitCount_95d88 : Cond.static yJ13_bitCount_95d88 ∈ TB := tb_of 1292 (by decide +kernel) (by decide +kernel)
theorem tc_J13_bitCount_95d88 : Cond.code yJ13_bitCount_95d88 cJ13_bitCount_95d88 2 (some .int) ∈ TB := tb_of 1293 (by decide +kernel) (by decide +kernel)
theorem tm_J13_bitCount_95d88 : yJ13_bitCount_95d88.cls = RJ13 ∧ yJ13_bitCount_95d88.cls ≠ "java/lang/invoke/MethodHandle" ∧ yJ13_bitCount_95d88.cls ≠ "java/lang/invoke/VarHandle" ∧ (parseMethodDescriptor yJ13_bitCount_95d88.desc).map (fun d => d.parameters.length) = some 1 := by decide +kernel
theorem tk_J13_314 : Cond.constantLong RJ13 314 (6148914691236517205 : Int64) ∈ TB := tb_of 1294 (by decide +kernel) (by decide +kernel)
theorem tk_J13_316 : Cond.constantLong RJ13 316 (3689348814741910323 : Int64) ∈ TB := tb_of 1295 (by decide +kernel) (by decide +kernel)
theorem tk_J13_318 : Cond.constantLong RJ13 318 (1085102592571150095 : Int64) ∈ TB := tb_of 1296 (by decide +kernel) (by decide +kernel)
theorem ti_X11_years : Cond.instanceMethod yX11_years ∈ TB := tb_of 1301 (by decide +kernel) (by decide +kernel)
theorem tz_X11_years : Cond.selects RX11 yX11_years yX11_years ∈ TB := tb_of 1302 (by decide +kernel) (by decide +kernel)
theorem tc_X11_years : Cond.code yX11_years cX11_years 5 (some .int) ∈ TB := tb_of 1303 (by decide +kernel) (by decide +kernel)
theorem tm_X11_years : yX11_years.cls = RX11 ∧ yX11_years.cls ≠ "java/lang/invoke/MethodHandle" ∧ yX11_years.cls ≠ "java/lang/invoke/VarHandle" ∧ (parseMethodDescriptor yX11_years.desc).map (fun d => d.parameters.length) = some 3 := by decide +kernel
theorem tl_X11_371 : Cond.methodLink RX11 371 yX10_start ∈ TB := tb_of 1306 (by decide +kernel) (by decide +kernel)
theorem ti_X10_start : Cond.instanceMethod yX10_start ∈ TB := tb_of 1307 (by decide +kernel) (by decide +kernel)
theorem tz_X10_start : Cond.selects RX10 yX10_start yX10_start ∈ TB := tb_of 1308 (by decide +kernel) (by decide +kernel)
theorem tc_X10_start : Cond.code yX10_start cX10_start 3 none ∈ TB := tb_of 1309 (by decide +kernel) (by decide +kernel)
theorem tm_X10_start : yX10_start.cls = RX10 ∧ yX10_start.cls ≠ "java/lang/invoke/MethodHandle" ∧ yX10_start.cls ≠ "java/lang/invoke/VarHandle" ∧ (parseMethodDescriptor yX10_start.desc).map (fun d => d.parameters.length) = some 2 := by decide +kernel
theorem tl_X10_42 : Cond.methodLink RX10 42 yX4_copyFrom ∈ TB := tb_of 1310 (by decide +kernel) (by decide +kernel)
theorem tl_X11_374 : Cond.methodLink RX11 374 yX10_passOne ∈ TB := tb_of 1311 (by decide +kernel) (by decide +kernel)
theorem ti_X10_passOne : Cond.instanceMethod yX10_passOne ∈ TB := tb_of 1312 (by decide +kernel) (by decide +kernel)
theorem tz_X10_passOne : Cond.selects RX10 yX10_passOne yX10_passOne ∈ TB := tb_of 1313 (by decide +kernel) (by decide +kernel)
theorem tc_X10_passOne : Cond.code yX10_passOne cX10_passOne 3 none ∈ TB := tb_of 1314 (by decide +kernel) (by decide +kernel)
theorem tm_X10_passOne : yX10_passOne.cls = RX10 ∧ yX10_passOne.cls ≠ "java/lang/invoke/MethodHandle" ∧ yX10_passOne.cls ≠ "java/lang/invoke/VarHandle" ∧ (parseMethodDescriptor yX10_passOne.desc).map (fun d => d.parameters.length) = some 0 := by decide +kernel
theorem tl_X10_46 : Cond.methodLink RX10 46 yX10_draw ∈ TB := tb_of 1315 (by decide +kernel) (by decide +kernel)
theorem ti_X10_draw : Cond.instanceMethod yX10_draw ∈ TB := tb_of 1317 (by decide +kernel) (by decide +kernel)
theorem tc_X10_draw : Cond.code yX10_draw cX10_draw 2 (some .int) ∈ TB := tb_of 1318 (by decide +kernel) (by decide +kernel)
theorem tm_X10_draw : yX10_draw.cls = RX10 ∧ yX10_draw.cls ≠ "java/lang/invoke/MethodHandle" ∧ yX10_draw.cls ≠ "java/lang/invoke/VarHandle" ∧ (parseMethodDescriptor yX10_draw.desc).map (fun d => d.parameters.length) = some 1 := by decide +kernel
theorem tk_X10_107 : Cond.constant RX10 107 (1103515245 : Int32) ∈ TB := tb_of 1319 (by decide +kernel) (by decide +kernel)
theorem tl_X10_108 : Cond.methodLink RX10 108 Lib.Math.max.name ∈ TB := tb_of 1320 (by decide +kernel) (by decide +kernel)
theorem tl_X10_50 : Cond.methodLink RX10 50 yX4_step ∈ TB := tb_of 1321 (by decide +kernel) (by decide +kernel)
theorem tl_X10_64 : Cond.methodLink RX10 64 Lib.Math.min.name ∈ TB := tb_of 1322 (by decide +kernel) (by decide +kernel)
theorem tl_X10_70 : Cond.methodLink RX10 70 yX1_reach ∈ TB := tb_of 1323 (by decide +kernel) (by decide +kernel)
theorem tl_X10_74 : Cond.methodLink RX10 74 yX10_fallAndRecover ∈ TB := tb_of 1324 (by decide +kernel) (by decide +kernel)
theorem ti_X10_fallAndRecover : Cond.instanceMethod yX10_fallAndRecover ∈ TB := tb_of 1326 (by decide +kernel) (by decide +kernel)
theorem tc_X10_fallAndRecover : Cond.code yX10_fallAndRecover cX10_fallAndRecover 2 none ∈ TB := tb_of 1327 (by decide +kernel) (by decide +kernel)
theorem tm_X10_fallAndRecover : yX10_fallAndRecover.cls = RX10 ∧ yX10_fallAndRecover.cls ≠ "java/lang/invoke/MethodHandle" ∧ yX10_fallAndRecover.cls ≠ "java/lang/invoke/VarHandle" ∧ (parseMethodDescriptor yX10_fallAndRecover.desc).map (fun d => d.parameters.length) = some 0 := by decide +kernel
theorem tl_X10_88 : Cond.methodLink RX10 88 yX9_start ∈ TB := tb_of 1328 (by decide +kernel) (by decide +kernel)
theorem tl_X10_92 : Cond.methodLink RX10 92 yX9_raise ∈ TB := tb_of 1329 (by decide +kernel) (by decide +kernel)
theorem tl_X10_96 : Cond.methodLink RX10 96 yX9_fateBy ∈ TB := tb_of 1330 (by decide +kernel) (by decide +kernel)
theorem tl_X10_100 : Cond.methodLink RX10 100 yX4_fall ∈ TB := tb_of 1331 (by decide +kernel) (by decide +kernel)
theorem tl_X10_104 : Cond.methodLink RX10 104 yX4_recoverAtOnce ∈ TB := tb_of 1332 (by decide +kernel) (by decide +kernel)
theorem ti_X4_recoverAtOnce : Cond.instanceMethod yX4_recoverAtOnce ∈ TB := tb_of 1333 (by decide +kernel) (by decide +kernel)
theorem tz_X4_recoverAtOnce : Cond.selects RX4 yX4_recoverAtOnce yX4_recoverAtOnce ∈ TB := tb_of 1334 (by decide +kernel) (by decide +kernel)
theorem tc_X4_recoverAtOnce : Cond.code yX4_recoverAtOnce cX4_recoverAtOnce 1 none ∈ TB := tb_of 1335 (by decide +kernel) (by decide +kernel)
theorem tm_X4_recoverAtOnce : yX4_recoverAtOnce.cls = RX4 ∧ yX4_recoverAtOnce.cls ≠ "java/lang/invoke/MethodHandle" ∧ yX4_recoverAtOnce.cls ≠ "java/lang/invoke/VarHandle" ∧ (parseMethodDescriptor yX4_recoverAtOnce.desc).map (fun d => d.parameters.length) = some 0 := by decide +kernel
theorem tl_X4_167 : Cond.methodLinkNest RX4 167 yX11_recoverWords "FenceHeap" ∈ NST := nst_of 1336 (by decide +kernel) (by decide +kernel)
theorem tl_X10_77 : Cond.methodLinkNest RX10 77 yX11_packOp "FenceHeap" ∈ NST := nst_of 1337 (by decide +kernel) (by decide +kernel)
theorem tl_X10_81 : Cond.methodLink RX10 81 yX4_addWaiting ∈ TB := tb_of 1338 (by decide +kernel) (by decide +kernel)
theorem ti_X12_init : Cond.instanceMethod yX12_init ∈ TB := tb_of 1342 (by decide +kernel) (by decide +kernel)
theorem tc_X12_init : Cond.code yX12_init cX12_init 1 none ∈ TB := tb_of 1343 (by decide +kernel) (by decide +kernel)
theorem tm_X12_init : yX12_init.cls = RX12 ∧ yX12_init.cls ≠ "java/lang/invoke/MethodHandle" ∧ yX12_init.cls ≠ "java/lang/invoke/VarHandle" ∧ (parseMethodDescriptor yX12_init.desc).map (fun d => d.parameters.length) = some 0 := by decide +kernel
theorem tk_X12_9 : Cond.constant RX12 9 (66100 : Int32) ∈ TB := tb_of 1345 (by decide +kernel) (by decide +kernel)
theorem tl_X12_60 : Cond.methodLink RX12 60 yX12_begins ∈ TB := tb_of 1346 (by decide +kernel) (by decide +kernel)
theorem ti_X12_begins : Cond.instanceMethod yX12_begins ∈ TB := tb_of 1348 (by decide +kernel) (by decide +kernel)
theorem tc_X12_begins : Cond.code yX12_begins cX12_begins 2 none ∈ TB := tb_of 1349 (by decide +kernel) (by decide +kernel)
theorem tm_X12_begins : yX12_begins.cls = RX12 ∧ yX12_begins.cls ≠ "java/lang/invoke/MethodHandle" ∧ yX12_begins.cls ≠ "java/lang/invoke/VarHandle" ∧ (parseMethodDescriptor yX12_begins.desc).map (fun d => d.parameters.length) = some 0 := by decide +kernel
theorem tf_X12_10 : Cond.fieldLink RX12 10 (TX12 0).1 (TX12 0).2.1 (TX12 0).2.2.1 ∈ TB := tb_of 1350 (by decide +kernel) (by decide +kernel)
theorem tf_X12_14 : Cond.fieldLink RX12 14 (TX12 1).1 (TX12 1).2.1 (TX12 1).2.2.1 ∈ TB := tb_of 1351 (by decide +kernel) (by decide +kernel)
theorem tf_X12_17 : Cond.fieldLink RX12 17 (TX12 2).1 (TX12 2).2.1 (TX12 2).2.2.1 ∈ TB := tb_of 1352 (by decide +kernel) (by decide +kernel)
theorem tf_X12_20 : Cond.fieldLink RX12 20 (TX12 3).1 (TX12 3).2.1 (TX12 3).2.2.1 ∈ TB := tb_of 1353 (by decide +kernel) (by decide +kernel)
theorem tf_X12_63 : Cond.fieldLink RX12 63 (TX12 4).1 (TX12 4).2.1 (TX12 4).2.2.1 ∈ TB := tb_of 1354 (by decide +kernel) (by decide +kernel)
theorem tf_X12_336 : Cond.fieldLink RX12 336 (TX12 5).1 (TX12 5).2.1 (TX12 5).2.2.1 ∈ TB := tb_of 1355 (by decide +kernel) (by decide +kernel)
theorem tf_X12_333 : Cond.fieldLink RX12 333 (TX12 6).1 (TX12 6).2.1 (TX12 6).2.2.1 ∈ TB := tb_of 1356 (by decide +kernel) (by decide +kernel)
theorem tf_X12_330 : Cond.fieldLink RX12 330 (TX12 7).1 (TX12 7).2.1 (TX12 7).2.2.1 ∈ TB := tb_of 1357 (by decide +kernel) (by decide +kernel)
theorem tf_X12_418 : Cond.fieldLink RX12 418 (TX12 8).1 (TX12 8).2.1 (TX12 8).2.2.1 ∈ TB := tb_of 1358 (by decide +kernel) (by decide +kernel)
theorem tf_X12_421 : Cond.fieldLink RX12 421 (TX12 9).1 (TX12 9).2.1 (TX12 9).2.2.1 ∈ TB := tb_of 1359 (by decide +kernel) (by decide +kernel)
theorem tf_X12_424 : Cond.fieldLink RX12 424 (TX12 10).1 (TX12 10).2.1 (TX12 10).2.2.1 ∈ TB := tb_of 1360 (by decide +kernel) (by decide +kernel)
theorem tf_X12_327 : Cond.fieldLink RX12 327 (TX12 11).1 (TX12 11).2.1 (TX12 11).2.2.1 ∈ TB := tb_of 1361 (by decide +kernel) (by decide +kernel)
theorem tf_X12_147 : Cond.fieldLink RX12 147 (TX12 12).1 (TX12 12).2.1 (TX12 12).2.2.1 ∈ TB := tb_of 1362 (by decide +kernel) (by decide +kernel)
theorem tf_X12_23 : Cond.fieldLink RX12 23 (TX12 13).1 (TX12 13).2.1 (TX12 13).2.2.1 ∈ TB := tb_of 1363 (by decide +kernel) (by decide +kernel)
theorem tf_X12_318 : Cond.fieldLink RX12 318 (TX12 14).1 (TX12 14).2.1 (TX12 14).2.2.1 ∈ TB := tb_of 1364 (by decide +kernel) (by decide +kernel)
theorem tf_X12_26 : Cond.fieldLink RX12 26 (TX12 15).1 (TX12 15).2.1 (TX12 15).2.2.1 ∈ TB := tb_of 1365 (by decide +kernel) (by decide +kernel)
theorem tf_X12_30 : Cond.fieldLink RX12 30 (TX12 16).1 (TX12 16).2.1 (TX12 16).2.2.1 ∈ TB := tb_of 1366 (by decide +kernel) (by decide +kernel)
theorem tf_X12_33 : Cond.fieldLink RX12 33 (TX12 17).1 (TX12 17).2.1 (TX12 17).2.2.1 ∈ TB := tb_of 1367 (by decide +kernel) (by decide +kernel)
theorem tf_X12_36 : Cond.fieldLink RX12 36 (TX12 18).1 (TX12 18).2.1 (TX12 18).2.2.1 ∈ TB := tb_of 1368 (by decide +kernel) (by decide +kernel)
theorem tf_X12_73 : Cond.fieldLink RX12 73 (TX12 19).1 (TX12 19).2.1 (TX12 19).2.2.1 ∈ TB := tb_of 1369 (by decide +kernel) (by decide +kernel)
theorem tf_X12_93 : Cond.fieldLink RX12 93 (TX12 20).1 (TX12 20).2.1 (TX12 20).2.2.1 ∈ TB := tb_of 1370 (by decide +kernel) (by decide +kernel)
theorem tf_X12_90 : Cond.fieldLink RX12 90 (TX12 21).1 (TX12 21).2.1 (TX12 21).2.2.1 ∈ TB := tb_of 1371 (by decide +kernel) (by decide +kernel)
theorem tf_X12_87 : Cond.fieldLink RX12 87 (TX12 22).1 (TX12 22).2.1 (TX12 22).2.2.1 ∈ TB := tb_of 1372 (by decide +kernel) (by decide +kernel)
theorem tf_X12_39 : Cond.fieldLink RX12 39 (TX12 23).1 (TX12 23).2.1 (TX12 23).2.2.1 ∈ TB := tb_of 1373 (by decide +kernel) (by decide +kernel)
theorem tf_X12_42 : Cond.fieldLink RX12 42 (TX12 24).1 (TX12 24).2.1 (TX12 24).2.2.1 ∈ TB := tb_of 1374 (by decide +kernel) (by decide +kernel)
theorem tf_X12_45 : Cond.fieldLink RX12 45 (TX12 25).1 (TX12 25).2.1 (TX12 25).2.2.1 ∈ TB := tb_of 1375 (by decide +kernel) (by decide +kernel)
theorem tf_X12_48 : Cond.fieldLink RX12 48 (TX12 26).1 (TX12 26).2.1 (TX12 26).2.2.1 ∈ TB := tb_of 1376 (by decide +kernel) (by decide +kernel)
theorem tf_X12_181 : Cond.fieldLink RX12 181 (TX12 27).1 (TX12 27).2.1 (TX12 27).2.2.1 ∈ TB := tb_of 1377 (by decide +kernel) (by decide +kernel)
theorem tf_X12_206 : Cond.fieldLink RX12 206 (TX12 28).1 (TX12 28).2.1 (TX12 28).2.2.1 ∈ TB := tb_of 1378 (by decide +kernel) (by decide +kernel)
theorem tf_X12_209 : Cond.fieldLink RX12 209 (TX12 29).1 (TX12 29).2.1 (TX12 29).2.2.1 ∈ TB := tb_of 1379 (by decide +kernel) (by decide +kernel)
theorem tf_X12_212 : Cond.fieldLink RX12 212 (TX12 30).1 (TX12 30).2.1 (TX12 30).2.2.1 ∈ TB := tb_of 1380 (by decide +kernel) (by decide +kernel)
theorem tf_X12_194 : Cond.fieldLink RX12 194 (TX12 31).1 (TX12 31).2.1 (TX12 31).2.2.1 ∈ TB := tb_of 1381 (by decide +kernel) (by decide +kernel)
theorem tf_X12_246 : Cond.fieldLink RX12 246 (TX12 32).1 (TX12 32).2.1 (TX12 32).2.2.1 ∈ TB := tb_of 1382 (by decide +kernel) (by decide +kernel)
theorem tf_X12_249 : Cond.fieldLink RX12 249 (TX12 33).1 (TX12 33).2.1 (TX12 33).2.2.1 ∈ TB := tb_of 1383 (by decide +kernel) (by decide +kernel)
theorem tf_X12_236 : Cond.fieldLink RX12 236 (TX12 34).1 (TX12 34).2.1 (TX12 34).2.2.1 ∈ TB := tb_of 1384 (by decide +kernel) (by decide +kernel)
theorem tf_X12_258 : Cond.fieldLink RX12 258 (TX12 35).1 (TX12 35).2.1 (TX12 35).2.2.1 ∈ TB := tb_of 1385 (by decide +kernel) (by decide +kernel)
theorem tf_X12_255 : Cond.fieldLink RX12 255 (TX12 36).1 (TX12 36).2.1 (TX12 36).2.2.1 ∈ TB := tb_of 1386 (by decide +kernel) (by decide +kernel)
theorem tf_X12_252 : Cond.fieldLink RX12 252 (TX12 37).1 (TX12 37).2.1 (TX12 37).2.2.1 ∈ TB := tb_of 1387 (by decide +kernel) (by decide +kernel)
theorem tf_X12_267 : Cond.fieldLink RX12 267 (TX12 38).1 (TX12 38).2.1 (TX12 38).2.2.1 ∈ TB := tb_of 1388 (by decide +kernel) (by decide +kernel)
theorem tf_X12_51 : Cond.fieldLink RX12 51 (TX12 39).1 (TX12 39).2.1 (TX12 39).2.2.1 ∈ TB := tb_of 1389 (by decide +kernel) (by decide +kernel)
theorem tf_X12_54 : Cond.fieldLink RX12 54 (TX12 40).1 (TX12 40).2.1 (TX12 40).2.2.1 ∈ TB := tb_of 1390 (by decide +kernel) (by decide +kernel)
theorem tf_X12_283 : Cond.fieldLink RX12 283 (TX12 41).1 (TX12 41).2.1 (TX12 41).2.2.1 ∈ TB := tb_of 1391 (by decide +kernel) (by decide +kernel)
theorem tf_X12_292 : Cond.fieldLink RX12 292 (TX12 42).1 (TX12 42).2.1 (TX12 42).2.2.1 ∈ TB := tb_of 1392 (by decide +kernel) (by decide +kernel)
theorem tf_X12_304 : Cond.fieldLink RX12 304 (TX12 43).1 (TX12 43).2.1 (TX12 43).2.2.1 ∈ TB := tb_of 1393 (by decide +kernel) (by decide +kernel)
theorem tf_X12_301 : Cond.fieldLink RX12 301 (TX12 44).1 (TX12 44).2.1 (TX12 44).2.2.1 ∈ TB := tb_of 1394 (by decide +kernel) (by decide +kernel)
theorem tf_X12_277 : Cond.fieldLink RX12 277 (TX12 45).1 (TX12 45).2.1 (TX12 45).2.2.1 ∈ TB := tb_of 1395 (by decide +kernel) (by decide +kernel)
theorem tf_X12_286 : Cond.fieldLink RX12 286 (TX12 46).1 (TX12 46).2.1 (TX12 46).2.2.1 ∈ TB := tb_of 1396 (by decide +kernel) (by decide +kernel)
theorem tf_X12_57 : Cond.fieldLink RX12 57 (TX12 47).1 (TX12 47).2.1 (TX12 47).2.2.1 ∈ TB := tb_of 1397 (by decide +kernel) (by decide +kernel)
theorem tf_X12_385 : Cond.fieldLink RX12 385 (TX12 48).1 (TX12 48).2.1 (TX12 48).2.2.1 ∈ TB := tb_of 1398 (by decide +kernel) (by decide +kernel)
theorem tf_X12_400 : Cond.fieldLink RX12 400 (TX12 49).1 (TX12 49).2.1 (TX12 49).2.2.1 ∈ TB := tb_of 1399 (by decide +kernel) (by decide +kernel)
theorem tf_X12_407 : Cond.fieldLink RX12 407 (TX12 50).1 (TX12 50).2.1 (TX12 50).2.2.1 ∈ TB := tb_of 1400 (by decide +kernel) (by decide +kernel)
theorem ti_X12_thrown : Cond.instanceMethod yX12_thrown ∈ TB := tb_of 1505 (by decide +kernel) (by decide +kernel)
theorem tz_X12_thrown : Cond.selects RX12 yX12_thrown yX12_thrown ∈ TB := tb_of 1506 (by decide +kernel) (by decide +kernel)
theorem tc_X12_thrown : Cond.code yX12_thrown cX12_thrown 1 (some .int) ∈ TB := tb_of 1507 (by decide +kernel) (by decide +kernel)
theorem tm_X12_thrown : yX12_thrown.cls = RX12 ∧ yX12_thrown.cls ≠ "java/lang/invoke/MethodHandle" ∧ yX12_thrown.cls ≠ "java/lang/invoke/VarHandle" ∧ (parseMethodDescriptor yX12_thrown.desc).map (fun d => d.parameters.length) = some 0 := by decide +kernel
theorem ti_X12_feed : Cond.instanceMethod yX12_feed ∈ TB := tb_of 1509 (by decide +kernel) (by decide +kernel)
theorem tz_X12_feed : Cond.selects RX12 yX12_feed yX12_feed ∈ TB := tb_of 1510 (by decide +kernel) (by decide +kernel)
theorem tc_X12_feed : Cond.code yX12_feed cX12_feed 8 (some .int) ∈ TB := tb_of 1511 (by decide +kernel) (by decide +kernel)
theorem tm_X12_feed : yX12_feed.cls = RX12 ∧ yX12_feed.cls ≠ "java/lang/invoke/MethodHandle" ∧ yX12_feed.cls ≠ "java/lang/invoke/VarHandle" ∧ (parseMethodDescriptor yX12_feed.desc).map (fun d => d.parameters.length) = some 5 := by decide +kernel
theorem ti_X12_heap : Cond.instanceMethod yX12_heap ∈ TB := tb_of 1513 (by decide +kernel) (by decide +kernel)
theorem tz_X12_heap : Cond.selects RX12 yX12_heap yX12_heap ∈ TB := tb_of 1514 (by decide +kernel) (by decide +kernel)
theorem tc_X12_heap : Cond.code yX12_heap cX12_heap 3 (some .int) ∈ TB := tb_of 1515 (by decide +kernel) (by decide +kernel)
theorem tm_X12_heap : yX12_heap.cls = RX12 ∧ yX12_heap.cls ≠ "java/lang/invoke/MethodHandle" ∧ yX12_heap.cls ≠ "java/lang/invoke/VarHandle" ∧ (parseMethodDescriptor yX12_heap.desc).map (fun d => d.parameters.length) = some 1 := by decide +kernel
theorem tl_X12_321 : Cond.methodLink RX12 321 yX12_right ∈ TB := tb_of 1516 (by decide +kernel) (by decide +kernel)
theorem ti_X12_right : Cond.instanceMethod yX12_right ∈ TB := tb_of 1518 (by decide +kernel) (by decide +kernel)
theorem tc_X12_right : Cond.code yX12_right cX12_right 3 (some .boolean) ∈ TB := tb_of 1519 (by decide +kernel) (by decide +kernel)
theorem tm_X12_right : yX12_right.cls = RX12 ∧ yX12_right.cls ≠ "java/lang/invoke/MethodHandle" ∧ yX12_right.cls ≠ "java/lang/invoke/VarHandle" ∧ (parseMethodDescriptor yX12_right.desc).map (fun d => d.parameters.length) = some 2 := by decide +kernel
theorem tl_X12_274 : Cond.methodLink RX12 274 yX12_go ∈ TB := tb_of 1520 (by decide +kernel) (by decide +kernel)
theorem ti_X12_go : Cond.instanceMethod yX12_go ∈ TB := tb_of 1522 (by decide +kernel) (by decide +kernel)
theorem tc_X12_go : Cond.code yX12_go cX12_go 2 none ∈ TB := tb_of 1523 (by decide +kernel) (by decide +kernel)
theorem tm_X12_go : yX12_go.cls = RX12 ∧ yX12_go.cls ≠ "java/lang/invoke/MethodHandle" ∧ yX12_go.cls ≠ "java/lang/invoke/VarHandle" ∧ (parseMethodDescriptor yX12_go.desc).map (fun d => d.parameters.length) = some 0 := by decide +kernel
theorem tl_X12_243 : Cond.methodLink RX12 243 yX12_byteAt ∈ TB := tb_of 1524 (by decide +kernel) (by decide +kernel)
theorem ti_X12_byteAt : Cond.instanceMethod yX12_byteAt ∈ TB := tb_of 1526 (by decide +kernel) (by decide +kernel)
theorem tc_X12_byteAt : Cond.code yX12_byteAt cX12_byteAt 2 (some .int) ∈ TB := tb_of 1527 (by decide +kernel) (by decide +kernel)
theorem tm_X12_byteAt : yX12_byteAt.cls = RX12 ∧ yX12_byteAt.cls ≠ "java/lang/invoke/MethodHandle" ∧ yX12_byteAt.cls ≠ "java/lang/invoke/VarHandle" ∧ (parseMethodDescriptor yX12_byteAt.desc).map (fun d => d.parameters.length) = some 1 := by decide +kernel
theorem tl_X12_261 : Cond.methodLink RX12 261 yX12_isLetter ∈ TB := tb_of 1528 (by decide +kernel) (by decide +kernel)
theorem ts_X12_isLetter : Cond.static yX12_isLetter ∈ TB := tb_of 1529 (by decide +kernel) (by decide +kernel)
theorem tc_X12_isLetter : Cond.code yX12_isLetter cX12_isLetter 1 (some .boolean) ∈ TB := tb_of 1530 (by decide +kernel) (by decide +kernel)
theorem tm_X12_isLetter : yX12_isLetter.cls = RX12 ∧ yX12_isLetter.cls ≠ "java/lang/invoke/MethodHandle" ∧ yX12_isLetter.cls ≠ "java/lang/invoke/VarHandle" ∧ (parseMethodDescriptor yX12_isLetter.desc).map (fun d => d.parameters.length) = some 1 := by decide +kernel
theorem tl_X12_264 : Cond.methodLink RX12 264 yX12_wordFrom ∈ TB := tb_of 1531 (by decide +kernel) (by decide +kernel)
theorem ti_X12_wordFrom : Cond.instanceMethod yX12_wordFrom ∈ TB := tb_of 1533 (by decide +kernel) (by decide +kernel)
theorem tc_X12_wordFrom : Cond.code yX12_wordFrom cX12_wordFrom 7 (some .int) ∈ TB := tb_of 1534 (by decide +kernel) (by decide +kernel)
theorem tm_X12_wordFrom : yX12_wordFrom.cls = RX12 ∧ yX12_wordFrom.cls ≠ "java/lang/invoke/MethodHandle" ∧ yX12_wordFrom.cls ≠ "java/lang/invoke/VarHandle" ∧ (parseMethodDescriptor yX12_wordFrom.desc).map (fun d => d.parameters.length) = some 2 := by decide +kernel
theorem tf_X12_239 : Cond.fieldLink RX12 239 "FenceHeapModel" "KNOWN" "[B" ∈ TB := tb_of 1535 (by decide +kernel) (by decide +kernel)
theorem tl_X12_324 : Cond.methodLink RX12 324 yX12_clause1 ∈ TB := tb_of 1537 (by decide +kernel) (by decide +kernel)
theorem ti_X12_clause1 : Cond.instanceMethod yX12_clause1 ∈ TB := tb_of 1539 (by decide +kernel) (by decide +kernel)
theorem tc_X12_clause1 : Cond.code yX12_clause1 cX12_clause1 1 none ∈ TB := tb_of 1540 (by decide +kernel) (by decide +kernel)
theorem tm_X12_clause1 : yX12_clause1.cls = RX12 ∧ yX12_clause1.cls ≠ "java/lang/invoke/MethodHandle" ∧ yX12_clause1.cls ≠ "java/lang/invoke/VarHandle" ∧ (parseMethodDescriptor yX12_clause1.desc).map (fun d => d.parameters.length) = some 0 := by decide +kernel
theorem tl_X12_270 : Cond.methodLink RX12 270 yX12_wants ∈ TB := tb_of 1541 (by decide +kernel) (by decide +kernel)
theorem ti_X12_wants : Cond.instanceMethod yX12_wants ∈ TB := tb_of 1543 (by decide +kernel) (by decide +kernel)
theorem tc_X12_wants : Cond.code yX12_wants cX12_wants 3 (some .boolean) ∈ TB := tb_of 1544 (by decide +kernel) (by decide +kernel)
theorem tm_X12_wants : yX12_wants.cls = RX12 ∧ yX12_wants.cls ≠ "java/lang/invoke/MethodHandle" ∧ yX12_wants.cls ≠ "java/lang/invoke/VarHandle" ∧ (parseMethodDescriptor yX12_wants.desc).map (fun d => d.parameters.length) = some 2 := by decide +kernel
theorem tl_X12_307 : Cond.methodLink RX12 307 yX12_without1 ∈ TB := tb_of 1545 (by decide +kernel) (by decide +kernel)
theorem ti_X12_without1 : Cond.instanceMethod yX12_without1 ∈ TB := tb_of 1547 (by decide +kernel) (by decide +kernel)
theorem tc_X12_without1 : Cond.code yX12_without1 cX12_without1 2 none ∈ TB := tb_of 1548 (by decide +kernel) (by decide +kernel)
theorem tm_X12_without1 : yX12_without1.cls = RX12 ∧ yX12_without1.cls ≠ "java/lang/invoke/MethodHandle" ∧ yX12_without1.cls ≠ "java/lang/invoke/VarHandle" ∧ (parseMethodDescriptor yX12_without1.desc).map (fun d => d.parameters.length) = some 0 := by decide +kernel
theorem tl_X12_310 : Cond.methodLink RX12 310 yX12_chain1 ∈ TB := tb_of 1549 (by decide +kernel) (by decide +kernel)
theorem ti_X12_chain1 : Cond.instanceMethod yX12_chain1 ∈ TB := tb_of 1551 (by decide +kernel) (by decide +kernel)
theorem tc_X12_chain1 : Cond.code yX12_chain1 cX12_chain1 4 none ∈ TB := tb_of 1552 (by decide +kernel) (by decide +kernel)
theorem tm_X12_chain1 : yX12_chain1.cls = RX12 ∧ yX12_chain1.cls ≠ "java/lang/invoke/MethodHandle" ∧ yX12_chain1.cls ≠ "java/lang/invoke/VarHandle" ∧ (parseMethodDescriptor yX12_chain1.desc).map (fun d => d.parameters.length) = some 0 := by decide +kernel
theorem tl_X12_172 : Cond.methodLink RX12 172 yX12_within ∈ TB := tb_of 1553 (by decide +kernel) (by decide +kernel)
theorem ts_X12_within : Cond.static yX12_within ∈ TB := tb_of 1554 (by decide +kernel) (by decide +kernel)
theorem tc_X12_within : Cond.code yX12_within cX12_within 3 (some .boolean) ∈ TB := tb_of 1555 (by decide +kernel) (by decide +kernel)
theorem tm_X12_within : yX12_within.cls = RX12 ∧ yX12_within.cls ≠ "java/lang/invoke/MethodHandle" ∧ yX12_within.cls ≠ "java/lang/invoke/VarHandle" ∧ (parseMethodDescriptor yX12_within.desc).map (fun d => d.parameters.length) = some 3 := by decide +kernel
theorem tl_X12_280 : Cond.methodLink RX12 280 yX12_usedHere ∈ TB := tb_of 1556 (by decide +kernel) (by decide +kernel)
theorem ti_X12_usedHere : Cond.instanceMethod yX12_usedHere ∈ TB := tb_of 1558 (by decide +kernel) (by decide +kernel)
theorem tc_X12_usedHere : Cond.code yX12_usedHere cX12_usedHere 2 (some .int) ∈ TB := tb_of 1559 (by decide +kernel) (by decide +kernel)
theorem tm_X12_usedHere : yX12_usedHere.cls = RX12 ∧ yX12_usedHere.cls ≠ "java/lang/invoke/MethodHandle" ∧ yX12_usedHere.cls ≠ "java/lang/invoke/VarHandle" ∧ (parseMethodDescriptor yX12_usedHere.desc).map (fun d => d.parameters.length) = some 0 := by decide +kernel
theorem tl_X12_83 : Cond.methodLink RX12 83 yX12_isUsed ∈ TB := tb_of 1560 (by decide +kernel) (by decide +kernel)
theorem ts_X12_isUsed : Cond.static yX12_isUsed ∈ TB := tb_of 1561 (by decide +kernel) (by decide +kernel)
theorem tc_X12_isUsed : Cond.code yX12_isUsed cX12_isUsed 2 (some .boolean) ∈ TB := tb_of 1562 (by decide +kernel) (by decide +kernel)
theorem tm_X12_isUsed : yX12_isUsed.cls = RX12 ∧ yX12_isUsed.cls ≠ "java/lang/invoke/MethodHandle" ∧ yX12_isUsed.cls ≠ "java/lang/invoke/VarHandle" ∧ (parseMethodDescriptor yX12_isUsed.desc).map (fun d => d.parameters.length) = some 2 := by decide +kernel
theorem tl_X12_76 : Cond.methodLink RX12 76 yX12_block ∈ TB := tb_of 1563 (by decide +kernel) (by decide +kernel)
theorem ts_X12_block : Cond.static yX12_block ∈ TB := tb_of 1564 (by decide +kernel) (by decide +kernel)
theorem tc_X12_block : Cond.code yX12_block cX12_block 1 (some .int) ∈ TB := tb_of 1565 (by decide +kernel) (by decide +kernel)
theorem tm_X12_block : yX12_block.cls = RX12 ∧ yX12_block.cls ≠ "java/lang/invoke/MethodHandle" ∧ yX12_block.cls ≠ "java/lang/invoke/VarHandle" ∧ (parseMethodDescriptor yX12_block.desc).map (fun d => d.parameters.length) = some 1 := by decide +kernel
theorem tl_X12_313 : Cond.methodLink RX12 313 yX12_data1 ∈ TB := tb_of 1566 (by decide +kernel) (by decide +kernel)
theorem ti_X12_data1 : Cond.instanceMethod yX12_data1 ∈ TB := tb_of 1568 (by decide +kernel) (by decide +kernel)
theorem tc_X12_data1 : Cond.code yX12_data1 cX12_data1 2 none ∈ TB := tb_of 1569 (by decide +kernel) (by decide +kernel)
theorem tm_X12_data1 : yX12_data1.cls = RX12 ∧ yX12_data1.cls ≠ "java/lang/invoke/MethodHandle" ∧ yX12_data1.cls ≠ "java/lang/invoke/VarHandle" ∧ (parseMethodDescriptor yX12_data1.desc).map (fun d => d.parameters.length) = some 0 := by decide +kernel
theorem tl_X12_289 : Cond.methodLink RX12 289 yX12_numberHere ∈ TB := tb_of 1570 (by decide +kernel) (by decide +kernel)
theorem ti_X12_numberHere : Cond.instanceMethod yX12_numberHere ∈ TB := tb_of 1572 (by decide +kernel) (by decide +kernel)
theorem tc_X12_numberHere : Cond.code yX12_numberHere cX12_numberHere 4 (some .int) ∈ TB := tb_of 1573 (by decide +kernel) (by decide +kernel)
theorem tm_X12_numberHere : yX12_numberHere.cls = RX12 ∧ yX12_numberHere.cls ≠ "java/lang/invoke/MethodHandle" ∧ yX12_numberHere.cls ≠ "java/lang/invoke/VarHandle" ∧ (parseMethodDescriptor yX12_numberHere.desc).map (fun d => d.parameters.length) = some 2 := by decide +kernel
theorem tl_X12_315 : Cond.methodLink RX12 315 yX12_do1 ∈ TB := tb_of 1574 (by decide +kernel) (by decide +kernel)
theorem ti_X12_do1 : Cond.instanceMethod yX12_do1 ∈ TB := tb_of 1576 (by decide +kernel) (by decide +kernel)
theorem tc_X12_do1 : Cond.code yX12_do1 cX12_do1 3 none ∈ TB := tb_of 1577 (by decide +kernel) (by decide +kernel)
theorem tm_X12_do1 : yX12_do1.cls = RX12 ∧ yX12_do1.cls ≠ "java/lang/invoke/MethodHandle" ∧ yX12_do1.cls ≠ "java/lang/invoke/VarHandle" ∧ (parseMethodDescriptor yX12_do1.desc).map (fun d => d.parameters.length) = some 0 := by decide +kernel
theorem tl_X12_295 : Cond.methodLink RX12 295 yX12_op1 ∈ TB := tb_of 1578 (by decide +kernel) (by decide +kernel)
theorem ti_X12_op1 : Cond.instanceMethod yX12_op1 ∈ TB := tb_of 1580 (by decide +kernel) (by decide +kernel)
theorem tc_X12_op1 : Cond.code yX12_op1 cX12_op1 5 none ∈ TB := tb_of 1581 (by decide +kernel) (by decide +kernel)
theorem tm_X12_op1 : yX12_op1.cls = RX12 ∧ yX12_op1.cls ≠ "java/lang/invoke/MethodHandle" ∧ yX12_op1.cls ≠ "java/lang/invoke/VarHandle" ∧ (parseMethodDescriptor yX12_op1.desc).map (fun d => d.parameters.length) = some 1 := by decide +kernel
theorem tl_X12_298 : Cond.methodLink RX12 298 yX12_isSign ∈ TB := tb_of 1582 (by decide +kernel) (by decide +kernel)
theorem ti_X12_isSign : Cond.instanceMethod yX12_isSign ∈ TB := tb_of 1584 (by decide +kernel) (by decide +kernel)
theorem tc_X12_isSign : Cond.code yX12_isSign cX12_isSign 2 (some .boolean) ∈ TB := tb_of 1585 (by decide +kernel) (by decide +kernel)
theorem tm_X12_isSign : yX12_isSign.cls = RX12 ∧ yX12_isSign.cls ≠ "java/lang/invoke/MethodHandle" ∧ yX12_isSign.cls ≠ "java/lang/invoke/VarHandle" ∧ (parseMethodDescriptor yX12_isSign.desc).map (fun d => d.parameters.length) = some 1 := by decide +kernel
theorem ti_X12_fault : Cond.instanceMethod yX12_fault ∈ TB := tb_of 1587 (by decide +kernel) (by decide +kernel)
theorem tz_X12_fault : Cond.selects RX12 yX12_fault yX12_fault ∈ TB := tb_of 1588 (by decide +kernel) (by decide +kernel)
theorem tc_X12_fault : Cond.code yX12_fault cX12_fault 1 (some .int) ∈ TB := tb_of 1589 (by decide +kernel) (by decide +kernel)
theorem tm_X12_fault : yX12_fault.cls = RX12 ∧ yX12_fault.cls ≠ "java/lang/invoke/MethodHandle" ∧ yX12_fault.cls ≠ "java/lang/invoke/VarHandle" ∧ (parseMethodDescriptor yX12_fault.desc).map (fun d => d.parameters.length) = some 0 := by decide +kernel
theorem ti_X12_count : Cond.instanceMethod yX12_count ∈ TB := tb_of 1591 (by decide +kernel) (by decide +kernel)
theorem tz_X12_count : Cond.selects RX12 yX12_count yX12_count ∈ TB := tb_of 1592 (by decide +kernel) (by decide +kernel)
theorem tc_X12_count : Cond.code yX12_count cX12_count 2 (some .int) ∈ TB := tb_of 1593 (by decide +kernel) (by decide +kernel)
theorem tm_X12_count : yX12_count.cls = RX12 ∧ yX12_count.cls ≠ "java/lang/invoke/MethodHandle" ∧ yX12_count.cls ≠ "java/lang/invoke/VarHandle" ∧ (parseMethodDescriptor yX12_count.desc).map (fun d => d.parameters.length) = some 1 := by decide +kernel
theorem tl_X12_339 : Cond.methodLink RX12 339 yX12_pending ∈ TB := tb_of 1594 (by decide +kernel) (by decide +kernel)
theorem ti_X12_pending : Cond.instanceMethod yX12_pending ∈ TB := tb_of 1596 (by decide +kernel) (by decide +kernel)
theorem tc_X12_pending : Cond.code yX12_pending cX12_pending 3 (some .int) ∈ TB := tb_of 1597 (by decide +kernel) (by decide +kernel)
theorem tm_X12_pending : yX12_pending.cls = RX12 ∧ yX12_pending.cls ≠ "java/lang/invoke/MethodHandle" ∧ yX12_pending.cls ≠ "java/lang/invoke/VarHandle" ∧ (parseMethodDescriptor yX12_pending.desc).map (fun d => d.parameters.length) = some 0 := by decide +kernel
theorem ti_X12_word : Cond.instanceMethod yX12_word ∈ TB := tb_of 1599 (by decide +kernel) (by decide +kernel)
theorem tz_X12_word : Cond.selects RX12 yX12_word yX12_word ∈ TB := tb_of 1600 (by decide +kernel) (by decide +kernel)
theorem tc_X12_word : Cond.code yX12_word cX12_word 3 (some .int) ∈ TB := tb_of 1601 (by decide +kernel) (by decide +kernel)
theorem tm_X12_word : yX12_word.cls = RX12 ∧ yX12_word.cls ≠ "java/lang/invoke/MethodHandle" ∧ yX12_word.cls ≠ "java/lang/invoke/VarHandle" ∧ (parseMethodDescriptor yX12_word.desc).map (fun d => d.parameters.length) = some 2 := by decide +kernel
theorem tl_X12_342 : Cond.methodLink RX12 342 yX12_isWord ∈ TB := tb_of 1602 (by decide +kernel) (by decide +kernel)
theorem ti_X12_isWord : Cond.instanceMethod yX12_isWord ∈ TB := tb_of 1604 (by decide +kernel) (by decide +kernel)
theorem tc_X12_isWord : Cond.code yX12_isWord cX12_isWord 2 (some .boolean) ∈ TB := tb_of 1605 (by decide +kernel) (by decide +kernel)
theorem tm_X12_isWord : yX12_isWord.cls = RX12 ∧ yX12_isWord.cls ≠ "java/lang/invoke/MethodHandle" ∧ yX12_isWord.cls ≠ "java/lang/invoke/VarHandle" ∧ (parseMethodDescriptor yX12_isWord.desc).map (fun d => d.parameters.length) = some 1 := by decide +kernel
theorem tl_X12_118 : Cond.methodLink RX12 118 yX12_wordOf ∈ TB := tb_of 1606 (by decide +kernel) (by decide +kernel)
theorem ti_X12_wordOf : Cond.instanceMethod yX12_wordOf ∈ TB := tb_of 1608 (by decide +kernel) (by decide +kernel)
theorem tc_X12_wordOf : Cond.code yX12_wordOf cX12_wordOf 6 (some .int) ∈ TB := tb_of 1609 (by decide +kernel) (by decide +kernel)
theorem tm_X12_wordOf : yX12_wordOf.cls = RX12 ∧ yX12_wordOf.cls ≠ "java/lang/invoke/MethodHandle" ∧ yX12_wordOf.cls ≠ "java/lang/invoke/VarHandle" ∧ (parseMethodDescriptor yX12_wordOf.desc).map (fun d => d.parameters.length) = some 2 := by decide +kernel
theorem ti_X12_line : Cond.instanceMethod yX12_line ∈ TB := tb_of 1611 (by decide +kernel) (by decide +kernel)
theorem tz_X12_line : Cond.selects RX12 yX12_line yX12_line ∈ TB := tb_of 1612 (by decide +kernel) (by decide +kernel)
theorem tc_X12_line : Cond.code yX12_line cX12_line 3 (some .int) ∈ TB := tb_of 1613 (by decide +kernel) (by decide +kernel)
theorem tm_X12_line : yX12_line.cls = RX12 ∧ yX12_line.cls ≠ "java/lang/invoke/MethodHandle" ∧ yX12_line.cls ≠ "java/lang/invoke/VarHandle" ∧ (parseMethodDescriptor yX12_line.desc).map (fun d => d.parameters.length) = some 2 := by decide +kernel
theorem ti_X12_micro : Cond.instanceMethod yX12_micro ∈ TB := tb_of 1615 (by decide +kernel) (by decide +kernel)
theorem tz_X12_micro : Cond.selects RX12 yX12_micro yX12_micro ∈ TB := tb_of 1616 (by decide +kernel) (by decide +kernel)
theorem tc_X12_micro : Cond.code yX12_micro cX12_micro 3 (some .int) ∈ TB := tb_of 1617 (by decide +kernel) (by decide +kernel)
theorem tm_X12_micro : yX12_micro.cls = RX12 ∧ yX12_micro.cls ≠ "java/lang/invoke/MethodHandle" ∧ yX12_micro.cls ≠ "java/lang/invoke/VarHandle" ∧ (parseMethodDescriptor yX12_micro.desc).map (fun d => d.parameters.length) = some 2 := by decide +kernel
theorem ti_X12_orders : Cond.instanceMethod yX12_orders ∈ TB := tb_of 1619 (by decide +kernel) (by decide +kernel)
theorem tz_X12_orders : Cond.selects RX12 yX12_orders yX12_orders ∈ TB := tb_of 1620 (by decide +kernel) (by decide +kernel)
theorem tc_X12_orders : Cond.code yX12_orders cX12_orders 1 (some .long) ∈ TB := tb_of 1621 (by decide +kernel) (by decide +kernel)
theorem tm_X12_orders : yX12_orders.cls = RX12 ∧ yX12_orders.cls ≠ "java/lang/invoke/MethodHandle" ∧ yX12_orders.cls ≠ "java/lang/invoke/VarHandle" ∧ (parseMethodDescriptor yX12_orders.desc).map (fun d => d.parameters.length) = some 0 := by decide +kernel
theorem tl_X12_188 : Cond.methodLink RX12 188 yX12_ordersOf ∈ TB := tb_of 1622 (by decide +kernel) (by decide +kernel)
theorem ti_X12_ordersOf : Cond.instanceMethod yX12_ordersOf ∈ TB := tb_of 1624 (by decide +kernel) (by decide +kernel)
theorem tc_X12_ordersOf : Cond.code yX12_ordersOf cX12_ordersOf 5 (some .long) ∈ TB := tb_of 1625 (by decide +kernel) (by decide +kernel)
theorem tm_X12_ordersOf : yX12_ordersOf.cls = RX12 ∧ yX12_ordersOf.cls ≠ "java/lang/invoke/MethodHandle" ∧ yX12_ordersOf.cls ≠ "java/lang/invoke/VarHandle" ∧ (parseMethodDescriptor yX12_ordersOf.desc).map (fun d => d.parameters.length) = some 1 := by decide +kernel
theorem ti_X12_shape : Cond.instanceMethod yX12_shape ∈ TB := tb_of 1627 (by decide +kernel) (by decide +kernel)
theorem tz_X12_shape : Cond.selects RX12 yX12_shape yX12_shape ∈ TB := tb_of 1628 (by decide +kernel) (by decide +kernel)
theorem tc_X12_shape : Cond.code yX12_shape cX12_shape 4 (some .int) ∈ TB := tb_of 1629 (by decide +kernel) (by decide +kernel)
theorem tm_X12_shape : yX12_shape.cls = RX12 ∧ yX12_shape.cls ≠ "java/lang/invoke/MethodHandle" ∧ yX12_shape.cls ≠ "java/lang/invoke/VarHandle" ∧ (parseMethodDescriptor yX12_shape.desc).map (fun d => d.parameters.length) = some 2 := by decide +kernel
theorem tl_X12_175 : Cond.methodLink RX12 175 yX12_laysMemory ∈ TB := tb_of 1630 (by decide +kernel) (by decide +kernel)
theorem ti_X12_laysMemory : Cond.instanceMethod yX12_laysMemory ∈ TB := tb_of 1632 (by decide +kernel) (by decide +kernel)
theorem tc_X12_laysMemory : Cond.code yX12_laysMemory cX12_laysMemory 3 none ∈ TB := tb_of 1633 (by decide +kernel) (by decide +kernel)
theorem tm_X12_laysMemory : yX12_laysMemory.cls = RX12 ∧ yX12_laysMemory.cls ≠ "java/lang/invoke/MethodHandle" ∧ yX12_laysMemory.cls ≠ "java/lang/invoke/VarHandle" ∧ (parseMethodDescriptor yX12_laysMemory.desc).map (fun d => d.parameters.length) = some 1 := by decide +kernel
theorem tl_X12_178 : Cond.methodLink RX12 178 yX12_recovers ∈ TB := tb_of 1634 (by decide +kernel) (by decide +kernel)
theorem ti_X12_recovers : Cond.instanceMethod yX12_recovers ∈ TB := tb_of 1636 (by decide +kernel) (by decide +kernel)
theorem tc_X12_recovers : Cond.code yX12_recovers cX12_recovers 5 none ∈ TB := tb_of 1637 (by decide +kernel) (by decide +kernel)
theorem tm_X12_recovers : yX12_recovers.cls = RX12 ∧ yX12_recovers.cls ≠ "java/lang/invoke/MethodHandle" ∧ yX12_recovers.cls ≠ "java/lang/invoke/VarHandle" ∧ (parseMethodDescriptor yX12_recovers.desc).map (fun d => d.parameters.length) = some 1 := by decide +kernel
theorem tl_X12_166 : Cond.methodLink RX12 166 yX12_counted ∈ TB := tb_of 1638 (by decide +kernel) (by decide +kernel)
theorem ts_X12_counted : Cond.static yX12_counted ∈ TB := tb_of 1639 (by decide +kernel) (by decide +kernel)
theorem tc_X12_counted : Cond.code yX12_counted cX12_counted 1 (some .int) ∈ TB := tb_of 1640 (by decide +kernel) (by decide +kernel)
theorem tm_X12_counted : yX12_counted.cls = RX12 ∧ yX12_counted.cls ≠ "java/lang/invoke/MethodHandle" ∧ yX12_counted.cls ≠ "java/lang/invoke/VarHandle" ∧ (parseMethodDescriptor yX12_counted.desc).map (fun d => d.parameters.length) = some 1 := by decide +kernel
theorem tl_X12_169 : Cond.methodLink RX12 169 yX12_entryAt ∈ TB := tb_of 1641 (by decide +kernel) (by decide +kernel)
theorem ti_X12_entryAt : Cond.instanceMethod yX12_entryAt ∈ TB := tb_of 1643 (by decide +kernel) (by decide +kernel)
theorem tc_X12_entryAt : Cond.code yX12_entryAt cX12_entryAt 3 (some .int) ∈ TB := tb_of 1644 (by decide +kernel) (by decide +kernel)
theorem tm_X12_entryAt : yX12_entryAt.cls = RX12 ∧ yX12_entryAt.cls ≠ "java/lang/invoke/MethodHandle" ∧ yX12_entryAt.cls ≠ "java/lang/invoke/VarHandle" ∧ (parseMethodDescriptor yX12_entryAt.desc).map (fun d => d.parameters.length) = some 2 := by decide +kernel
theorem tl_X12_100 : Cond.methodLink RX12 100 yX12_shapes ∈ TB := tb_of 1645 (by decide +kernel) (by decide +kernel)
theorem ti_X12_shapes : Cond.instanceMethod yX12_shapes ∈ TB := tb_of 1647 (by decide +kernel) (by decide +kernel)
theorem tc_X12_shapes : Cond.code yX12_shapes cX12_shapes 7 none ∈ TB := tb_of 1648 (by decide +kernel) (by decide +kernel)
theorem tm_X12_shapes : yX12_shapes.cls = RX12 ∧ yX12_shapes.cls ≠ "java/lang/invoke/MethodHandle" ∧ yX12_shapes.cls ≠ "java/lang/invoke/VarHandle" ∧ (parseMethodDescriptor yX12_shapes.desc).map (fun d => d.parameters.length) = some 1 := by decide +kernel
theorem tl_X12_96 : Cond.methodLink RX12 96 yX12_usedAt ∈ TB := tb_of 1649 (by decide +kernel) (by decide +kernel)
theorem ts_X12_usedAt : Cond.static yX12_usedAt ∈ TB := tb_of 1650 (by decide +kernel) (by decide +kernel)
theorem tc_X12_usedAt : Cond.code yX12_usedAt cX12_usedAt 3 (some .int) ∈ TB := tb_of 1651 (by decide +kernel) (by decide +kernel)
theorem tm_X12_usedAt : yX12_usedAt.cls = RX12 ∧ yX12_usedAt.cls ≠ "java/lang/invoke/MethodHandle" ∧ yX12_usedAt.cls ≠ "java/lang/invoke/VarHandle" ∧ (parseMethodDescriptor yX12_usedAt.desc).map (fun d => d.parameters.length) = some 2 := by decide +kernel
theorem tl_X12_80 : Cond.methodLink RX12 80 yX12_blockAt ∈ TB := tb_of 1652 (by decide +kernel) (by decide +kernel)
theorem ts_X12_blockAt : Cond.static yX12_blockAt ∈ TB := tb_of 1653 (by decide +kernel) (by decide +kernel)
theorem tc_X12_blockAt : Cond.code yX12_blockAt cX12_blockAt 1 (some .int) ∈ TB := tb_of 1654 (by decide +kernel) (by decide +kernel)
theorem tm_X12_blockAt : yX12_blockAt.cls = RX12 ∧ yX12_blockAt.cls ≠ "java/lang/invoke/MethodHandle" ∧ yX12_blockAt.cls ≠ "java/lang/invoke/VarHandle" ∧ (parseMethodDescriptor yX12_blockAt.desc).map (fun d => d.parameters.length) = some 1 := by decide +kernel
theorem tl_X12_104 : Cond.methodLink RX12 104 yX12_usedBlocks ∈ TB := tb_of 1655 (by decide +kernel) (by decide +kernel)
theorem ts_X12_usedBlocks : Cond.static yX12_usedBlocks ∈ TB := tb_of 1656 (by decide +kernel) (by decide +kernel)
theorem tc_X12_usedBlocks : Cond.code yX12_usedBlocks cX12_usedBlocks 3 (some .int) ∈ TB := tb_of 1657 (by decide +kernel) (by decide +kernel)
theorem tm_X12_usedBlocks : yX12_usedBlocks.cls = RX12 ∧ yX12_usedBlocks.cls ≠ "java/lang/invoke/MethodHandle" ∧ yX12_usedBlocks.cls ≠ "java/lang/invoke/VarHandle" ∧ (parseMethodDescriptor yX12_usedBlocks.desc).map (fun d => d.parameters.length) = some 1 := by decide +kernel
theorem ti_X12_steps : Cond.instanceMethod yX12_steps ∈ TB := tb_of 1659 (by decide +kernel) (by decide +kernel)
theorem tz_X12_steps : Cond.selects RX12 yX12_steps yX12_steps ∈ TB := tb_of 1660 (by decide +kernel) (by decide +kernel)
theorem tc_X12_steps : Cond.code yX12_steps cX12_steps 3 (some .int) ∈ TB := tb_of 1661 (by decide +kernel) (by decide +kernel)
theorem tm_X12_steps : yX12_steps.cls = RX12 ∧ yX12_steps.cls ≠ "java/lang/invoke/MethodHandle" ∧ yX12_steps.cls ≠ "java/lang/invoke/VarHandle" ∧ (parseMethodDescriptor yX12_steps.desc).map (fun d => d.parameters.length) = some 1 := by decide +kernel
theorem tl_X12_345 : Cond.methodLink RX12 345 yX12_refuses ∈ TB := tb_of 1662 (by decide +kernel) (by decide +kernel)
theorem ti_X12_refuses : Cond.instanceMethod yX12_refuses ∈ TB := tb_of 1664 (by decide +kernel) (by decide +kernel)
theorem tc_X12_refuses : Cond.code yX12_refuses cX12_refuses 2 (some .int) ∈ TB := tb_of 1665 (by decide +kernel) (by decide +kernel)
theorem tm_X12_refuses : yX12_refuses.cls = RX12 ∧ yX12_refuses.cls ≠ "java/lang/invoke/MethodHandle" ∧ yX12_refuses.cls ≠ "java/lang/invoke/VarHandle" ∧ (parseMethodDescriptor yX12_refuses.desc).map (fun d => d.parameters.length) = some 1 := by decide +kernel
theorem tl_X12_218 : Cond.methodLink RX12 218 yX12_tries ∈ TB := tb_of 1666 (by decide +kernel) (by decide +kernel)
theorem ti_X12_tries : Cond.instanceMethod yX12_tries ∈ TB := tb_of 1668 (by decide +kernel) (by decide +kernel)
theorem tc_X12_tries : Cond.code yX12_tries cX12_tries 1 none ∈ TB := tb_of 1669 (by decide +kernel) (by decide +kernel)
theorem tm_X12_tries : yX12_tries.cls = RX12 ∧ yX12_tries.cls ≠ "java/lang/invoke/MethodHandle" ∧ yX12_tries.cls ≠ "java/lang/invoke/VarHandle" ∧ (parseMethodDescriptor yX12_tries.desc).map (fun d => d.parameters.length) = some 0 := by decide +kernel
theorem tl_X12_224 : Cond.methodLink RX12 224 yX12_copies ∈ TB := tb_of 1670 (by decide +kernel) (by decide +kernel)
theorem ti_X12_copies : Cond.instanceMethod yX12_copies ∈ TB := tb_of 1672 (by decide +kernel) (by decide +kernel)
theorem tc_X12_copies : Cond.code yX12_copies cX12_copies 5 none ∈ TB := tb_of 1673 (by decide +kernel) (by decide +kernel)
theorem tm_X12_copies : yX12_copies.cls = RX12 ∧ yX12_copies.cls ≠ "java/lang/invoke/MethodHandle" ∧ yX12_copies.cls ≠ "java/lang/invoke/VarHandle" ∧ (parseMethodDescriptor yX12_copies.desc).map (fun d => d.parameters.length) = some 3 := by decide +kernel
theorem tl_X12_351 : Cond.methodLink RX12 351 yX12_goes ∈ TB := tb_of 1674 (by decide +kernel) (by decide +kernel)
theorem ti_X12_goes : Cond.instanceMethod yX12_goes ∈ TB := tb_of 1676 (by decide +kernel) (by decide +kernel)
theorem tc_X12_goes : Cond.code yX12_goes cX12_goes 4 (some .int) ∈ TB := tb_of 1677 (by decide +kernel) (by decide +kernel)
theorem tm_X12_goes : yX12_goes.cls = RX12 ∧ yX12_goes.cls ≠ "java/lang/invoke/MethodHandle" ∧ yX12_goes.cls ≠ "java/lang/invoke/VarHandle" ∧ (parseMethodDescriptor yX12_goes.desc).map (fun d => d.parameters.length) = some 2 := by decide +kernel
theorem tl_X12_230 : Cond.methodLink RX12 230 yX12_isStep ∈ TB := tb_of 1678 (by decide +kernel) (by decide +kernel)
theorem ti_X12_isStep : Cond.instanceMethod yX12_isStep ∈ TB := tb_of 1680 (by decide +kernel) (by decide +kernel)
theorem tc_X12_isStep : Cond.code yX12_isStep cX12_isStep 3 (some .boolean) ∈ TB := tb_of 1681 (by decide +kernel) (by decide +kernel)
theorem tm_X12_isStep : yX12_isStep.cls = RX12 ∧ yX12_isStep.cls ≠ "java/lang/invoke/MethodHandle" ∧ yX12_isStep.cls ≠ "java/lang/invoke/VarHandle" ∧ (parseMethodDescriptor yX12_isStep.desc).map (fun d => d.parameters.length) = some 1 := by decide +kernel
theorem tl_X12_160 : Cond.methodLink RX12 160 yX12_isBegun ∈ TB := tb_of 1682 (by decide +kernel) (by decide +kernel)
theorem ti_X12_isBegun : Cond.instanceMethod yX12_isBegun ∈ TB := tb_of 1684 (by decide +kernel) (by decide +kernel)
theorem tc_X12_isBegun : Cond.code yX12_isBegun cX12_isBegun 5 (some .boolean) ∈ TB := tb_of 1685 (by decide +kernel) (by decide +kernel)
theorem tm_X12_isBegun : yX12_isBegun.cls = RX12 ∧ yX12_isBegun.cls ≠ "java/lang/invoke/MethodHandle" ∧ yX12_isBegun.cls ≠ "java/lang/invoke/VarHandle" ∧ (parseMethodDescriptor yX12_isBegun.desc).map (fun d => d.parameters.length) = some 1 := by decide +kernel
theorem tl_X12_153 : Cond.methodLink RX12 153 yX12_isWritten ∈ TB := tb_of 1686 (by decide +kernel) (by decide +kernel)
theorem ti_X12_isWritten : Cond.instanceMethod yX12_isWritten ∈ TB := tb_of 1688 (by decide +kernel) (by decide +kernel)
theorem tc_X12_isWritten : Cond.code yX12_isWritten cX12_isWritten 5 (some .boolean) ∈ TB := tb_of 1689 (by decide +kernel) (by decide +kernel)
theorem tm_X12_isWritten : yX12_isWritten.cls = RX12 ∧ yX12_isWritten.cls ≠ "java/lang/invoke/MethodHandle" ∧ yX12_isWritten.cls ≠ "java/lang/invoke/VarHandle" ∧ (parseMethodDescriptor yX12_isWritten.desc).map (fun d => d.parameters.length) = some 1 := by decide +kernel
theorem tl_X12_122 : Cond.methodLink RX12 122 yX12_laysWords ∈ TB := tb_of 1690 (by decide +kernel) (by decide +kernel)
theorem ti_X12_laysWords : Cond.instanceMethod yX12_laysWords ∈ TB := tb_of 1692 (by decide +kernel) (by decide +kernel)
theorem tc_X12_laysWords : Cond.code yX12_laysWords cX12_laysWords 3 none ∈ TB := tb_of 1693 (by decide +kernel) (by decide +kernel)
theorem tm_X12_laysWords : yX12_laysWords.cls = RX12 ∧ yX12_laysWords.cls ≠ "java/lang/invoke/MethodHandle" ∧ yX12_laysWords.cls ≠ "java/lang/invoke/VarHandle" ∧ (parseMethodDescriptor yX12_laysWords.desc).map (fun d => d.parameters.length) = some 1 := by decide +kernel
theorem tl_X12_126 : Cond.methodLink RX12 126 yX12_isOp ∈ TB := tb_of 1694 (by decide +kernel) (by decide +kernel)
theorem ti_X12_isOp : Cond.instanceMethod yX12_isOp ∈ TB := tb_of 1696 (by decide +kernel) (by decide +kernel)
theorem tc_X12_isOp : Cond.code yX12_isOp cX12_isOp 6 (some .boolean) ∈ TB := tb_of 1697 (by decide +kernel) (by decide +kernel)
theorem tm_X12_isOp : yX12_isOp.cls = RX12 ∧ yX12_isOp.cls ≠ "java/lang/invoke/MethodHandle" ∧ yX12_isOp.cls ≠ "java/lang/invoke/VarHandle" ∧ (parseMethodDescriptor yX12_isOp.desc).map (fun d => d.parameters.length) = some 3 := by decide +kernel
theorem tl_X12_108 : Cond.methodLink RX12 108 yX12_writes ∈ TB := tb_of 1698 (by decide +kernel) (by decide +kernel)
theorem ti_X12_writes : Cond.instanceMethod yX12_writes ∈ TB := tb_of 1700 (by decide +kernel) (by decide +kernel)
theorem tc_X12_writes : Cond.code yX12_writes cX12_writes 3 none ∈ TB := tb_of 1701 (by decide +kernel) (by decide +kernel)
theorem tm_X12_writes : yX12_writes.cls = RX12 ∧ yX12_writes.cls ≠ "java/lang/invoke/MethodHandle" ∧ yX12_writes.cls ≠ "java/lang/invoke/VarHandle" ∧ (parseMethodDescriptor yX12_writes.desc).map (fun d => d.parameters.length) = some 2 := by decide +kernel
theorem tl_X12_111 : Cond.methodLink RX12 111 yX12_leaked ∈ TB := tb_of 1702 (by decide +kernel) (by decide +kernel)
theorem ti_X12_leaked : Cond.instanceMethod yX12_leaked ∈ TB := tb_of 1704 (by decide +kernel) (by decide +kernel)
theorem tc_X12_leaked : Cond.code yX12_leaked cX12_leaked 2 (some .int) ∈ TB := tb_of 1705 (by decide +kernel) (by decide +kernel)
theorem tm_X12_leaked : yX12_leaked.cls = RX12 ∧ yX12_leaked.cls ≠ "java/lang/invoke/MethodHandle" ∧ yX12_leaked.cls ≠ "java/lang/invoke/VarHandle" ∧ (parseMethodDescriptor yX12_leaked.desc).map (fun d => d.parameters.length) = some 1 := by decide +kernel
theorem tl_X12_114 : Cond.methodLink RX12 114 yX12_freeBlock ∈ TB := tb_of 1706 (by decide +kernel) (by decide +kernel)
theorem ti_X12_freeBlock : Cond.instanceMethod yX12_freeBlock ∈ TB := tb_of 1708 (by decide +kernel) (by decide +kernel)
theorem tc_X12_freeBlock : Cond.code yX12_freeBlock cX12_freeBlock 2 (some .int) ∈ TB := tb_of 1709 (by decide +kernel) (by decide +kernel)
theorem tm_X12_freeBlock : yX12_freeBlock.cls = RX12 ∧ yX12_freeBlock.cls ≠ "java/lang/invoke/MethodHandle" ∧ yX12_freeBlock.cls ≠ "java/lang/invoke/VarHandle" ∧ (parseMethodDescriptor yX12_freeBlock.desc).map (fun d => d.parameters.length) = some 0 := by decide +kernel
theorem tl_X12_157 : Cond.methodLink RX12 157 yX12_laysMicros ∈ TB := tb_of 1710 (by decide +kernel) (by decide +kernel)
theorem ti_X12_laysMicros : Cond.instanceMethod yX12_laysMicros ∈ TB := tb_of 1712 (by decide +kernel) (by decide +kernel)
theorem tc_X12_laysMicros : Cond.code yX12_laysMicros cX12_laysMicros 4 none ∈ TB := tb_of 1713 (by decide +kernel) (by decide +kernel)
theorem tm_X12_laysMicros : yX12_laysMicros.cls = RX12 ∧ yX12_laysMicros.cls ≠ "java/lang/invoke/MethodHandle" ∧ yX12_laysMicros.cls ≠ "java/lang/invoke/VarHandle" ∧ (parseMethodDescriptor yX12_laysMicros.desc).map (fun d => d.parameters.length) = some 1 := by decide +kernel
theorem tl_X12_134 : Cond.methodLink RX12 134 yX12_lays ∈ TB := tb_of 1714 (by decide +kernel) (by decide +kernel)
theorem ti_X12_lays : Cond.instanceMethod yX12_lays ∈ TB := tb_of 1716 (by decide +kernel) (by decide +kernel)
theorem tc_X12_lays : Cond.code yX12_lays cX12_lays 6 none ∈ TB := tb_of 1717 (by decide +kernel) (by decide +kernel)
theorem tm_X12_lays : yX12_lays.cls = RX12 ∧ yX12_lays.cls ≠ "java/lang/invoke/MethodHandle" ∧ yX12_lays.cls ≠ "java/lang/invoke/VarHandle" ∧ (parseMethodDescriptor yX12_lays.desc).map (fun d => d.parameters.length) = some 4 := by decide +kernel
theorem tl_X12_138 : Cond.methodLink RX12 138 yX12_flushes ∈ TB := tb_of 1718 (by decide +kernel) (by decide +kernel)
theorem ti_X12_flushes : Cond.instanceMethod yX12_flushes ∈ TB := tb_of 1720 (by decide +kernel) (by decide +kernel)
theorem tc_X12_flushes : Cond.code yX12_flushes cX12_flushes 4 none ∈ TB := tb_of 1721 (by decide +kernel) (by decide +kernel)
theorem tm_X12_flushes : yX12_flushes.cls = RX12 ∧ yX12_flushes.cls ≠ "java/lang/invoke/MethodHandle" ∧ yX12_flushes.cls ≠ "java/lang/invoke/VarHandle" ∧ (parseMethodDescriptor yX12_flushes.desc).map (fun d => d.parameters.length) = some 3 := by decide +kernel
theorem tl_X12_130 : Cond.methodLink RX12 130 yX12_isIn ∈ TB := tb_of 1722 (by decide +kernel) (by decide +kernel)
theorem ti_X12_isIn : Cond.instanceMethod yX12_isIn ∈ TB := tb_of 1724 (by decide +kernel) (by decide +kernel)
theorem tc_X12_isIn : Cond.code yX12_isIn cX12_isIn 3 (some .boolean) ∈ TB := tb_of 1725 (by decide +kernel) (by decide +kernel)
theorem tm_X12_isIn : yX12_isIn.cls = RX12 ∧ yX12_isIn.cls ≠ "java/lang/invoke/MethodHandle" ∧ yX12_isIn.cls ≠ "java/lang/invoke/VarHandle" ∧ (parseMethodDescriptor yX12_isIn.desc).map (fun d => d.parameters.length) = some 2 := by decide +kernel
theorem tl_X12_141 : Cond.methodLink RX12 141 yX12_fences ∈ TB := tb_of 1726 (by decide +kernel) (by decide +kernel)
theorem ti_X12_fences : Cond.instanceMethod yX12_fences ∈ TB := tb_of 1728 (by decide +kernel) (by decide +kernel)
theorem tc_X12_fences : Cond.code yX12_fences cX12_fences 3 none ∈ TB := tb_of 1729 (by decide +kernel) (by decide +kernel)
theorem tm_X12_fences : yX12_fences.cls = RX12 ∧ yX12_fences.cls ≠ "java/lang/invoke/MethodHandle" ∧ yX12_fences.cls ≠ "java/lang/invoke/VarHandle" ∧ (parseMethodDescriptor yX12_fences.desc).map (fun d => d.parameters.length) = some 2 := by decide +kernel
theorem tl_X12_144 : Cond.methodLink RX12 144 yX12_counts ∈ TB := tb_of 1730 (by decide +kernel) (by decide +kernel)
theorem ti_X12_counts : Cond.instanceMethod yX12_counts ∈ TB := tb_of 1732 (by decide +kernel) (by decide +kernel)
theorem tc_X12_counts : Cond.code yX12_counts cX12_counts 3 none ∈ TB := tb_of 1733 (by decide +kernel) (by decide +kernel)
theorem tm_X12_counts : yX12_counts.cls = RX12 ∧ yX12_counts.cls ≠ "java/lang/invoke/MethodHandle" ∧ yX12_counts.cls ≠ "java/lang/invoke/VarHandle" ∧ (parseMethodDescriptor yX12_counts.desc).map (fun d => d.parameters.length) = some 2 := by decide +kernel
theorem tl_X12_150 : Cond.methodLink RX12 150 yX12_laysEnd ∈ TB := tb_of 1734 (by decide +kernel) (by decide +kernel)
theorem ti_X12_laysEnd : Cond.instanceMethod yX12_laysEnd ∈ TB := tb_of 1736 (by decide +kernel) (by decide +kernel)
theorem tc_X12_laysEnd : Cond.code yX12_laysEnd cX12_laysEnd 5 none ∈ TB := tb_of 1737 (by decide +kernel) (by decide +kernel)
theorem tm_X12_laysEnd : yX12_laysEnd.cls = RX12 ∧ yX12_laysEnd.cls ≠ "java/lang/invoke/MethodHandle" ∧ yX12_laysEnd.cls ≠ "java/lang/invoke/VarHandle" ∧ (parseMethodDescriptor yX12_laysEnd.desc).map (fun d => d.parameters.length) = some 1 := by decide +kernel
theorem tl_X12_163 : Cond.methodLink RX12 163 yX12_does ∈ TB := tb_of 1738 (by decide +kernel) (by decide +kernel)
theorem ti_X12_does : Cond.instanceMethod yX12_does ∈ TB := tb_of 1740 (by decide +kernel) (by decide +kernel)
theorem tc_X12_does : Cond.code yX12_does cX12_does 6 none ∈ TB := tb_of 1741 (by decide +kernel) (by decide +kernel)
theorem tm_X12_does : yX12_does.cls = RX12 ∧ yX12_does.cls ≠ "java/lang/invoke/MethodHandle" ∧ yX12_does.cls ≠ "java/lang/invoke/VarHandle" ∧ (parseMethodDescriptor yX12_does.desc).map (fun d => d.parameters.length) = some 4 := by decide +kernel
theorem tl_X12_70 : Cond.methodLink RX12 70 yX12_stores ∈ TB := tb_of 1742 (by decide +kernel) (by decide +kernel)
theorem ti_X12_stores : Cond.instanceMethod yX12_stores ∈ TB := tb_of 1744 (by decide +kernel) (by decide +kernel)
theorem tc_X12_stores : Cond.code yX12_stores cX12_stores 6 none ∈ TB := tb_of 1745 (by decide +kernel) (by decide +kernel)
theorem tm_X12_stores : yX12_stores.cls = RX12 ∧ yX12_stores.cls ≠ "java/lang/invoke/MethodHandle" ∧ yX12_stores.cls ≠ "java/lang/invoke/VarHandle" ∧ (parseMethodDescriptor yX12_stores.desc).map (fun d => d.parameters.length) = some 3 := by decide +kernel
theorem tl_X12_66 : Cond.methodLink RX12 66 yX12_reaches ∈ TB := tb_of 1746 (by decide +kernel) (by decide +kernel)
theorem ti_X12_reaches : Cond.instanceMethod yX12_reaches ∈ TB := tb_of 1748 (by decide +kernel) (by decide +kernel)
theorem tc_X12_reaches : Cond.code yX12_reaches cX12_reaches 7 none ∈ TB := tb_of 1749 (by decide +kernel) (by decide +kernel)
theorem tm_X12_reaches : yX12_reaches.cls = RX12 ∧ yX12_reaches.cls ≠ "java/lang/invoke/MethodHandle" ∧ yX12_reaches.cls ≠ "java/lang/invoke/VarHandle" ∧ (parseMethodDescriptor yX12_reaches.desc).map (fun d => d.parameters.length) = some 3 := by decide +kernel
theorem tl_X12_354 : Cond.methodLink RX12 354 yX12_isDone ∈ TB := tb_of 1750 (by decide +kernel) (by decide +kernel)
theorem ti_X12_isDone : Cond.instanceMethod yX12_isDone ∈ TB := tb_of 1752 (by decide +kernel) (by decide +kernel)
theorem tc_X12_isDone : Cond.code yX12_isDone cX12_isDone 2 (some .int) ∈ TB := tb_of 1753 (by decide +kernel) (by decide +kernel)
theorem tm_X12_isDone : yX12_isDone.cls = RX12 ∧ yX12_isDone.cls ≠ "java/lang/invoke/MethodHandle" ∧ yX12_isDone.cls ≠ "java/lang/invoke/VarHandle" ∧ (parseMethodDescriptor yX12_isDone.desc).map (fun d => d.parameters.length) = some 1 := by decide +kernel
theorem tl_X12_348 : Cond.methodLink RX12 348 yX12_keptAt ∈ TB := tb_of 1754 (by decide +kernel) (by decide +kernel)
theorem ts_X12_keptAt : Cond.static yX12_keptAt ∈ TB := tb_of 1755 (by decide +kernel) (by decide +kernel)
theorem tc_X12_keptAt : Cond.code yX12_keptAt cX12_keptAt 2 (some .int) ∈ TB := tb_of 1756 (by decide +kernel) (by decide +kernel)
theorem tm_X12_keptAt : yX12_keptAt.cls = RX12 ∧ yX12_keptAt.cls ≠ "java/lang/invoke/MethodHandle" ∧ yX12_keptAt.cls ≠ "java/lang/invoke/VarHandle" ∧ (parseMethodDescriptor yX12_keptAt.desc).map (fun d => d.parameters.length) = some 2 := by decide +kernel
theorem ti_X12_evict : Cond.instanceMethod yX12_evict ∈ TB := tb_of 1758 (by decide +kernel) (by decide +kernel)
theorem tz_X12_evict : Cond.selects RX12 yX12_evict yX12_evict ∈ TB := tb_of 1759 (by decide +kernel) (by decide +kernel)
theorem tc_X12_evict : Cond.code yX12_evict cX12_evict 3 (some .int) ∈ TB := tb_of 1760 (by decide +kernel) (by decide +kernel)
theorem tm_X12_evict : yX12_evict.cls = RX12 ∧ yX12_evict.cls ≠ "java/lang/invoke/MethodHandle" ∧ yX12_evict.cls ≠ "java/lang/invoke/VarHandle" ∧ (parseMethodDescriptor yX12_evict.desc).map (fun d => d.parameters.length) = some 2 := by decide +kernel
theorem ti_X12_crash : Cond.instanceMethod yX12_crash ∈ TB := tb_of 1762 (by decide +kernel) (by decide +kernel)
theorem tz_X12_crash : Cond.selects RX12 yX12_crash yX12_crash ∈ TB := tb_of 1763 (by decide +kernel) (by decide +kernel)
theorem tc_X12_crash : Cond.code yX12_crash cX12_crash 2 (some .int) ∈ TB := tb_of 1764 (by decide +kernel) (by decide +kernel)
theorem tm_X12_crash : yX12_crash.cls = RX12 ∧ yX12_crash.cls ≠ "java/lang/invoke/MethodHandle" ∧ yX12_crash.cls ≠ "java/lang/invoke/VarHandle" ∧ (parseMethodDescriptor yX12_crash.desc).map (fun d => d.parameters.length) = some 1 := by decide +kernel
theorem tl_X12_357 : Cond.methodLink RX12 357 yX12_isOrder ∈ TB := tb_of 1765 (by decide +kernel) (by decide +kernel)
theorem ti_X12_isOrder : Cond.instanceMethod yX12_isOrder ∈ TB := tb_of 1767 (by decide +kernel) (by decide +kernel)
theorem tc_X12_isOrder : Cond.code yX12_isOrder cX12_isOrder 2 (some .boolean) ∈ TB := tb_of 1768 (by decide +kernel) (by decide +kernel)
theorem tm_X12_isOrder : yX12_isOrder.cls = RX12 ∧ yX12_isOrder.cls ≠ "java/lang/invoke/MethodHandle" ∧ yX12_isOrder.cls ≠ "java/lang/invoke/VarHandle" ∧ (parseMethodDescriptor yX12_isOrder.desc).map (fun d => d.parameters.length) = some 1 := by decide +kernel
theorem tl_X12_360 : Cond.methodLink RX12 360 yX12_laysOrder ∈ TB := tb_of 1769 (by decide +kernel) (by decide +kernel)
theorem ti_X12_laysOrder : Cond.instanceMethod yX12_laysOrder ∈ TB := tb_of 1771 (by decide +kernel) (by decide +kernel)
theorem tc_X12_laysOrder : Cond.code yX12_laysOrder cX12_laysOrder 6 none ∈ TB := tb_of 1772 (by decide +kernel) (by decide +kernel)
theorem tm_X12_laysOrder : yX12_laysOrder.cls = RX12 ∧ yX12_laysOrder.cls ≠ "java/lang/invoke/MethodHandle" ∧ yX12_laysOrder.cls ≠ "java/lang/invoke/VarHandle" ∧ (parseMethodDescriptor yX12_laysOrder.desc).map (fun d => d.parameters.length) = some 2 := by decide +kernel
theorem tl_X12_363 : Cond.methodLink RX12 363 yX12_crashes ∈ TB := tb_of 1773 (by decide +kernel) (by decide +kernel)
theorem ti_X12_crashes : Cond.instanceMethod yX12_crashes ∈ TB := tb_of 1775 (by decide +kernel) (by decide +kernel)
theorem tc_X12_crashes : Cond.code yX12_crashes cX12_crashes 4 (some .int) ∈ TB := tb_of 1776 (by decide +kernel) (by decide +kernel)
theorem tm_X12_crashes : yX12_crashes.cls = RX12 ∧ yX12_crashes.cls ≠ "java/lang/invoke/MethodHandle" ∧ yX12_crashes.cls ≠ "java/lang/invoke/VarHandle" ∧ (parseMethodDescriptor yX12_crashes.desc).map (fun d => d.parameters.length) = some 1 := by decide +kernel
theorem tl_X12_197 : Cond.methodLink RX12 197 yX12_laysWell ∈ TB := tb_of 1777 (by decide +kernel) (by decide +kernel)
theorem ti_X12_laysWell : Cond.instanceMethod yX12_laysWell ∈ TB := tb_of 1779 (by decide +kernel) (by decide +kernel)
theorem tc_X12_laysWell : Cond.code yX12_laysWell cX12_laysWell 3 none ∈ TB := tb_of 1780 (by decide +kernel) (by decide +kernel)
theorem tm_X12_laysWell : yX12_laysWell.cls = RX12 ∧ yX12_laysWell.cls ≠ "java/lang/invoke/MethodHandle" ∧ yX12_laysWell.cls ≠ "java/lang/invoke/VarHandle" ∧ (parseMethodDescriptor yX12_laysWell.desc).map (fun d => d.parameters.length) = some 1 := by decide +kernel
theorem tl_X12_203 : Cond.methodLink RX12 203 yX12_fateHere ∈ TB := tb_of 1781 (by decide +kernel) (by decide +kernel)
theorem ti_X12_fateHere : Cond.instanceMethod yX12_fateHere ∈ TB := tb_of 1783 (by decide +kernel) (by decide +kernel)
theorem tc_X12_fateHere : Cond.code yX12_fateHere cX12_fateHere 5 (some .int) ∈ TB := tb_of 1784 (by decide +kernel) (by decide +kernel)
theorem tm_X12_fateHere : yX12_fateHere.cls = RX12 ∧ yX12_fateHere.cls ≠ "java/lang/invoke/MethodHandle" ∧ yX12_fateHere.cls ≠ "java/lang/invoke/VarHandle" ∧ (parseMethodDescriptor yX12_fateHere.desc).map (fun d => d.parameters.length) = some 1 := by decide +kernel
theorem tl_X12_185 : Cond.methodLink RX12 185 yX12_laysImage ∈ TB := tb_of 1785 (by decide +kernel) (by decide +kernel)
theorem ti_X12_laysImage : Cond.instanceMethod yX12_laysImage ∈ TB := tb_of 1787 (by decide +kernel) (by decide +kernel)
theorem tc_X12_laysImage : Cond.code yX12_laysImage cX12_laysImage 5 none ∈ TB := tb_of 1788 (by decide +kernel) (by decide +kernel)
theorem tm_X12_laysImage : yX12_laysImage.cls = RX12 ∧ yX12_laysImage.cls ≠ "java/lang/invoke/MethodHandle" ∧ yX12_laysImage.cls ≠ "java/lang/invoke/VarHandle" ∧ (parseMethodDescriptor yX12_laysImage.desc).map (fun d => d.parameters.length) = some 1 := by decide +kernel
theorem ti_X12_recover : Cond.instanceMethod yX12_recover ∈ TB := tb_of 1790 (by decide +kernel) (by decide +kernel)
theorem tz_X12_recover : Cond.selects RX12 yX12_recover yX12_recover ∈ TB := tb_of 1791 (by decide +kernel) (by decide +kernel)
theorem tc_X12_recover : Cond.code yX12_recover cX12_recover 1 (some .int) ∈ TB := tb_of 1792 (by decide +kernel) (by decide +kernel)
theorem tm_X12_recover : yX12_recover.cls = RX12 ∧ yX12_recover.cls ≠ "java/lang/invoke/MethodHandle" ∧ yX12_recover.cls ≠ "java/lang/invoke/VarHandle" ∧ (parseMethodDescriptor yX12_recover.desc).map (fun d => d.parameters.length) = some 0 := by decide +kernel
theorem tl_X12_221 : Cond.methodLink RX12 221 yX12_recovery ∈ TB := tb_of 1793 (by decide +kernel) (by decide +kernel)
theorem ti_X12_recovery : Cond.instanceMethod yX12_recovery ∈ TB := tb_of 1795 (by decide +kernel) (by decide +kernel)
theorem tc_X12_recovery : Cond.code yX12_recovery cX12_recovery 5 none ∈ TB := tb_of 1796 (by decide +kernel) (by decide +kernel)
theorem tm_X12_recovery : yX12_recovery.cls = RX12 ∧ yX12_recovery.cls ≠ "java/lang/invoke/MethodHandle" ∧ yX12_recovery.cls ≠ "java/lang/invoke/VarHandle" ∧ (parseMethodDescriptor yX12_recovery.desc).map (fun d => d.parameters.length) = some 1 := by decide +kernel
theorem ti_X12_later : Cond.instanceMethod yX12_later ∈ TB := tb_of 1798 (by decide +kernel) (by decide +kernel)
theorem tz_X12_later : Cond.selects RX12 yX12_later yX12_later ∈ TB := tb_of 1799 (by decide +kernel) (by decide +kernel)
theorem tc_X12_later : Cond.code yX12_later cX12_later 4 (some .int) ∈ TB := tb_of 1800 (by decide +kernel) (by decide +kernel)
theorem tm_X12_later : yX12_later.cls = RX12 ∧ yX12_later.cls ≠ "java/lang/invoke/MethodHandle" ∧ yX12_later.cls ≠ "java/lang/invoke/VarHandle" ∧ (parseMethodDescriptor yX12_later.desc).map (fun d => d.parameters.length) = some 3 := by decide +kernel
theorem tl_X12_366 : Cond.methodLink RX12 366 yX12_isTold ∈ TB := tb_of 1801 (by decide +kernel) (by decide +kernel)
theorem ts_X12_isTold : Cond.static yX12_isTold ∈ TB := tb_of 1802 (by decide +kernel) (by decide +kernel)
theorem tc_X12_isTold : Cond.code yX12_isTold cX12_isTold 3 (some .boolean) ∈ TB := tb_of 1803 (by decide +kernel) (by decide +kernel)
theorem tm_X12_isTold : yX12_isTold.cls = RX12 ∧ yX12_isTold.cls ≠ "java/lang/invoke/MethodHandle" ∧ yX12_isTold.cls ≠ "java/lang/invoke/VarHandle" ∧ (parseMethodDescriptor yX12_isTold.desc).map (fun d => d.parameters.length) = some 3 := by decide +kernel
theorem tl_X12_369 : Cond.methodLink RX12 369 yX12_waits ∈ TB := tb_of 1804 (by decide +kernel) (by decide +kernel)
theorem ti_X12_waits : Cond.instanceMethod yX12_waits ∈ TB := tb_of 1806 (by decide +kernel) (by decide +kernel)
theorem tc_X12_waits : Cond.code yX12_waits cX12_waits 7 none ∈ TB := tb_of 1807 (by decide +kernel) (by decide +kernel)
theorem tm_X12_waits : yX12_waits.cls = RX12 ∧ yX12_waits.cls ≠ "java/lang/invoke/MethodHandle" ∧ yX12_waits.cls ≠ "java/lang/invoke/VarHandle" ∧ (parseMethodDescriptor yX12_waits.desc).map (fun d => d.parameters.length) = some 4 := by decide +kernel
theorem ti_X12_site : Cond.instanceMethod yX12_site ∈ TB := tb_of 1809 (by decide +kernel) (by decide +kernel)
theorem tz_X12_site : Cond.selects RX12 yX12_site yX12_site ∈ TB := tb_of 1810 (by decide +kernel) (by decide +kernel)
theorem tc_X12_site : Cond.code yX12_site cX12_site 2 (some .int) ∈ TB := tb_of 1811 (by decide +kernel) (by decide +kernel)
theorem tm_X12_site : yX12_site.cls = RX12 ∧ yX12_site.cls ≠ "java/lang/invoke/MethodHandle" ∧ yX12_site.cls ≠ "java/lang/invoke/VarHandle" ∧ (parseMethodDescriptor yX12_site.desc).map (fun d => d.parameters.length) = some 1 := by decide +kernel
theorem ti_X12_undo : Cond.instanceMethod yX12_undo ∈ TB := tb_of 1813 (by decide +kernel) (by decide +kernel)
theorem tz_X12_undo : Cond.selects RX12 yX12_undo yX12_undo ∈ TB := tb_of 1814 (by decide +kernel) (by decide +kernel)
theorem tc_X12_undo : Cond.code yX12_undo cX12_undo 1 (some .int) ∈ TB := tb_of 1815 (by decide +kernel) (by decide +kernel)
theorem tm_X12_undo : yX12_undo.cls = RX12 ∧ yX12_undo.cls ≠ "java/lang/invoke/MethodHandle" ∧ yX12_undo.cls ≠ "java/lang/invoke/VarHandle" ∧ (parseMethodDescriptor yX12_undo.desc).map (fun d => d.parameters.length) = some 0 := by decide +kernel
theorem ti_X12_recovered : Cond.instanceMethod yX12_recovered ∈ TB := tb_of 1817 (by decide +kernel) (by decide +kernel)
theorem tz_X12_recovered : Cond.selects RX12 yX12_recovered yX12_recovered ∈ TB := tb_of 1818 (by decide +kernel) (by decide +kernel)
theorem tc_X12_recovered : Cond.code yX12_recovered cX12_recovered 3 (some .int) ∈ TB := tb_of 1819 (by decide +kernel) (by decide +kernel)
theorem tm_X12_recovered : yX12_recovered.cls = RX12 ∧ yX12_recovered.cls ≠ "java/lang/invoke/MethodHandle" ∧ yX12_recovered.cls ≠ "java/lang/invoke/VarHandle" ∧ (parseMethodDescriptor yX12_recovered.desc).map (fun d => d.parameters.length) = some 2 := by decide +kernel
theorem ti_X12_fate : Cond.instanceMethod yX12_fate ∈ TB := tb_of 1821 (by decide +kernel) (by decide +kernel)
theorem tz_X12_fate : Cond.selects RX12 yX12_fate yX12_fate ∈ TB := tb_of 1822 (by decide +kernel) (by decide +kernel)
theorem tc_X12_fate : Cond.code yX12_fate cX12_fate 2 (some .int) ∈ TB := tb_of 1823 (by decide +kernel) (by decide +kernel)
theorem tm_X12_fate : yX12_fate.cls = RX12 ∧ yX12_fate.cls ≠ "java/lang/invoke/MethodHandle" ∧ yX12_fate.cls ≠ "java/lang/invoke/VarHandle" ∧ (parseMethodDescriptor yX12_fate.desc).map (fun d => d.parameters.length) = some 1 := by decide +kernel
theorem ti_X12_check : Cond.instanceMethod yX12_check ∈ TB := tb_of 1825 (by decide +kernel) (by decide +kernel)
theorem tz_X12_check : Cond.selects RX12 yX12_check yX12_check ∈ TB := tb_of 1826 (by decide +kernel) (by decide +kernel)
theorem tc_X12_check : Cond.code yX12_check cX12_check 2 (some .int) ∈ TB := tb_of 1827 (by decide +kernel) (by decide +kernel)
theorem tm_X12_check : yX12_check.cls = RX12 ∧ yX12_check.cls ≠ "java/lang/invoke/MethodHandle" ∧ yX12_check.cls ≠ "java/lang/invoke/VarHandle" ∧ (parseMethodDescriptor yX12_check.desc).map (fun d => d.parameters.length) = some 1 := by decide +kernel
theorem tl_X12_233 : Cond.methodLink RX12 233 yX12_checks ∈ TB := tb_of 1828 (by decide +kernel) (by decide +kernel)
theorem ti_X12_checks : Cond.instanceMethod yX12_checks ∈ TB := tb_of 1830 (by decide +kernel) (by decide +kernel)
theorem tc_X12_checks : Cond.code yX12_checks cX12_checks 6 none ∈ TB := tb_of 1831 (by decide +kernel) (by decide +kernel)
theorem tm_X12_checks : yX12_checks.cls = RX12 ∧ yX12_checks.cls ≠ "java/lang/invoke/MethodHandle" ∧ yX12_checks.cls ≠ "java/lang/invoke/VarHandle" ∧ (parseMethodDescriptor yX12_checks.desc).map (fun d => d.parameters.length) = some 1 := by decide +kernel
theorem tl_X12_227 : Cond.methodLink RX12 227 yX12_looks ∈ TB := tb_of 1832 (by decide +kernel) (by decide +kernel)
theorem ti_X12_looks : Cond.instanceMethod yX12_looks ∈ TB := tb_of 1834 (by decide +kernel) (by decide +kernel)
theorem tc_X12_looks : Cond.code yX12_looks cX12_looks 6 none ∈ TB := tb_of 1835 (by decide +kernel) (by decide +kernel)
theorem tm_X12_looks : yX12_looks.cls = RX12 ∧ yX12_looks.cls ≠ "java/lang/invoke/MethodHandle" ∧ yX12_looks.cls ≠ "java/lang/invoke/VarHandle" ∧ (parseMethodDescriptor yX12_looks.desc).map (fun d => d.parameters.length) = some 2 := by decide +kernel
theorem tk_X12_192 : Cond.constantLong RX12 192 (2000 : Int64) ∈ TB := tb_of 1836 (by decide +kernel) (by decide +kernel)
theorem tl_X12_200 : Cond.methodLink RX12 200 yX12_firstOrder ∈ TB := tb_of 1837 (by decide +kernel) (by decide +kernel)
theorem ti_X12_firstOrder : Cond.instanceMethod yX12_firstOrder ∈ TB := tb_of 1839 (by decide +kernel) (by decide +kernel)
theorem tc_X12_firstOrder : Cond.code yX12_firstOrder cX12_firstOrder 2 none ∈ TB := tb_of 1840 (by decide +kernel) (by decide +kernel)
theorem tm_X12_firstOrder : yX12_firstOrder.cls = RX12 ∧ yX12_firstOrder.cls ≠ "java/lang/invoke/MethodHandle" ∧ yX12_firstOrder.cls ≠ "java/lang/invoke/VarHandle" ∧ (parseMethodDescriptor yX12_firstOrder.desc).map (fun d => d.parameters.length) = some 0 := by decide +kernel
theorem tl_X12_215 : Cond.methodLink RX12 215 yX12_nextOrder ∈ TB := tb_of 1841 (by decide +kernel) (by decide +kernel)
theorem ti_X12_nextOrder : Cond.instanceMethod yX12_nextOrder ∈ TB := tb_of 1843 (by decide +kernel) (by decide +kernel)
theorem tc_X12_nextOrder : Cond.code yX12_nextOrder cX12_nextOrder 3 none ∈ TB := tb_of 1844 (by decide +kernel) (by decide +kernel)
theorem tm_X12_nextOrder : yX12_nextOrder.cls = RX12 ∧ yX12_nextOrder.cls ≠ "java/lang/invoke/MethodHandle" ∧ yX12_nextOrder.cls ≠ "java/lang/invoke/VarHandle" ∧ (parseMethodDescriptor yX12_nextOrder.desc).map (fun d => d.parameters.length) = some 1 := by decide +kernel
theorem ti_X12_needless : Cond.instanceMethod yX12_needless ∈ TB := tb_of 1846 (by decide +kernel) (by decide +kernel)
theorem tz_X12_needless : Cond.selects RX12 yX12_needless yX12_needless ∈ TB := tb_of 1847 (by decide +kernel) (by decide +kernel)
theorem tc_X12_needless : Cond.code yX12_needless cX12_needless 3 (some .int) ∈ TB := tb_of 1848 (by decide +kernel) (by decide +kernel)
theorem tm_X12_needless : yX12_needless.cls = RX12 ∧ yX12_needless.cls ≠ "java/lang/invoke/MethodHandle" ∧ yX12_needless.cls ≠ "java/lang/invoke/VarHandle" ∧ (parseMethodDescriptor yX12_needless.desc).map (fun d => d.parameters.length) = some 0 := by decide +kernel
theorem tl_X12_372 : Cond.methodLink RX12 372 yX12_isReady ∈ TB := tb_of 1849 (by decide +kernel) (by decide +kernel)
theorem ti_X12_isReady : Cond.instanceMethod yX12_isReady ∈ TB := tb_of 1851 (by decide +kernel) (by decide +kernel)
theorem tc_X12_isReady : Cond.code yX12_isReady cX12_isReady 1 (some .boolean) ∈ TB := tb_of 1852 (by decide +kernel) (by decide +kernel)
theorem tm_X12_isReady : yX12_isReady.cls = RX12 ∧ yX12_isReady.cls ≠ "java/lang/invoke/MethodHandle" ∧ yX12_isReady.cls ≠ "java/lang/invoke/VarHandle" ∧ (parseMethodDescriptor yX12_isReady.desc).map (fun d => d.parameters.length) = some 0 := by decide +kernel
theorem tl_X12_376 : Cond.methodLink RX12 376 yX12_isWell ∈ TB := tb_of 1853 (by decide +kernel) (by decide +kernel)
theorem ti_X12_isWell : Cond.instanceMethod yX12_isWell ∈ TB := tb_of 1855 (by decide +kernel) (by decide +kernel)
theorem tc_X12_isWell : Cond.code yX12_isWell cX12_isWell 2 (some .boolean) ∈ TB := tb_of 1856 (by decide +kernel) (by decide +kernel)
theorem tm_X12_isWell : yX12_isWell.cls = RX12 ∧ yX12_isWell.cls ≠ "java/lang/invoke/MethodHandle" ∧ yX12_isWell.cls ≠ "java/lang/invoke/VarHandle" ∧ (parseMethodDescriptor yX12_isWell.desc).map (fun d => d.parameters.length) = some 1 := by decide +kernel
theorem ti_X12_least : Cond.instanceMethod yX12_least ∈ TB := tb_of 1858 (by decide +kernel) (by decide +kernel)
theorem tz_X12_least : Cond.selects RX12 yX12_least yX12_least ∈ TB := tb_of 1859 (by decide +kernel) (by decide +kernel)
theorem tc_X12_least : Cond.code yX12_least cX12_least 4 (some .int) ∈ TB := tb_of 1860 (by decide +kernel) (by decide +kernel)
theorem tm_X12_least : yX12_least.cls = RX12 ∧ yX12_least.cls ≠ "java/lang/invoke/MethodHandle" ∧ yX12_least.cls ≠ "java/lang/invoke/VarHandle" ∧ (parseMethodDescriptor yX12_least.desc).map (fun d => d.parameters.length) = some 1 := by decide +kernel
theorem tl_X12_379 : Cond.methodLink RX12 379 yX12_bits ∈ TB := tb_of 1861 (by decide +kernel) (by decide +kernel)
theorem ts_X12_bits : Cond.static yX12_bits ∈ TB := tb_of 1862 (by decide +kernel) (by decide +kernel)
theorem tc_X12_bits : Cond.code yX12_bits cX12_bits 3 (some .int) ∈ TB := tb_of 1863 (by decide +kernel) (by decide +kernel)
theorem tm_X12_bits : yX12_bits.cls = RX12 ∧ yX12_bits.cls ≠ "java/lang/invoke/MethodHandle" ∧ yX12_bits.cls ≠ "java/lang/invoke/VarHandle" ∧ (parseMethodDescriptor yX12_bits.desc).map (fun d => d.parameters.length) = some 1 := by decide +kernel
theorem ti_X12_chance : Cond.instanceMethod yX12_chance ∈ TB := tb_of 1865 (by decide +kernel) (by decide +kernel)
theorem tz_X12_chance : Cond.selects RX12 yX12_chance yX12_chance ∈ TB := tb_of 1866 (by decide +kernel) (by decide +kernel)
theorem tc_X12_chance : Cond.code yX12_chance cX12_chance 7 (some .int) ∈ TB := tb_of 1867 (by decide +kernel) (by decide +kernel)
theorem tm_X12_chance : yX12_chance.cls = RX12 ∧ yX12_chance.cls ≠ "java/lang/invoke/MethodHandle" ∧ yX12_chance.cls ≠ "java/lang/invoke/VarHandle" ∧ (parseMethodDescriptor yX12_chance.desc).map (fun d => d.parameters.length) = some 1 := by decide +kernel
theorem tl_X12_382 : Cond.methodLink RX12 382 yX12_divisor ∈ TB := tb_of 1868 (by decide +kernel) (by decide +kernel)
theorem ts_X12_divisor : Cond.static yX12_divisor ∈ TB := tb_of 1869 (by decide +kernel) (by decide +kernel)
theorem tc_X12_divisor : Cond.code yX12_divisor cX12_divisor 5 (some .int) ∈ TB := tb_of 1870 (by decide +kernel) (by decide +kernel)
theorem tm_X12_divisor : yX12_divisor.cls = RX12 ∧ yX12_divisor.cls ≠ "java/lang/invoke/MethodHandle" ∧ yX12_divisor.cls ≠ "java/lang/invoke/VarHandle" ∧ (parseMethodDescriptor yX12_divisor.desc).map (fun d => d.parameters.length) = some 2 := by decide +kernel
theorem ti_X12_see : Cond.instanceMethod yX12_see ∈ TB := tb_of 1872 (by decide +kernel) (by decide +kernel)
theorem tz_X12_see : Cond.selects RX12 yX12_see yX12_see ∈ TB := tb_of 1873 (by decide +kernel) (by decide +kernel)
theorem tc_X12_see : Cond.code yX12_see cX12_see 3 (some .int) ∈ TB := tb_of 1874 (by decide +kernel) (by decide +kernel)
theorem tm_X12_see : yX12_see.cls = RX12 ∧ yX12_see.cls ≠ "java/lang/invoke/MethodHandle" ∧ yX12_see.cls ≠ "java/lang/invoke/VarHandle" ∧ (parseMethodDescriptor yX12_see.desc).map (fun d => d.parameters.length) = some 2 := by decide +kernel
theorem ti_X12_explained : Cond.instanceMethod yX12_explained ∈ TB := tb_of 1876 (by decide +kernel) (by decide +kernel)
theorem tz_X12_explained : Cond.selects RX12 yX12_explained yX12_explained ∈ TB := tb_of 1877 (by decide +kernel) (by decide +kernel)
theorem tc_X12_explained : Cond.code yX12_explained cX12_explained 3 (some .int) ∈ TB := tb_of 1878 (by decide +kernel) (by decide +kernel)
theorem tm_X12_explained : yX12_explained.cls = RX12 ∧ yX12_explained.cls ≠ "java/lang/invoke/MethodHandle" ∧ yX12_explained.cls ≠ "java/lang/invoke/VarHandle" ∧ (parseMethodDescriptor yX12_explained.desc).map (fun d => d.parameters.length) = some 1 := by decide +kernel
theorem tl_X12_391 : Cond.methodLink RX12 391 yX12_fits ∈ TB := tb_of 1879 (by decide +kernel) (by decide +kernel)
theorem ti_X12_fits : Cond.instanceMethod yX12_fits ∈ TB := tb_of 1881 (by decide +kernel) (by decide +kernel)
theorem tc_X12_fits : Cond.code yX12_fits cX12_fits 6 (some .int) ∈ TB := tb_of 1882 (by decide +kernel) (by decide +kernel)
theorem tm_X12_fits : yX12_fits.cls = RX12 ∧ yX12_fits.cls ≠ "java/lang/invoke/MethodHandle" ∧ yX12_fits.cls ≠ "java/lang/invoke/VarHandle" ∧ (parseMethodDescriptor yX12_fits.desc).map (fun d => d.parameters.length) = some 1 := by decide +kernel
theorem tl_X12_388 : Cond.methodLink RX12 388 yX12_isSeen ∈ TB := tb_of 1883 (by decide +kernel) (by decide +kernel)
theorem ti_X12_isSeen : Cond.instanceMethod yX12_isSeen ∈ TB := tb_of 1885 (by decide +kernel) (by decide +kernel)
theorem tc_X12_isSeen : Cond.code yX12_isSeen cX12_isSeen 2 (some .boolean) ∈ TB := tb_of 1886 (by decide +kernel) (by decide +kernel)
theorem tm_X12_isSeen : yX12_isSeen.cls = RX12 ∧ yX12_isSeen.cls ≠ "java/lang/invoke/MethodHandle" ∧ yX12_isSeen.cls ≠ "java/lang/invoke/VarHandle" ∧ (parseMethodDescriptor yX12_isSeen.desc).map (fun d => d.parameters.length) = some 0 := by decide +kernel
theorem ti_X12_look : Cond.instanceMethod yX12_look ∈ TB := tb_of 1888 (by decide +kernel) (by decide +kernel)
theorem tz_X12_look : Cond.selects RX12 yX12_look yX12_look ∈ TB := tb_of 1889 (by decide +kernel) (by decide +kernel)
theorem tc_X12_look : Cond.code yX12_look cX12_look 6 (some .int) ∈ TB := tb_of 1890 (by decide +kernel) (by decide +kernel)
theorem tm_X12_look : yX12_look.cls = RX12 ∧ yX12_look.cls ≠ "java/lang/invoke/MethodHandle" ∧ yX12_look.cls ≠ "java/lang/invoke/VarHandle" ∧ (parseMethodDescriptor yX12_look.desc).map (fun d => d.parameters.length) = some 1 := by decide +kernel
theorem tl_X12_394 : Cond.methodLink RX12 394 yX12_isPending ∈ TB := tb_of 1891 (by decide +kernel) (by decide +kernel)
theorem ti_X12_isPending : Cond.instanceMethod yX12_isPending ∈ TB := tb_of 1893 (by decide +kernel) (by decide +kernel)
theorem tc_X12_isPending : Cond.code yX12_isPending cX12_isPending 4 (some .boolean) ∈ TB := tb_of 1894 (by decide +kernel) (by decide +kernel)
theorem tm_X12_isPending : yX12_isPending.cls = RX12 ∧ yX12_isPending.cls ≠ "java/lang/invoke/MethodHandle" ∧ yX12_isPending.cls ≠ "java/lang/invoke/VarHandle" ∧ (parseMethodDescriptor yX12_isPending.desc).map (fun d => d.parameters.length) = some 1 := by decide +kernel
theorem tl_X12_397 : Cond.methodLink RX12 397 yX12_unlike ∈ TB := tb_of 1895 (by decide +kernel) (by decide +kernel)
theorem ti_X12_unlike : Cond.instanceMethod yX12_unlike ∈ TB := tb_of 1897 (by decide +kernel) (by decide +kernel)
theorem tc_X12_unlike : Cond.code yX12_unlike cX12_unlike 6 (some .int) ∈ TB := tb_of 1898 (by decide +kernel) (by decide +kernel)
theorem tm_X12_unlike : yX12_unlike.cls = RX12 ∧ yX12_unlike.cls ≠ "java/lang/invoke/MethodHandle" ∧ yX12_unlike.cls ≠ "java/lang/invoke/VarHandle" ∧ (parseMethodDescriptor yX12_unlike.desc).map (fun d => d.parameters.length) = some 1 := by decide +kernel
theorem ti_X12_forget : Cond.instanceMethod yX12_forget ∈ TB := tb_of 1900 (by decide +kernel) (by decide +kernel)
theorem tz_X12_forget : Cond.selects RX12 yX12_forget yX12_forget ∈ TB := tb_of 1901 (by decide +kernel) (by decide +kernel)
theorem tc_X12_forget : Cond.code yX12_forget cX12_forget 1 none ∈ TB := tb_of 1902 (by decide +kernel) (by decide +kernel)
theorem tm_X12_forget : yX12_forget.cls = RX12 ∧ yX12_forget.cls ≠ "java/lang/invoke/MethodHandle" ∧ yX12_forget.cls ≠ "java/lang/invoke/VarHandle" ∧ (parseMethodDescriptor yX12_forget.desc).map (fun d => d.parameters.length) = some 0 := by decide +kernel
theorem ti_X12_years : Cond.instanceMethod yX12_years ∈ TB := tb_of 1904 (by decide +kernel) (by decide +kernel)
theorem tz_X12_years : Cond.selects RX12 yX12_years yX12_years ∈ TB := tb_of 1905 (by decide +kernel) (by decide +kernel)
theorem tc_X12_years : Cond.code yX12_years cX12_years 5 (some .int) ∈ TB := tb_of 1906 (by decide +kernel) (by decide +kernel)
theorem tm_X12_years : yX12_years.cls = RX12 ∧ yX12_years.cls ≠ "java/lang/invoke/MethodHandle" ∧ yX12_years.cls ≠ "java/lang/invoke/VarHandle" ∧ (parseMethodDescriptor yX12_years.desc).map (fun d => d.parameters.length) = some 3 := by decide +kernel
theorem tl_X12_413 : Cond.methodLink RX12 413 yX12_year ∈ TB := tb_of 1907 (by decide +kernel) (by decide +kernel)
theorem ti_X12_year : Cond.instanceMethod yX12_year ∈ TB := tb_of 1909 (by decide +kernel) (by decide +kernel)
theorem tc_X12_year : Cond.code yX12_year cX12_year 4 none ∈ TB := tb_of 1910 (by decide +kernel) (by decide +kernel)
theorem tm_X12_year : yX12_year.cls = RX12 ∧ yX12_year.cls ≠ "java/lang/invoke/MethodHandle" ∧ yX12_year.cls ≠ "java/lang/invoke/VarHandle" ∧ (parseMethodDescriptor yX12_year.desc).map (fun d => d.parameters.length) = some 0 := by decide +kernel
theorem tl_X12_404 : Cond.methodLink RX12 404 yX12_draw ∈ TB := tb_of 1911 (by decide +kernel) (by decide +kernel)
theorem ti_X12_draw : Cond.instanceMethod yX12_draw ∈ TB := tb_of 1913 (by decide +kernel) (by decide +kernel)
theorem tc_X12_draw : Cond.code yX12_draw cX12_draw 2 (some .int) ∈ TB := tb_of 1914 (by decide +kernel) (by decide +kernel)
theorem tm_X12_draw : yX12_draw.cls = RX12 ∧ yX12_draw.cls ≠ "java/lang/invoke/MethodHandle" ∧ yX12_draw.cls ≠ "java/lang/invoke/VarHandle" ∧ (parseMethodDescriptor yX12_draw.desc).map (fun d => d.parameters.length) = some 1 := by decide +kernel
theorem tk_X12_403 : Cond.constant RX12 403 (1103515245 : Int32) ∈ TB := tb_of 1915 (by decide +kernel) (by decide +kernel)
theorem tl_X12_410 : Cond.methodLink RX12 410 yX12_crashesByDraws ∈ TB := tb_of 1916 (by decide +kernel) (by decide +kernel)
theorem ti_X12_crashesByDraws : Cond.instanceMethod yX12_crashesByDraws ∈ TB := tb_of 1918 (by decide +kernel) (by decide +kernel)
theorem tc_X12_crashesByDraws : Cond.code yX12_crashesByDraws cX12_crashesByDraws 2 none ∈ TB := tb_of 1919 (by decide +kernel) (by decide +kernel)
theorem tm_X12_crashesByDraws : yX12_crashesByDraws.cls = RX12 ∧ yX12_crashesByDraws.cls ≠ "java/lang/invoke/MethodHandle" ∧ yX12_crashesByDraws.cls ≠ "java/lang/invoke/VarHandle" ∧ (parseMethodDescriptor yX12_crashesByDraws.desc).map (fun d => d.parameters.length) = some 0 := by decide +kernel
theorem ti_X12_image : Cond.instanceMethod yX12_image ∈ TB := tb_of 1921 (by decide +kernel) (by decide +kernel)
theorem tz_X12_image : Cond.selects RX12 yX12_image yX12_image ∈ TB := tb_of 1922 (by decide +kernel) (by decide +kernel)
theorem tc_X12_image : Cond.code yX12_image cX12_image 2 none ∈ TB := tb_of 1923 (by decide +kernel) (by decide +kernel)
theorem tm_X12_image : yX12_image.cls = RX12 ∧ yX12_image.cls ≠ "java/lang/invoke/MethodHandle" ∧ yX12_image.cls ≠ "java/lang/invoke/VarHandle" ∧ (parseMethodDescriptor yX12_image.desc).map (fun d => d.parameters.length) = some 0 := by decide +kernel
theorem tk_X12_416 : Cond.constant RX12 416 (33798 : Int32) ∈ TB := tb_of 1924 (by decide +kernel) (by decide +kernel)
theorem tk_X12_417 : Cond.constant RX12 417 (34584 : Int32) ∈ TB := tb_of 1925 (by decide +kernel) (by decide +kernel)
theorem ti_X12_restore : Cond.instanceMethod yX12_restore ∈ TB := tb_of 1927 (by decide +kernel) (by decide +kernel)
theorem tz_X12_restore : Cond.selects RX12 yX12_restore yX12_restore ∈ TB := tb_of 1928 (by decide +kernel) (by decide +kernel)
theorem tc_X12_restore : Cond.code yX12_restore cX12_restore 2 (some .boolean) ∈ TB := tb_of 1929 (by decide +kernel) (by decide +kernel)
theorem tm_X12_restore : yX12_restore.cls = RX12 ∧ yX12_restore.cls ≠ "java/lang/invoke/MethodHandle" ∧ yX12_restore.cls ≠ "java/lang/invoke/VarHandle" ∧ (parseMethodDescriptor yX12_restore.desc).map (fun d => d.parameters.length) = some 0 := by decide +kernel
theorem tz_X11_putBytes : Cond.selects RX11 yX11_putBytes yX11_putBytes ∈ TB := tb_of 0 (by decide +kernel) (by decide +kernel)
theorem tz_X5_planNew : Cond.selects RX5 yX5_planNew yX5_planNew ∈ TB := tb_of 1 (by decide +kernel) (by decide +kernel)
theorem tz_X5_write : Cond.selects RX5 yX5_write yX5_write ∈ TB := tb_of 2 (by decide +kernel) (by decide +kernel)
theorem tz_X5_planDrop : Cond.selects RX5 yX5_planDrop yX5_planDrop ∈ TB := tb_of 3 (by decide +kernel) (by decide +kernel)
theorem tz_X5_planMove : Cond.selects RX5 yX5_planMove yX5_planMove ∈ TB := tb_of 4 (by decide +kernel) (by decide +kernel)
theorem tz_X5_planSweep : Cond.selects RX5 yX5_planSweep yX5_planSweep ∈ TB := tb_of 5 (by decide +kernel) (by decide +kernel)
theorem tz_X7_follow : Cond.selects RX7 yX7_follow yX7_follow ∈ TB := tb_of 6 (by decide +kernel) (by decide +kernel)
theorem tz_X11_refuseAct : Cond.selects RX11 yX11_refuseAct yX11_refuseAct ∈ TB := tb_of 7 (by decide +kernel) (by decide +kernel)
theorem tz_X3_rowAt : Cond.selects RX3 yX3_rowAt yX3_rowAt ∈ TB := tb_of 8 (by decide +kernel) (by decide +kernel)
theorem tz_X4_takeWaiting : Cond.selects RX4 yX4_takeWaiting yX4_takeWaiting ∈ TB := tb_of 9 (by decide +kernel) (by decide +kernel)
theorem tz_X4_begin : Cond.selects RX4 yX4_begin yX4_begin ∈ TB := tb_of 10 (by decide +kernel) (by decide +kernel)
theorem tz_X4_addUndoing : Cond.selects RX4 yX4_addUndoing yX4_addUndoing ∈ TB := tb_of 11 (by decide +kernel) (by decide +kernel)
theorem tz_X4_addEntry : Cond.selects RX4 yX4_addEntry yX4_addEntry ∈ TB := tb_of 12 (by decide +kernel) (by decide +kernel)
theorem tz_X4_addMicro : Cond.selects RX4 yX4_addMicro yX4_addMicro ∈ TB := tb_of 13 (by decide +kernel) (by decide +kernel)
theorem tz_X4_isLeftOut : Cond.selects RX4 yX4_isLeftOut yX4_isLeftOut ∈ TB := tb_of 14 (by decide +kernel) (by decide +kernel)
theorem tz_X4_addCount : Cond.selects RX4 yX4_addCount yX4_addCount ∈ TB := tb_of 15 (by decide +kernel) (by decide +kernel)
theorem tz_X4_addRedoing : Cond.selects RX4 yX4_addRedoing yX4_addRedoing ∈ TB := tb_of 16 (by decide +kernel) (by decide +kernel)
theorem tz_X4_addWrites : Cond.selects RX4 yX4_addWrites yX4_addWrites ∈ TB := tb_of 17 (by decide +kernel) (by decide +kernel)
theorem tz_X4_addEnding : Cond.selects RX4 yX4_addEnding yX4_addEnding ∈ TB := tb_of 18 (by decide +kernel) (by decide +kernel)
theorem tz_X4_doMicro : Cond.selects RX4 yX4_doMicro yX4_doMicro ∈ TB := tb_of 19 (by decide +kernel) (by decide +kernel)
theorem tz_X4_finish : Cond.selects RX4 yX4_finish yX4_finish ∈ TB := tb_of 20 (by decide +kernel) (by decide +kernel)
theorem tz_X11_isOrder : Cond.selects RX11 yX11_isOrder yX11_isOrder ∈ TB := tb_of 21 (by decide +kernel) (by decide +kernel)
theorem tz_X2_countBad : Cond.selects RX2 yX2_countBad yX2_countBad ∈ TB := tb_of 22 (by decide +kernel) (by decide +kernel)
theorem tz_X6_clear : Cond.selects RX6 yX6_clear yX6_clear ∈ TB := tb_of 24 (by decide +kernel) (by decide +kernel)
theorem tz_X6_goOn : Cond.selects RX6 yX6_goOn yX6_goOn ∈ TB := tb_of 25 (by decide +kernel) (by decide +kernel)
theorem tz_X6_readClause : Cond.selects RX6 yX6_readClause yX6_readClause ∈ TB := tb_of 26 (by decide +kernel) (by decide +kernel)
theorem tz_X6_isLetters : Cond.selects RX6 yX6_isLetters yX6_isLetters ∈ TB := tb_of 27 (by decide +kernel) (by decide +kernel)
theorem tz_X6_readMode : Cond.selects RX6 yX6_readMode yX6_readMode ∈ TB := tb_of 28 (by decide +kernel) (by decide +kernel)
theorem tz_X6_readSemicolon : Cond.selects RX6 yX6_readSemicolon yX6_readSemicolon ∈ TB := tb_of 29 (by decide +kernel) (by decide +kernel)
theorem tz_X6_isSign : Cond.selects RX6 yX6_isSign yX6_isSign ∈ TB := tb_of 30 (by decide +kernel) (by decide +kernel)
theorem tz_X6_readWithout : Cond.selects RX6 yX6_readWithout yX6_readWithout ∈ TB := tb_of 31 (by decide +kernel) (by decide +kernel)
theorem tz_X6_readChain : Cond.selects RX6 yX6_readChain yX6_readChain ∈ TB := tb_of 32 (by decide +kernel) (by decide +kernel)
theorem tz_X6_judgeNumber : Cond.selects RX6 yX6_judgeNumber yX6_judgeNumber ∈ TB := tb_of 33 (by decide +kernel) (by decide +kernel)
theorem tz_X6_judgeBlock : Cond.selects RX6 yX6_judgeBlock yX6_judgeBlock ∈ TB := tb_of 34 (by decide +kernel) (by decide +kernel)
theorem tz_X6_readLeak : Cond.selects RX6 yX6_readLeak yX6_readLeak ∈ TB := tb_of 35 (by decide +kernel) (by decide +kernel)
theorem tz_X6_readData : Cond.selects RX6 yX6_readData yX6_readData ∈ TB := tb_of 36 (by decide +kernel) (by decide +kernel)
theorem tz_X6_readDo : Cond.selects RX6 yX6_readDo yX6_readDo ∈ TB := tb_of 37 (by decide +kernel) (by decide +kernel)
theorem tz_X6_readOp : Cond.selects RX6 yX6_readOp yX6_readOp ∈ TB := tb_of 38 (by decide +kernel) (by decide +kernel)
theorem tz_X6_opTold : Cond.selects RX6 yX6_opTold yX6_opTold ∈ TB := tb_of 39 (by decide +kernel) (by decide +kernel)
theorem tz_X8_fits : Cond.selects RX8 yX8_fits yX8_fits ∈ TB := tb_of 40 (by decide +kernel) (by decide +kernel)
theorem tz_X10_draw : Cond.selects RX10 yX10_draw yX10_draw ∈ TB := tb_of 41 (by decide +kernel) (by decide +kernel)
theorem tz_X10_fallAndRecover : Cond.selects RX10 yX10_fallAndRecover yX10_fallAndRecover ∈ TB := tb_of 42 (by decide +kernel) (by decide +kernel)
theorem tz_X12_begins : Cond.selects RX12 yX12_begins yX12_begins ∈ TB := tb_of 43 (by decide +kernel) (by decide +kernel)
theorem tz_X12_right : Cond.selects RX12 yX12_right yX12_right ∈ TB := tb_of 44 (by decide +kernel) (by decide +kernel)
theorem tz_X12_go : Cond.selects RX12 yX12_go yX12_go ∈ TB := tb_of 45 (by decide +kernel) (by decide +kernel)
theorem tz_X12_byteAt : Cond.selects RX12 yX12_byteAt yX12_byteAt ∈ TB := tb_of 46 (by decide +kernel) (by decide +kernel)
theorem tz_X12_wordFrom : Cond.selects RX12 yX12_wordFrom yX12_wordFrom ∈ TB := tb_of 47 (by decide +kernel) (by decide +kernel)
theorem tz_X12_clause1 : Cond.selects RX12 yX12_clause1 yX12_clause1 ∈ TB := tb_of 48 (by decide +kernel) (by decide +kernel)
theorem tz_X12_wants : Cond.selects RX12 yX12_wants yX12_wants ∈ TB := tb_of 49 (by decide +kernel) (by decide +kernel)
theorem tz_X12_without1 : Cond.selects RX12 yX12_without1 yX12_without1 ∈ TB := tb_of 50 (by decide +kernel) (by decide +kernel)
theorem tz_X12_chain1 : Cond.selects RX12 yX12_chain1 yX12_chain1 ∈ TB := tb_of 51 (by decide +kernel) (by decide +kernel)
theorem tz_X12_usedHere : Cond.selects RX12 yX12_usedHere yX12_usedHere ∈ TB := tb_of 52 (by decide +kernel) (by decide +kernel)
theorem tz_X12_data1 : Cond.selects RX12 yX12_data1 yX12_data1 ∈ TB := tb_of 53 (by decide +kernel) (by decide +kernel)
theorem tz_X12_numberHere : Cond.selects RX12 yX12_numberHere yX12_numberHere ∈ TB := tb_of 54 (by decide +kernel) (by decide +kernel)
theorem tz_X12_do1 : Cond.selects RX12 yX12_do1 yX12_do1 ∈ TB := tb_of 55 (by decide +kernel) (by decide +kernel)
theorem tz_X12_op1 : Cond.selects RX12 yX12_op1 yX12_op1 ∈ TB := tb_of 56 (by decide +kernel) (by decide +kernel)
theorem tz_X12_isSign : Cond.selects RX12 yX12_isSign yX12_isSign ∈ TB := tb_of 57 (by decide +kernel) (by decide +kernel)
theorem tz_X12_pending : Cond.selects RX12 yX12_pending yX12_pending ∈ TB := tb_of 58 (by decide +kernel) (by decide +kernel)
theorem tz_X12_isWord : Cond.selects RX12 yX12_isWord yX12_isWord ∈ TB := tb_of 59 (by decide +kernel) (by decide +kernel)
theorem tz_X12_wordOf : Cond.selects RX12 yX12_wordOf yX12_wordOf ∈ TB := tb_of 60 (by decide +kernel) (by decide +kernel)
theorem tz_X12_ordersOf : Cond.selects RX12 yX12_ordersOf yX12_ordersOf ∈ TB := tb_of 61 (by decide +kernel) (by decide +kernel)
theorem tz_X12_laysMemory : Cond.selects RX12 yX12_laysMemory yX12_laysMemory ∈ TB := tb_of 62 (by decide +kernel) (by decide +kernel)
theorem tz_X12_recovers : Cond.selects RX12 yX12_recovers yX12_recovers ∈ TB := tb_of 63 (by decide +kernel) (by decide +kernel)
theorem tz_X12_entryAt : Cond.selects RX12 yX12_entryAt yX12_entryAt ∈ TB := tb_of 64 (by decide +kernel) (by decide +kernel)
theorem tz_X12_shapes : Cond.selects RX12 yX12_shapes yX12_shapes ∈ TB := tb_of 65 (by decide +kernel) (by decide +kernel)
theorem tz_X12_refuses : Cond.selects RX12 yX12_refuses yX12_refuses ∈ TB := tb_of 66 (by decide +kernel) (by decide +kernel)
theorem tz_X12_tries : Cond.selects RX12 yX12_tries yX12_tries ∈ TB := tb_of 67 (by decide +kernel) (by decide +kernel)
theorem tz_X12_copies : Cond.selects RX12 yX12_copies yX12_copies ∈ TB := tb_of 68 (by decide +kernel) (by decide +kernel)
theorem tz_X12_goes : Cond.selects RX12 yX12_goes yX12_goes ∈ TB := tb_of 69 (by decide +kernel) (by decide +kernel)
theorem tz_X12_isStep : Cond.selects RX12 yX12_isStep yX12_isStep ∈ TB := tb_of 70 (by decide +kernel) (by decide +kernel)
theorem tz_X12_isBegun : Cond.selects RX12 yX12_isBegun yX12_isBegun ∈ TB := tb_of 71 (by decide +kernel) (by decide +kernel)
theorem tz_X12_isWritten : Cond.selects RX12 yX12_isWritten yX12_isWritten ∈ TB := tb_of 72 (by decide +kernel) (by decide +kernel)
theorem tz_X12_laysWords : Cond.selects RX12 yX12_laysWords yX12_laysWords ∈ TB := tb_of 73 (by decide +kernel) (by decide +kernel)
theorem tz_X12_isOp : Cond.selects RX12 yX12_isOp yX12_isOp ∈ TB := tb_of 74 (by decide +kernel) (by decide +kernel)
theorem tz_X12_writes : Cond.selects RX12 yX12_writes yX12_writes ∈ TB := tb_of 75 (by decide +kernel) (by decide +kernel)
theorem tz_X12_leaked : Cond.selects RX12 yX12_leaked yX12_leaked ∈ TB := tb_of 76 (by decide +kernel) (by decide +kernel)
theorem tz_X12_freeBlock : Cond.selects RX12 yX12_freeBlock yX12_freeBlock ∈ TB := tb_of 77 (by decide +kernel) (by decide +kernel)
theorem tz_X12_laysMicros : Cond.selects RX12 yX12_laysMicros yX12_laysMicros ∈ TB := tb_of 78 (by decide +kernel) (by decide +kernel)
theorem tz_X12_lays : Cond.selects RX12 yX12_lays yX12_lays ∈ TB := tb_of 79 (by decide +kernel) (by decide +kernel)
theorem tz_X12_flushes : Cond.selects RX12 yX12_flushes yX12_flushes ∈ TB := tb_of 80 (by decide +kernel) (by decide +kernel)
theorem tz_X12_isIn : Cond.selects RX12 yX12_isIn yX12_isIn ∈ TB := tb_of 81 (by decide +kernel) (by decide +kernel)
theorem tz_X12_fences : Cond.selects RX12 yX12_fences yX12_fences ∈ TB := tb_of 82 (by decide +kernel) (by decide +kernel)
theorem tz_X12_counts : Cond.selects RX12 yX12_counts yX12_counts ∈ TB := tb_of 83 (by decide +kernel) (by decide +kernel)
theorem tz_X12_laysEnd : Cond.selects RX12 yX12_laysEnd yX12_laysEnd ∈ TB := tb_of 84 (by decide +kernel) (by decide +kernel)
theorem tz_X12_does : Cond.selects RX12 yX12_does yX12_does ∈ TB := tb_of 85 (by decide +kernel) (by decide +kernel)
theorem tz_X12_stores : Cond.selects RX12 yX12_stores yX12_stores ∈ TB := tb_of 86 (by decide +kernel) (by decide +kernel)
theorem tz_X12_reaches : Cond.selects RX12 yX12_reaches yX12_reaches ∈ TB := tb_of 87 (by decide +kernel) (by decide +kernel)
theorem tz_X12_isDone : Cond.selects RX12 yX12_isDone yX12_isDone ∈ TB := tb_of 88 (by decide +kernel) (by decide +kernel)
theorem tz_X12_isOrder : Cond.selects RX12 yX12_isOrder yX12_isOrder ∈ TB := tb_of 89 (by decide +kernel) (by decide +kernel)
theorem tz_X12_laysOrder : Cond.selects RX12 yX12_laysOrder yX12_laysOrder ∈ TB := tb_of 90 (by decide +kernel) (by decide +kernel)
theorem tz_X12_crashes : Cond.selects RX12 yX12_crashes yX12_crashes ∈ TB := tb_of 91 (by decide +kernel) (by decide +kernel)
theorem tz_X12_laysWell : Cond.selects RX12 yX12_laysWell yX12_laysWell ∈ TB := tb_of 92 (by decide +kernel) (by decide +kernel)
theorem tz_X12_fateHere : Cond.selects RX12 yX12_fateHere yX12_fateHere ∈ TB := tb_of 93 (by decide +kernel) (by decide +kernel)
theorem tz_X12_laysImage : Cond.selects RX12 yX12_laysImage yX12_laysImage ∈ TB := tb_of 94 (by decide +kernel) (by decide +kernel)
theorem tz_X12_recovery : Cond.selects RX12 yX12_recovery yX12_recovery ∈ TB := tb_of 95 (by decide +kernel) (by decide +kernel)
theorem tz_X12_waits : Cond.selects RX12 yX12_waits yX12_waits ∈ TB := tb_of 96 (by decide +kernel) (by decide +kernel)
theorem tz_X12_checks : Cond.selects RX12 yX12_checks yX12_checks ∈ TB := tb_of 97 (by decide +kernel) (by decide +kernel)
theorem tz_X12_looks : Cond.selects RX12 yX12_looks yX12_looks ∈ TB := tb_of 98 (by decide +kernel) (by decide +kernel)
theorem tz_X12_firstOrder : Cond.selects RX12 yX12_firstOrder yX12_firstOrder ∈ TB := tb_of 99 (by decide +kernel) (by decide +kernel)
theorem tz_X12_nextOrder : Cond.selects RX12 yX12_nextOrder yX12_nextOrder ∈ TB := tb_of 100 (by decide +kernel) (by decide +kernel)
theorem tz_X12_isReady : Cond.selects RX12 yX12_isReady yX12_isReady ∈ TB := tb_of 101 (by decide +kernel) (by decide +kernel)
theorem tz_X12_isWell : Cond.selects RX12 yX12_isWell yX12_isWell ∈ TB := tb_of 102 (by decide +kernel) (by decide +kernel)
theorem tz_X12_fits : Cond.selects RX12 yX12_fits yX12_fits ∈ TB := tb_of 103 (by decide +kernel) (by decide +kernel)
theorem tz_X12_isSeen : Cond.selects RX12 yX12_isSeen yX12_isSeen ∈ TB := tb_of 104 (by decide +kernel) (by decide +kernel)
theorem tz_X12_isPending : Cond.selects RX12 yX12_isPending yX12_isPending ∈ TB := tb_of 105 (by decide +kernel) (by decide +kernel)
theorem tz_X12_unlike : Cond.selects RX12 yX12_unlike yX12_unlike ∈ TB := tb_of 106 (by decide +kernel) (by decide +kernel)
theorem tz_X12_year : Cond.selects RX12 yX12_year yX12_year ∈ TB := tb_of 107 (by decide +kernel) (by decide +kernel)
theorem tz_X12_draw : Cond.selects RX12 yX12_draw yX12_draw ∈ TB := tb_of 108 (by decide +kernel) (by decide +kernel)
theorem tz_X12_crashesByDraws : Cond.selects RX12 yX12_crashesByDraws yX12_crashesByDraws ∈ TB := tb_of 109 (by decide +kernel) (by decide +kernel)
