theorem z_k168_0 : z_chl 168 (((z_tab 168).drop (40 * 0)).take 40) = true := by decide +kernel
theorem z_k168_1 : z_chl 168 (((z_tab 168).drop (40 * 1)).take 40) = true := by decide +kernel
theorem z_k168_2 : z_chl 168 (((z_tab 168).drop (40 * 2)).take 40) = true := by decide +kernel
theorem z_k168_3 : z_chl 168 (((z_tab 168).drop (40 * 3)).take 40) = true := by decide +kernel
theorem z_k168_4 : z_chl 168 (((z_tab 168).drop (40 * 4)).take 40) = true := by decide +kernel
theorem z_k168_5 : z_chl 168 (((z_tab 168).drop (40 * 5)).take 40) = true := by decide +kernel
theorem z_k168_6 : z_chl 168 (((z_tab 168).drop (40 * 6)).take 40) = true := by decide +kernel
theorem z_k168_7 : z_chl 168 (((z_tab 168).drop (40 * 7)).take 40) = true := by decide +kernel
theorem z_k168_8 : z_chl 168 (((z_tab 168).drop (40 * 8)).take 40) = true := by decide +kernel
theorem z_k168_9 : z_chl 168 (((z_tab 168).drop (40 * 9)).take 40) = true := by decide +kernel
theorem z_k168_10 : z_chl 168 (((z_tab 168).drop (40 * 10)).take 40) = true := by decide +kernel
theorem z_k168_11 : z_chl 168 (((z_tab 168).drop (40 * 11)).take 40) = true := by decide +kernel
theorem z_k168_12 : z_chl 168 (((z_tab 168).drop (40 * 12)).take 40) = true := by decide +kernel
theorem z_k168_13 : z_chl 168 (((z_tab 168).drop (40 * 13)).take 40) = true := by decide +kernel
theorem z_k168 : z_chk 168 = true := z_chs 14 _ (by decide +kernel) (fun j hj => by
  match j, hj with
  | 0, _ => exact z_k168_0
  | 1, _ => exact z_k168_1
  | 2, _ => exact z_k168_2
  | 3, _ => exact z_k168_3
  | 4, _ => exact z_k168_4
  | 5, _ => exact z_k168_5
  | 6, _ => exact z_k168_6
  | 7, _ => exact z_k168_7
  | 8, _ => exact z_k168_8
  | 9, _ => exact z_k168_9
  | 10, _ => exact z_k168_10
  | 11, _ => exact z_k168_11
  | 12, _ => exact z_k168_12
  | 13, _ => exact z_k168_13
  | n + 14, h => exact absurd h (by omega))
