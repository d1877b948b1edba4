theorem z_k151 : z_chk 151 = true := by decide +kernel
theorem z_k152 : z_chk 152 = true := by decide +kernel
theorem z_k153 : z_chk 153 = true := by decide +kernel
theorem z_k154 : z_chk 154 = true := by decide +kernel
theorem z_k155_0 : z_chl 155 (((z_tab 155).drop (40 * 0)).take 40) = true := by decide +kernel
theorem z_k155_1 : z_chl 155 (((z_tab 155).drop (40 * 1)).take 40) = true := by decide +kernel
theorem z_k155_2 : z_chl 155 (((z_tab 155).drop (40 * 2)).take 40) = true := by decide +kernel
theorem z_k155 : z_chk 155 = true := z_chs 3 _ (by decide +kernel) (fun j hj => by
  match j, hj with
  | 0, _ => exact z_k155_0
  | 1, _ => exact z_k155_1
  | 2, _ => exact z_k155_2
  | n + 3, h => exact absurd h (by omega))
theorem z_k156 : z_chk 156 = true := by decide +kernel
theorem z_k157_0 : z_chl 157 (((z_tab 157).drop (40 * 0)).take 40) = true := by decide +kernel
theorem z_k157_1 : z_chl 157 (((z_tab 157).drop (40 * 1)).take 40) = true := by decide +kernel
theorem z_k157_2 : z_chl 157 (((z_tab 157).drop (40 * 2)).take 40) = true := by decide +kernel
theorem z_k157_3 : z_chl 157 (((z_tab 157).drop (40 * 3)).take 40) = true := by decide +kernel
theorem z_k157 : z_chk 157 = true := z_chs 4 _ (by decide +kernel) (fun j hj => by
  match j, hj with
  | 0, _ => exact z_k157_0
  | 1, _ => exact z_k157_1
  | 2, _ => exact z_k157_2
  | 3, _ => exact z_k157_3
  | n + 4, h => exact absurd h (by omega))
theorem z_k158_0 : z_chl 158 (((z_tab 158).drop (40 * 0)).take 40) = true := by decide +kernel
theorem z_k158_1 : z_chl 158 (((z_tab 158).drop (40 * 1)).take 40) = true := by decide +kernel
theorem z_k158 : z_chk 158 = true := z_chs 2 _ (by decide +kernel) (fun j hj => by
  match j, hj with
  | 0, _ => exact z_k158_0
  | 1, _ => exact z_k158_1
  | n + 2, h => exact absurd h (by omega))
theorem z_k159 : z_chk 159 = true := by decide +kernel
theorem z_k160_0 : z_chl 160 (((z_tab 160).drop (40 * 0)).take 40) = true := by decide +kernel
theorem z_k160_1 : z_chl 160 (((z_tab 160).drop (40 * 1)).take 40) = true := by decide +kernel
theorem z_k160_2 : z_chl 160 (((z_tab 160).drop (40 * 2)).take 40) = true := by decide +kernel
theorem z_k160 : z_chk 160 = true := z_chs 3 _ (by decide +kernel) (fun j hj => by
  match j, hj with
  | 0, _ => exact z_k160_0
  | 1, _ => exact z_k160_1
  | 2, _ => exact z_k160_2
  | n + 3, h => exact absurd h (by omega))
theorem z_k161 : z_chk 161 = true := by decide +kernel
theorem z_k162 : z_chk 162 = true := by decide +kernel
theorem z_k163 : z_chk 163 = true := by decide +kernel
theorem z_k164 : z_chk 164 = true := by decide +kernel
theorem z_k165 : z_chk 165 = true := by decide +kernel
theorem z_k166 : z_chk 166 = true := by decide +kernel
theorem z_k167 : z_chk 167 = true := by decide +kernel
