theorem z_k124 : z_chk 124 = true := by decide +kernel
theorem z_k125 : z_chk 125 = true := by decide +kernel
theorem z_k126 : z_chk 126 = true := by decide +kernel
theorem z_k127 : z_chk 127 = true := by decide +kernel
theorem z_k128 : z_chk 128 = true := by decide +kernel
theorem z_k129 : z_chk 129 = true := by decide +kernel
theorem z_k130 : z_chk 130 = true := by decide +kernel
theorem z_k131 : z_chk 131 = true := by decide +kernel
theorem z_k132 : z_chk 132 = true := by decide +kernel
theorem z_k133 : z_chk 133 = true := by decide +kernel
theorem z_k134 : z_chk 134 = true := by decide +kernel
theorem z_k135 : z_chk 135 = true := by decide +kernel
theorem z_k136_0 : z_chl 136 (((z_tab 136).drop (40 * 0)).take 40) = true := by decide +kernel
theorem z_k136_1 : z_chl 136 (((z_tab 136).drop (40 * 1)).take 40) = true := by decide +kernel
theorem z_k136 : z_chk 136 = true := z_chs 2 _ (by decide +kernel) (fun j hj => by
  match j, hj with
  | 0, _ => exact z_k136_0
  | 1, _ => exact z_k136_1
  | n + 2, h => exact absurd h (by omega))
theorem z_k137 : z_chk 137 = true := by decide +kernel
theorem z_k138_0 : z_chl 138 (((z_tab 138).drop (40 * 0)).take 40) = true := by decide +kernel
theorem z_k138_1 : z_chl 138 (((z_tab 138).drop (40 * 1)).take 40) = true := by decide +kernel
theorem z_k138 : z_chk 138 = true := z_chs 2 _ (by decide +kernel) (fun j hj => by
  match j, hj with
  | 0, _ => exact z_k138_0
  | 1, _ => exact z_k138_1
  | n + 2, h => exact absurd h (by omega))
theorem z_k139_0 : z_chl 139 (((z_tab 139).drop (40 * 0)).take 40) = true := by decide +kernel
theorem z_k139_1 : z_chl 139 (((z_tab 139).drop (40 * 1)).take 40) = true := by decide +kernel
theorem z_k139_2 : z_chl 139 (((z_tab 139).drop (40 * 2)).take 40) = true := by decide +kernel
theorem z_k139 : z_chk 139 = true := z_chs 3 _ (by decide +kernel) (fun j hj => by
  match j, hj with
  | 0, _ => exact z_k139_0
  | 1, _ => exact z_k139_1
  | 2, _ => exact z_k139_2
  | n + 3, h => exact absurd h (by omega))
theorem z_k140_0 : z_chl 140 (((z_tab 140).drop (40 * 0)).take 40) = true := by decide +kernel
theorem z_k140_1 : z_chl 140 (((z_tab 140).drop (40 * 1)).take 40) = true := by decide +kernel
theorem z_k140_2 : z_chl 140 (((z_tab 140).drop (40 * 2)).take 40) = true := by decide +kernel
theorem z_k140_3 : z_chl 140 (((z_tab 140).drop (40 * 3)).take 40) = true := by decide +kernel
theorem z_k140 : z_chk 140 = true := z_chs 4 _ (by decide +kernel) (fun j hj => by
  match j, hj with
  | 0, _ => exact z_k140_0
  | 1, _ => exact z_k140_1
  | 2, _ => exact z_k140_2
  | 3, _ => exact z_k140_3
  | n + 4, h => exact absurd h (by omega))
theorem z_k141_0 : z_chl 141 (((z_tab 141).drop (40 * 0)).take 40) = true := by decide +kernel
theorem z_k141_1 : z_chl 141 (((z_tab 141).drop (40 * 1)).take 40) = true := by decide +kernel
theorem z_k141_2 : z_chl 141 (((z_tab 141).drop (40 * 2)).take 40) = true := by decide +kernel
theorem z_k141 : z_chk 141 = true := z_chs 3 _ (by decide +kernel) (fun j hj => by
  match j, hj with
  | 0, _ => exact z_k141_0
  | 1, _ => exact z_k141_1
  | 2, _ => exact z_k141_2
  | n + 3, h => exact absurd h (by omega))
theorem z_k142 : z_chk 142 = true := by decide +kernel
theorem z_k143_0 : z_chl 143 (((z_tab 143).drop (40 * 0)).take 40) = true := by decide +kernel
theorem z_k143_1 : z_chl 143 (((z_tab 143).drop (40 * 1)).take 40) = true := by decide +kernel
theorem z_k143_2 : z_chl 143 (((z_tab 143).drop (40 * 2)).take 40) = true := by decide +kernel
theorem z_k143 : z_chk 143 = true := z_chs 3 _ (by decide +kernel) (fun j hj => by
  match j, hj with
  | 0, _ => exact z_k143_0
  | 1, _ => exact z_k143_1
  | 2, _ => exact z_k143_2
  | n + 3, h => exact absurd h (by omega))
theorem z_k144 : z_chk 144 = true := by decide +kernel
theorem z_k145 : z_chk 145 = true := by decide +kernel
theorem z_k146 : z_chk 146 = true := by decide +kernel
theorem z_k147_0 : z_chl 147 (((z_tab 147).drop (40 * 0)).take 40) = true := by decide +kernel
theorem z_k147_1 : z_chl 147 (((z_tab 147).drop (40 * 1)).take 40) = true := by decide +kernel
theorem z_k147 : z_chk 147 = true := z_chs 2 _ (by decide +kernel) (fun j hj => by
  match j, hj with
  | 0, _ => exact z_k147_0
  | 1, _ => exact z_k147_1
  | n + 2, h => exact absurd h (by omega))
theorem z_k148_0 : z_chl 148 (((z_tab 148).drop (40 * 0)).take 40) = true := by decide +kernel
theorem z_k148_1 : z_chl 148 (((z_tab 148).drop (40 * 1)).take 40) = true := by decide +kernel
theorem z_k148_2 : z_chl 148 (((z_tab 148).drop (40 * 2)).take 40) = true := by decide +kernel
theorem z_k148_3 : z_chl 148 (((z_tab 148).drop (40 * 3)).take 40) = true := by decide +kernel
theorem z_k148 : z_chk 148 = true := z_chs 4 _ (by decide +kernel) (fun j hj => by
  match j, hj with
  | 0, _ => exact z_k148_0
  | 1, _ => exact z_k148_1
  | 2, _ => exact z_k148_2
  | 3, _ => exact z_k148_3
  | n + 4, h => exact absurd h (by omega))
theorem z_k149 : z_chk 149 = true := by decide +kernel
theorem z_k150 : z_chk 150 = true := by decide +kernel
