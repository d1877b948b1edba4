theorem z_k86 : z_chk 86 = true := by decide +kernel
theorem z_k87 : z_chk 87 = true := by decide +kernel
theorem z_k88 : z_chk 88 = true := by decide +kernel
theorem z_k89 : z_chk 89 = true := by decide +kernel
theorem z_k90 : z_chk 90 = true := by decide +kernel
theorem z_k91 : z_chk 91 = true := by decide +kernel
theorem z_k92 : z_chk 92 = true := by decide +kernel
theorem z_k93 : z_chk 93 = true := by decide +kernel
theorem z_k94 : z_chk 94 = true := by decide +kernel
theorem z_k95 : z_chk 95 = true := by decide +kernel
theorem z_k96 : z_chk 96 = true := by decide +kernel
theorem z_k97 : z_chk 97 = true := by decide +kernel
theorem z_k98 : z_chk 98 = true := by decide +kernel
theorem z_k99 : z_chk 99 = true := by decide +kernel
theorem z_k100 : z_chk 100 = true := by decide +kernel
theorem z_k101_0 : z_chl 101 (((z_tab 101).drop (40 * 0)).take 40) = true := by decide +kernel
theorem z_k101_1 : z_chl 101 (((z_tab 101).drop (40 * 1)).take 40) = true := by decide +kernel
theorem z_k101_2 : z_chl 101 (((z_tab 101).drop (40 * 2)).take 40) = true := by decide +kernel
theorem z_k101 : z_chk 101 = true := z_chs 3 _ (by decide +kernel) (fun j hj => by
  match j, hj with
  | 0, _ => exact z_k101_0
  | 1, _ => exact z_k101_1
  | 2, _ => exact z_k101_2
  | n + 3, h => exact absurd h (by omega))
theorem z_k102 : z_chk 102 = true := by decide +kernel
theorem z_k103 : z_chk 103 = true := by decide +kernel
theorem z_k104 : z_chk 104 = true := by decide +kernel
theorem z_k105 : z_chk 105 = true := by decide +kernel
theorem z_k106_0 : z_chl 106 (((z_tab 106).drop (40 * 0)).take 40) = true := by decide +kernel
theorem z_k106_1 : z_chl 106 (((z_tab 106).drop (40 * 1)).take 40) = true := by decide +kernel
theorem z_k106_2 : z_chl 106 (((z_tab 106).drop (40 * 2)).take 40) = true := by decide +kernel
theorem z_k106_3 : z_chl 106 (((z_tab 106).drop (40 * 3)).take 40) = true := by decide +kernel
theorem z_k106_4 : z_chl 106 (((z_tab 106).drop (40 * 4)).take 40) = true := by decide +kernel
theorem z_k106 : z_chk 106 = true := z_chs 5 _ (by decide +kernel) (fun j hj => by
  match j, hj with
  | 0, _ => exact z_k106_0
  | 1, _ => exact z_k106_1
  | 2, _ => exact z_k106_2
  | 3, _ => exact z_k106_3
  | 4, _ => exact z_k106_4
  | n + 5, h => exact absurd h (by omega))
theorem z_k107 : z_chk 107 = true := by decide +kernel
theorem z_k108 : z_chk 108 = true := by decide +kernel
theorem z_k109_0 : z_chl 109 (((z_tab 109).drop (40 * 0)).take 40) = true := by decide +kernel
theorem z_k109_1 : z_chl 109 (((z_tab 109).drop (40 * 1)).take 40) = true := by decide +kernel
theorem z_k109 : z_chk 109 = true := z_chs 2 _ (by decide +kernel) (fun j hj => by
  match j, hj with
  | 0, _ => exact z_k109_0
  | 1, _ => exact z_k109_1
  | n + 2, h => exact absurd h (by omega))
theorem z_k110 : z_chk 110 = true := by decide +kernel
theorem z_k111_0 : z_chl 111 (((z_tab 111).drop (40 * 0)).take 40) = true := by decide +kernel
theorem z_k111_1 : z_chl 111 (((z_tab 111).drop (40 * 1)).take 40) = true := by decide +kernel
theorem z_k111_2 : z_chl 111 (((z_tab 111).drop (40 * 2)).take 40) = true := by decide +kernel
theorem z_k111 : z_chk 111 = true := z_chs 3 _ (by decide +kernel) (fun j hj => by
  match j, hj with
  | 0, _ => exact z_k111_0
  | 1, _ => exact z_k111_1
  | 2, _ => exact z_k111_2
  | n + 3, h => exact absurd h (by omega))
theorem z_k112_0 : z_chl 112 (((z_tab 112).drop (40 * 0)).take 40) = true := by decide +kernel
theorem z_k112_1 : z_chl 112 (((z_tab 112).drop (40 * 1)).take 40) = true := by decide +kernel
theorem z_k112_2 : z_chl 112 (((z_tab 112).drop (40 * 2)).take 40) = true := by decide +kernel
theorem z_k112 : z_chk 112 = true := z_chs 3 _ (by decide +kernel) (fun j hj => by
  match j, hj with
  | 0, _ => exact z_k112_0
  | 1, _ => exact z_k112_1
  | 2, _ => exact z_k112_2
  | n + 3, h => exact absurd h (by omega))
theorem z_k113_0 : z_chl 113 (((z_tab 113).drop (40 * 0)).take 40) = true := by decide +kernel
theorem z_k113_1 : z_chl 113 (((z_tab 113).drop (40 * 1)).take 40) = true := by decide +kernel
theorem z_k113_2 : z_chl 113 (((z_tab 113).drop (40 * 2)).take 40) = true := by decide +kernel
theorem z_k113 : z_chk 113 = true := z_chs 3 _ (by decide +kernel) (fun j hj => by
  match j, hj with
  | 0, _ => exact z_k113_0
  | 1, _ => exact z_k113_1
  | 2, _ => exact z_k113_2
  | n + 3, h => exact absurd h (by omega))
theorem z_k114_0 : z_chl 114 (((z_tab 114).drop (40 * 0)).take 40) = true := by decide +kernel
theorem z_k114_1 : z_chl 114 (((z_tab 114).drop (40 * 1)).take 40) = true := by decide +kernel
theorem z_k114_2 : z_chl 114 (((z_tab 114).drop (40 * 2)).take 40) = true := by decide +kernel
theorem z_k114 : z_chk 114 = true := z_chs 3 _ (by decide +kernel) (fun j hj => by
  match j, hj with
  | 0, _ => exact z_k114_0
  | 1, _ => exact z_k114_1
  | 2, _ => exact z_k114_2
  | n + 3, h => exact absurd h (by omega))
theorem z_k115 : z_chk 115 = true := by decide +kernel
theorem z_k116 : z_chk 116 = true := by decide +kernel
theorem z_k117 : z_chk 117 = true := by decide +kernel
theorem z_k118 : z_chk 118 = true := by decide +kernel
theorem z_k119 : z_chk 119 = true := by decide +kernel
theorem z_k120 : z_chk 120 = true := by decide +kernel
theorem z_k121 : z_chk 121 = true := by decide +kernel
theorem z_k122 : z_chk 122 = true := by decide +kernel
theorem z_k123 : z_chk 123 = true := by decide +kernel
