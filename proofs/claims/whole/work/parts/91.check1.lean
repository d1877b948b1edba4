theorem z_k49 : z_chk 49 = true := by decide +kernel
theorem z_k50 : z_chk 50 = true := by decide +kernel
theorem z_k51_0 : z_chl 51 (((z_tab 51).drop (40 * 0)).take 40) = true := by decide +kernel
theorem z_k51_1 : z_chl 51 (((z_tab 51).drop (40 * 1)).take 40) = true := by decide +kernel
theorem z_k51 : z_chk 51 = true := z_chs 2 _ (by decide +kernel) (fun j hj => by
  match j, hj with
  | 0, _ => exact z_k51_0
  | 1, _ => exact z_k51_1
  | n + 2, h => exact absurd h (by omega))
theorem z_k52 : z_chk 52 = true := by decide +kernel
theorem z_k53 : z_chk 53 = true := by decide +kernel
theorem z_k54 : z_chk 54 = true := by decide +kernel
theorem z_k55 : z_chk 55 = true := by decide +kernel
theorem z_k56 : z_chk 56 = true := by decide +kernel
theorem z_k57_0 : z_chl 57 (((z_tab 57).drop (40 * 0)).take 40) = true := by decide +kernel
theorem z_k57_1 : z_chl 57 (((z_tab 57).drop (40 * 1)).take 40) = true := by decide +kernel
theorem z_k57 : z_chk 57 = true := z_chs 2 _ (by decide +kernel) (fun j hj => by
  match j, hj with
  | 0, _ => exact z_k57_0
  | 1, _ => exact z_k57_1
  | n + 2, h => exact absurd h (by omega))
theorem z_k58 : z_chk 58 = true := by decide +kernel
theorem z_k59 : z_chk 59 = true := by decide +kernel
theorem z_k60_0 : z_chl 60 (((z_tab 60).drop (40 * 0)).take 40) = true := by decide +kernel
theorem z_k60_1 : z_chl 60 (((z_tab 60).drop (40 * 1)).take 40) = true := by decide +kernel
theorem z_k60 : z_chk 60 = true := z_chs 2 _ (by decide +kernel) (fun j hj => by
  match j, hj with
  | 0, _ => exact z_k60_0
  | 1, _ => exact z_k60_1
  | n + 2, h => exact absurd h (by omega))
theorem z_k61 : z_chk 61 = true := by decide +kernel
theorem z_k62 : z_chk 62 = true := by decide +kernel
theorem z_k63 : z_chk 63 = true := by decide +kernel
theorem z_k64 : z_chk 64 = true := by decide +kernel
theorem z_k65 : z_chk 65 = true := by decide +kernel
theorem z_k66 : z_chk 66 = true := by decide +kernel
theorem z_k67 : z_chk 67 = true := by decide +kernel
theorem z_k68 : z_chk 68 = true := by decide +kernel
theorem z_k69 : z_chk 69 = true := by decide +kernel
theorem z_k70 : z_chk 70 = true := by decide +kernel
theorem z_k71 : z_chk 71 = true := by decide +kernel
theorem z_k72 : z_chk 72 = true := by decide +kernel
theorem z_k73 : z_chk 73 = true := by decide +kernel
theorem z_k74 : z_chk 74 = true := by decide +kernel
theorem z_k75 : z_chk 75 = true := by decide +kernel
theorem z_k76 : z_chk 76 = true := by decide +kernel
theorem z_k77 : z_chk 77 = true := by decide +kernel
theorem z_k78 : z_chk 78 = true := by decide +kernel
theorem z_k79 : z_chk 79 = true := by decide +kernel
theorem z_k80 : z_chk 80 = true := by decide +kernel
theorem z_k81 : z_chk 81 = true := by decide +kernel
theorem z_k82 : z_chk 82 = true := by decide +kernel
theorem z_k83 : z_chk 83 = true := by decide +kernel
theorem z_k84 : z_chk 84 = true := by decide +kernel
theorem z_k85 : z_chk 85 = true := by decide +kernel
