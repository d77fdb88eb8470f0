set_option maxRecDepth 100000 in
theorem gk_X0_init : zGood mt_X0_init := ⟨by decide +kernel, zm1 (List.mem_of_getElem? (i := 33) rfl), by decide +kernel, by decide +kernel, zm1 (List.mem_of_getElem? (i := 2) rfl), ⟨by decide +kernel, by decide +kernel⟩, by decide +kernel⟩
set_option maxRecDepth 100000 in
theorem gk_X0_copyFrom : zGood mt_X0_copyFrom := ⟨by decide +kernel, zm4 (List.mem_of_getElem? (i := 114) rfl), by decide +kernel, by decide +kernel, zm1 (List.mem_of_getElem? (i := 2) rfl), ⟨by decide +kernel, by decide +kernel⟩, by decide +kernel⟩
set_option maxRecDepth 100000 in
theorem gk_X0_isClosedOn : zGood mt_X0_isClosedOn := ⟨by decide +kernel, zm2 (List.mem_of_getElem? (i := 182) rfl), by decide +kernel, by decide +kernel, zm1 (List.mem_of_getElem? (i := 2) rfl), ⟨by decide +kernel, by decide +kernel⟩, by decide +kernel⟩
set_option maxRecDepth 100000 in
theorem gk_X0_sumByNow : zGood mt_X0_sumByNow := ⟨by decide +kernel, zm2 (List.mem_of_getElem? (i := 124) rfl), by decide +kernel, by decide +kernel, zm1 (List.mem_of_getElem? (i := 2) rfl), ⟨by decide +kernel, by decide +kernel⟩, by decide +kernel⟩
set_option maxRecDepth 100000 in
theorem gk_X0_sumOfBranch : zGood mt_X0_sumOfBranch := ⟨by decide +kernel, zm3 (List.mem_of_getElem? (i := 9) rfl), by decide +kernel, by decide +kernel, zm1 (List.mem_of_getElem? (i := 2) rfl), ⟨by decide +kernel, by decide +kernel⟩, by decide +kernel⟩
set_option maxRecDepth 100000 in
theorem gk_X0_writeValue : zGood mt_X0_writeValue := ⟨by decide +kernel, zm3 (List.mem_of_getElem? (i := 92) rfl), by decide +kernel, by decide +kernel, zm1 (List.mem_of_getElem? (i := 2) rfl), ⟨by decide +kernel, by decide +kernel⟩, by decide +kernel⟩
set_option maxRecDepth 100000 in
theorem gk_X0_writeGain : zGood mt_X0_writeGain := ⟨by decide +kernel, zm3 (List.mem_of_getElem? (i := 129) rfl), by decide +kernel, by decide +kernel, zm1 (List.mem_of_getElem? (i := 2) rfl), ⟨by decide +kernel, by decide +kernel⟩, by decide +kernel⟩
set_option maxRecDepth 100000 in
theorem gk_X0_tryToPost : zGood mt_X0_tryToPost := ⟨by decide +kernel, zm2 (List.mem_of_getElem? (i := 166) rfl), by decide +kernel, by decide +kernel, zm1 (List.mem_of_getElem? (i := 2) rfl), ⟨by decide +kernel, by decide +kernel⟩, by decide +kernel⟩
set_option maxRecDepth 100000 in
theorem gk_X0_canBePosted : zGood mt_X0_canBePosted := ⟨by decide +kernel, zm2 (List.mem_of_getElem? (i := 174) rfl), by decide +kernel, by decide +kernel, zm1 (List.mem_of_getElem? (i := 2) rfl), ⟨by decide +kernel, by decide +kernel⟩, by decide +kernel⟩
set_option maxRecDepth 100000 in
theorem gk_X0_findUnbalanced : zGood mt_X0_findUnbalanced := ⟨by decide +kernel, zm2 (List.mem_of_getElem? (i := 178) rfl), by decide +kernel, by decide +kernel, zm1 (List.mem_of_getElem? (i := 2) rfl), ⟨by decide +kernel, by decide +kernel⟩, by decide +kernel⟩
set_option maxRecDepth 100000 in
theorem gk_X0_keepsLimits : zGood mt_X0_keepsLimits := ⟨by decide +kernel, zm2 (List.mem_of_getElem? (i := 186) rfl), by decide +kernel, by decide +kernel, zm1 (List.mem_of_getElem? (i := 2) rfl), ⟨by decide +kernel, by decide +kernel⟩, by decide +kernel⟩
set_option maxRecDepth 100000 in
theorem gk_X1_init : zGood mt_X1_init := ⟨by decide +kernel, zm1 (List.mem_of_getElem? (i := 140) rfl), by decide +kernel, by decide +kernel, zm1 (List.mem_of_getElem? (i := 6) rfl), ⟨by decide +kernel, by decide +kernel⟩, by decide +kernel⟩
set_option maxRecDepth 100000 in
theorem gk_X1_copyFrom : zGood mt_X1_copyFrom := ⟨by decide +kernel, zm4 (List.mem_of_getElem? (i := 132) rfl), by decide +kernel, by decide +kernel, zm1 (List.mem_of_getElem? (i := 6) rfl), ⟨by decide +kernel, by decide +kernel⟩, by decide +kernel⟩
set_option maxRecDepth 100000 in
theorem gk_X1_add : zGood mt_X1_add := ⟨by decide +kernel, zm2 (List.mem_of_getElem? (i := 170) rfl), by decide +kernel, by decide +kernel, zm1 (List.mem_of_getElem? (i := 6) rfl), ⟨by decide +kernel, by decide +kernel⟩, by decide +kernel⟩
set_option maxRecDepth 100000 in
theorem gk_X2_init : zGood mt_X2_init := ⟨by decide +kernel, zm1 (List.mem_of_getElem? (i := 39) rfl), by decide +kernel, by decide +kernel, zm1 (List.mem_of_getElem? (i := 3) rfl), ⟨by decide +kernel, by decide +kernel⟩, by decide +kernel⟩
set_option maxRecDepth 100000 in
theorem gk_X2_copyFrom : zGood mt_X2_copyFrom := ⟨by decide +kernel, zm4 (List.mem_of_getElem? (i := 118) rfl), by decide +kernel, by decide +kernel, zm1 (List.mem_of_getElem? (i := 3) rfl), ⟨by decide +kernel, by decide +kernel⟩, by decide +kernel⟩
set_option maxRecDepth 100000 in
theorem gk_X2_has : zGood mt_X2_has := ⟨by decide +kernel, zm2 (List.mem_of_getElem? (i := 78) rfl), by decide +kernel, by decide +kernel, zm1 (List.mem_of_getElem? (i := 3) rfl), ⟨by decide +kernel, by decide +kernel⟩, by decide +kernel⟩
set_option maxRecDepth 100000 in
theorem gk_X2_add : zGood mt_X2_add := ⟨by decide +kernel, zm2 (List.mem_of_getElem? (i := 88) rfl), by decide +kernel, by decide +kernel, zm1 (List.mem_of_getElem? (i := 3) rfl), ⟨by decide +kernel, by decide +kernel⟩, by decide +kernel⟩
set_option maxRecDepth 100000 in
theorem gk_X2_isInBranch : zGood mt_X2_isInBranch := ⟨by decide +kernel, zm2 (List.mem_of_getElem? (i := 104) rfl), by decide +kernel, by decide +kernel, zm1 (List.mem_of_getElem? (i := 3) rfl), ⟨by decide +kernel, by decide +kernel⟩, by decide +kernel⟩
set_option maxRecDepth 100000 in
theorem gk_X2_countStraightBelow : zGood mt_X2_countStraightBelow := ⟨by decide +kernel, zm2 (List.mem_of_getElem? (i := 96) rfl), by decide +kernel, by decide +kernel, zm1 (List.mem_of_getElem? (i := 3) rfl), ⟨by decide +kernel, by decide +kernel⟩, by decide +kernel⟩
set_option maxRecDepth 100000 in
theorem gk_X2_countBranch : zGood mt_X2_countBranch := ⟨by decide +kernel, zm2 (List.mem_of_getElem? (i := 100) rfl), by decide +kernel, by decide +kernel, zm1 (List.mem_of_getElem? (i := 3) rfl), ⟨by decide +kernel, by decide +kernel⟩, by decide +kernel⟩
set_option maxRecDepth 100000 in
theorem gk_X2_countAbove : zGood mt_X2_countAbove := ⟨by decide +kernel, zm2 (List.mem_of_getElem? (i := 108) rfl), by decide +kernel, by decide +kernel, zm1 (List.mem_of_getElem? (i := 3) rfl), ⟨by decide +kernel, by decide +kernel⟩, by decide +kernel⟩
set_option maxRecDepth 100000 in
theorem gk_X2_findMeeting : zGood mt_X2_findMeeting := ⟨by decide +kernel, zm3 (List.mem_of_getElem? (i := 176) rfl), by decide +kernel, by decide +kernel, zm1 (List.mem_of_getElem? (i := 3) rfl), ⟨by decide +kernel, by decide +kernel⟩, by decide +kernel⟩
set_option maxRecDepth 100000 in
theorem gk_X3_init : zGood mt_X3_init := ⟨by decide +kernel, zm2 (List.mem_of_getElem? (i := 38) rfl), by decide +kernel, by decide +kernel, zm1 (List.mem_of_getElem? (i := 11) rfl), ⟨by decide +kernel, by decide +kernel⟩, by decide +kernel⟩
set_option maxRecDepth 100000 in
theorem gk_X3_become : zGood mt_X3_become := ⟨by decide +kernel, zm3 (List.mem_of_getElem? (i := 74) rfl), by decide +kernel, by decide +kernel, zm1 (List.mem_of_getElem? (i := 11) rfl), ⟨by decide +kernel, by decide +kernel⟩, by decide +kernel⟩
set_option maxRecDepth 100000 in
theorem gk_X3_add : zGood mt_X3_add := ⟨by decide +kernel, zm3 (List.mem_of_getElem? (i := 101) rfl), by decide +kernel, by decide +kernel, zm1 (List.mem_of_getElem? (i := 11) rfl), ⟨by decide +kernel, by decide +kernel⟩, by decide +kernel⟩
set_option maxRecDepth 100000 in
theorem gk_X3_half : zGood mt_X3_half := ⟨by decide +kernel, zm3 (List.mem_of_getElem? (i := 84) rfl), by decide +kernel, by decide +kernel, zm1 (List.mem_of_getElem? (i := 11) rfl), ⟨by decide +kernel, by decide +kernel⟩, by decide +kernel⟩
set_option maxRecDepth 100000 in
theorem gk_X3_quotient : zGood mt_X3_quotient := ⟨by decide +kernel, zm3 (List.mem_of_getElem? (i := 110) rfl), by decide +kernel, by decide +kernel, zm1 (List.mem_of_getElem? (i := 11) rfl), ⟨by decide +kernel, by decide +kernel⟩, by decide +kernel⟩
set_option maxRecDepth 100000 in
theorem gk_X3_commonDivisor : zGood mt_X3_commonDivisor := ⟨by decide +kernel, zm3 (List.mem_of_getElem? (i := 80) rfl), by decide +kernel, by decide +kernel, zm1 (List.mem_of_getElem? (i := 11) rfl), ⟨by decide +kernel, by decide +kernel⟩, by decide +kernel⟩
set_option maxRecDepth 100000 in
theorem gk_X4_init : zGood mt_X4_init := ⟨by decide +kernel, zm1 (List.mem_of_getElem? (i := 82) rfl), by decide +kernel, by decide +kernel, zm1 (List.mem_of_getElem? (i := 4) rfl), ⟨by decide +kernel, by decide +kernel⟩, by decide +kernel⟩
set_option maxRecDepth 100000 in
theorem gk_X4_copyFrom : zGood mt_X4_copyFrom := ⟨by decide +kernel, zm4 (List.mem_of_getElem? (i := 123) rfl), by decide +kernel, by decide +kernel, zm1 (List.mem_of_getElem? (i := 4) rfl), ⟨by decide +kernel, by decide +kernel⟩, by decide +kernel⟩
set_option maxRecDepth 100000 in
theorem gk_X4_has : zGood mt_X4_has := ⟨by decide +kernel, zm2 (List.mem_of_getElem? (i := 200) rfl), by decide +kernel, by decide +kernel, zm1 (List.mem_of_getElem? (i := 4) rfl), ⟨by decide +kernel, by decide +kernel⟩, by decide +kernel⟩
set_option maxRecDepth 100000 in
theorem gk_X4_isFull : zGood mt_X4_isFull := ⟨by decide +kernel, zm2 (List.mem_of_getElem? (i := 144) rfl), by decide +kernel, by decide +kernel, zm1 (List.mem_of_getElem? (i := 4) rfl), ⟨by decide +kernel, by decide +kernel⟩, by decide +kernel⟩
set_option maxRecDepth 100000 in
theorem gk_X4_add : zGood mt_X4_add := ⟨by decide +kernel, zm2 (List.mem_of_getElem? (i := 195) rfl), by decide +kernel, by decide +kernel, zm1 (List.mem_of_getElem? (i := 4) rfl), ⟨by decide +kernel, by decide +kernel⟩, by decide +kernel⟩
set_option maxRecDepth 100000 in
theorem gk_X4_isReversible : zGood mt_X4_isReversible := ⟨by decide +kernel, zm2 (List.mem_of_getElem? (i := 212) rfl), by decide +kernel, by decide +kernel, zm1 (List.mem_of_getElem? (i := 4) rfl), ⟨by decide +kernel, by decide +kernel⟩, by decide +kernel⟩
set_option maxRecDepth 100000 in
theorem gk_X4_writeReversal : zGood mt_X4_writeReversal := ⟨by decide +kernel, zm2 (List.mem_of_getElem? (i := 216) rfl), by decide +kernel, by decide +kernel, zm1 (List.mem_of_getElem? (i := 4) rfl), ⟨by decide +kernel, by decide +kernel⟩, by decide +kernel⟩
set_option maxRecDepth 100000 in
theorem gk_X4_isReversal : zGood mt_X4_isReversal := ⟨by decide +kernel, zm4 (List.mem_of_getElem? (i := 28) rfl), by decide +kernel, by decide +kernel, zm1 (List.mem_of_getElem? (i := 4) rfl), ⟨by decide +kernel, by decide +kernel⟩, by decide +kernel⟩
set_option maxRecDepth 100000 in
theorem gk_X4_countReversals : zGood mt_X4_countReversals := ⟨by decide +kernel, zm4 (List.mem_of_getElem? (i := 63) rfl), by decide +kernel, by decide +kernel, zm1 (List.mem_of_getElem? (i := 4) rfl), ⟨by decide +kernel, by decide +kernel⟩, by decide +kernel⟩
set_option maxRecDepth 100000 in
theorem gk_X4_sum : zGood mt_X4_sum := ⟨by decide +kernel, zm2 (List.mem_of_getElem? (i := 128) rfl), by decide +kernel, by decide +kernel, zm1 (List.mem_of_getElem? (i := 4) rfl), ⟨by decide +kernel, by decide +kernel⟩, by decide +kernel⟩
set_option maxRecDepth 100000 in
theorem gk_X4_sumIn : zGood mt_X4_sumIn := ⟨by decide +kernel, zm2 (List.mem_of_getElem? (i := 132) rfl), by decide +kernel, by decide +kernel, zm1 (List.mem_of_getElem? (i := 4) rfl), ⟨by decide +kernel, by decide +kernel⟩, by decide +kernel⟩
set_option maxRecDepth 100000 in
theorem gk_X4_sealOver : zGood mt_X4_sealOver := ⟨by decide +kernel, zm3 (List.mem_of_getElem? (i := 27) rfl), by decide +kernel, by decide +kernel, zm1 (List.mem_of_getElem? (i := 4) rfl), ⟨by decide +kernel, by decide +kernel⟩, by decide +kernel⟩
set_option maxRecDepth 100000 in
theorem gk_X4_sealWith : zGood mt_X4_sealWith := ⟨by decide +kernel, zm3 (List.mem_of_getElem? (i := 32) rfl), by decide +kernel, by decide +kernel, zm1 (List.mem_of_getElem? (i := 4) rfl), ⟨by decide +kernel, by decide +kernel⟩, by decide +kernel⟩
set_option maxRecDepth 100000 in
theorem gk_X4_countLines : zGood mt_X4_countLines := ⟨by decide +kernel, zm2 (List.mem_of_getElem? (i := 112) rfl), by decide +kernel, by decide +kernel, zm1 (List.mem_of_getElem? (i := 4) rfl), ⟨by decide +kernel, by decide +kernel⟩, by decide +kernel⟩
set_option maxRecDepth 100000 in
theorem gk_X4_lineAt : zGood mt_X4_lineAt := ⟨by decide +kernel, zm3 (List.mem_of_getElem? (i := 137) rfl), by decide +kernel, by decide +kernel, zm1 (List.mem_of_getElem? (i := 4) rfl), ⟨by decide +kernel, by decide +kernel⟩, by decide +kernel⟩
set_option maxRecDepth 100000 in
theorem gk_X4_isLine : zGood mt_X4_isLine := ⟨by decide +kernel, zm2 (List.mem_of_getElem? (i := 116) rfl), by decide +kernel, by decide +kernel, zm1 (List.mem_of_getElem? (i := 4) rfl), ⟨by decide +kernel, by decide +kernel⟩, by decide +kernel⟩
set_option maxRecDepth 100000 in
theorem gk_X4_lineOf : zGood mt_X4_lineOf := ⟨by decide +kernel, zm3 (List.mem_of_getElem? (i := 141) rfl), by decide +kernel, by decide +kernel, zm1 (List.mem_of_getElem? (i := 4) rfl), ⟨by decide +kernel, by decide +kernel⟩, by decide +kernel⟩
set_option maxRecDepth 100000 in
theorem gk_X5_init : zGood mt_X5_init := ⟨by decide +kernel, zm1 (List.mem_of_getElem? (i := 121) rfl), by decide +kernel, by decide +kernel, zm1 (List.mem_of_getElem? (i := 5) rfl), ⟨by decide +kernel, by decide +kernel⟩, by decide +kernel⟩
set_option maxRecDepth 100000 in
theorem gk_X5_copyFrom : zGood mt_X5_copyFrom := ⟨by decide +kernel, zm4 (List.mem_of_getElem? (i := 127) rfl), by decide +kernel, by decide +kernel, zm1 (List.mem_of_getElem? (i := 5) rfl), ⟨by decide +kernel, by decide +kernel⟩, by decide +kernel⟩
set_option maxRecDepth 100000 in
theorem gk_X5_tell : zGood mt_X5_tell := ⟨by decide +kernel, zm3 (List.mem_of_getElem? (i := 53) rfl), by decide +kernel, by decide +kernel, zm1 (List.mem_of_getElem? (i := 5) rfl), ⟨by decide +kernel, by decide +kernel⟩, by decide +kernel⟩
set_option maxRecDepth 100000 in
theorem gk_X5_findHeld : zGood mt_X5_findHeld := ⟨by decide +kernel, zm3 (List.mem_of_getElem? (i := 57) rfl), by decide +kernel, by decide +kernel, zm1 (List.mem_of_getElem? (i := 5) rfl), ⟨by decide +kernel, by decide +kernel⟩, by decide +kernel⟩
set_option maxRecDepth 100000 in
theorem gk_X5_aboveAt : zGood mt_X5_aboveAt := ⟨by decide +kernel, zm3 (List.mem_of_getElem? (i := 66) rfl), by decide +kernel, by decide +kernel, zm1 (List.mem_of_getElem? (i := 5) rfl), ⟨by decide +kernel, by decide +kernel⟩, by decide +kernel⟩
set_option maxRecDepth 100000 in
theorem gk_X5_belowAt : zGood mt_X5_belowAt := ⟨by decide +kernel, zm3 (List.mem_of_getElem? (i := 70) rfl), by decide +kernel, by decide +kernel, zm1 (List.mem_of_getElem? (i := 5) rfl), ⟨by decide +kernel, by decide +kernel⟩, by decide +kernel⟩
set_option maxRecDepth 100000 in
theorem gk_X6_init : zGood mt_X6_init := ⟨by decide +kernel, zm2 (List.mem_of_getElem? (i := 25) rfl), by decide +kernel, by decide +kernel, zm1 (List.mem_of_getElem? (i := 10) rfl), ⟨by decide +kernel, by decide +kernel⟩, by decide +kernel⟩
set_option maxRecDepth 100000 in
theorem gk_X6_make : zGood mt_X6_make := ⟨by decide +kernel, zm4 (List.mem_of_getElem? (i := 74) rfl), by decide +kernel, by decide +kernel, zm1 (List.mem_of_getElem? (i := 10) rfl), ⟨by decide +kernel, by decide +kernel⟩, by decide +kernel⟩
set_option maxRecDepth 100000 in
theorem gk_X6_isHeld : zGood mt_X6_isHeld := ⟨by decide +kernel, zm4 (List.mem_of_getElem? (i := 82) rfl), by decide +kernel, by decide +kernel, zm1 (List.mem_of_getElem? (i := 10) rfl), ⟨by decide +kernel, by decide +kernel⟩, by decide +kernel⟩
set_option maxRecDepth 100000 in
theorem gk_X6_hasPlace : zGood mt_X6_hasPlace := ⟨by decide +kernel, zm4 (List.mem_of_getElem? (i := 86) rfl), by decide +kernel, by decide +kernel, zm1 (List.mem_of_getElem? (i := 10) rfl), ⟨by decide +kernel, by decide +kernel⟩, by decide +kernel⟩
set_option maxRecDepth 100000 in
theorem gk_X6_put : zGood mt_X6_put := ⟨by decide +kernel, zm4 (List.mem_of_getElem? (i := 90) rfl), by decide +kernel, by decide +kernel, zm1 (List.mem_of_getElem? (i := 10) rfl), ⟨by decide +kernel, by decide +kernel⟩, by decide +kernel⟩
set_option maxRecDepth 100000 in
theorem gk_X6_at : zGood mt_X6_at := ⟨by decide +kernel, zm4 (List.mem_of_getElem? (i := 98) rfl), by decide +kernel, by decide +kernel, zm1 (List.mem_of_getElem? (i := 10) rfl), ⟨by decide +kernel, by decide +kernel⟩, by decide +kernel⟩
set_option maxRecDepth 100000 in
theorem gk_X7_init : zGood mt_X7_init := ⟨by decide +kernel, zm2 (List.mem_of_getElem? (i := 10) rfl), by decide +kernel, by decide +kernel, zm1 (List.mem_of_getElem? (i := 9) rfl), ⟨by decide +kernel, by decide +kernel⟩, by decide +kernel⟩
set_option maxRecDepth 100000 in
theorem gk_X7_write : zGood mt_X7_write := ⟨by decide +kernel, zm4 (List.mem_of_getElem? (i := 37) rfl), by decide +kernel, by decide +kernel, zm1 (List.mem_of_getElem? (i := 9) rfl), ⟨by decide +kernel, by decide +kernel⟩, by decide +kernel⟩
set_option maxRecDepth 100000 in
theorem gk_X7_addNumber : zGood mt_X7_addNumber := ⟨by decide +kernel, zm4 (List.mem_of_getElem? (i := 45) rfl), by decide +kernel, by decide +kernel, zm1 (List.mem_of_getElem? (i := 9) rfl), ⟨by decide +kernel, by decide +kernel⟩, by decide +kernel⟩
set_option maxRecDepth 100000 in
theorem gk_X7_add : zGood mt_X7_add := ⟨by decide +kernel, zm4 (List.mem_of_getElem? (i := 41) rfl), by decide +kernel, by decide +kernel, zm1 (List.mem_of_getElem? (i := 9) rfl), ⟨by decide +kernel, by decide +kernel⟩, by decide +kernel⟩
set_option maxRecDepth 100000 in
theorem gk_X8_init : zGood mt_X8_init := ⟨by decide +kernel, zm1 (List.mem_of_getElem? (i := 161) rfl), by decide +kernel, by decide +kernel, zm1 (List.mem_of_getElem? (i := 7) rfl), ⟨by decide +kernel, by decide +kernel⟩, by decide +kernel⟩
set_option maxRecDepth 100000 in
theorem gk_X8_copyFrom : zGood mt_X8_copyFrom := ⟨by decide +kernel, zm4 (List.mem_of_getElem? (i := 137) rfl), by decide +kernel, by decide +kernel, zm1 (List.mem_of_getElem? (i := 7) rfl), ⟨by decide +kernel, by decide +kernel⟩, by decide +kernel⟩
set_option maxRecDepth 100000 in
theorem gk_X8_add : zGood mt_X8_add := ⟨by decide +kernel, zm2 (List.mem_of_getElem? (i := 154) rfl), by decide +kernel, by decide +kernel, zm1 (List.mem_of_getElem? (i := 7) rfl), ⟨by decide +kernel, by decide +kernel⟩, by decide +kernel⟩
set_option maxRecDepth 100000 in
theorem gk_X8_sum : zGood mt_X8_sum := ⟨by decide +kernel, zm2 (List.mem_of_getElem? (i := 191) rfl), by decide +kernel, by decide +kernel, zm1 (List.mem_of_getElem? (i := 7) rfl), ⟨by decide +kernel, by decide +kernel⟩, by decide +kernel⟩
set_option maxRecDepth 100000 in
theorem gk_X9_init : zGood mt_X9_init := ⟨by decide +kernel, zm1 (List.mem_of_getElem? (i := 224) rfl), by decide +kernel, by decide +kernel, zm1 (List.mem_of_getElem? (i := 8) rfl), ⟨by decide +kernel, by decide +kernel⟩, by decide +kernel⟩
set_option maxRecDepth 100000 in
theorem gk_X9_add : zGood mt_X9_add := ⟨by decide +kernel, zm3 (List.mem_of_getElem? (i := 184) rfl), by decide +kernel, by decide +kernel, zm1 (List.mem_of_getElem? (i := 8) rfl), ⟨by decide +kernel, by decide +kernel⟩, by decide +kernel⟩
set_option maxRecDepth 100000 in
theorem gk_X9_parse : zGood mt_X9_parse := ⟨by decide +kernel, zm3 (List.mem_of_getElem? (i := 196) rfl), by decide +kernel, by decide +kernel, zm1 (List.mem_of_getElem? (i := 8) rfl), ⟨by decide +kernel, by decide +kernel⟩, by decide +kernel⟩
set_option maxRecDepth 100000 in
theorem gk_X9_takePart : zGood mt_X9_takePart := ⟨by decide +kernel, zm3 (List.mem_of_getElem? (i := 200) rfl), by decide +kernel, by decide +kernel, zm1 (List.mem_of_getElem? (i := 8) rfl), ⟨by decide +kernel, by decide +kernel⟩, by decide +kernel⟩
set_option maxRecDepth 100000 in
theorem gk_X9_takeReversed : zGood mt_X9_takeReversed := ⟨by decide +kernel, zm3 (List.mem_of_getElem? (i := 215) rfl), by decide +kernel, by decide +kernel, zm1 (List.mem_of_getElem? (i := 8) rfl), ⟨by decide +kernel, by decide +kernel⟩, by decide +kernel⟩
set_option maxRecDepth 100000 in
theorem gk_X9_takeFigures : zGood mt_X9_takeFigures := ⟨by decide +kernel, zm3 (List.mem_of_getElem? (i := 204) rfl), by decide +kernel, by decide +kernel, zm1 (List.mem_of_getElem? (i := 8) rfl), ⟨by decide +kernel, by decide +kernel⟩, by decide +kernel⟩
set_option maxRecDepth 100000 in
theorem gk_X9_here : zGood mt_X9_here := ⟨by decide +kernel, zm3 (List.mem_of_getElem? (i := 208) rfl), by decide +kernel, by decide +kernel, zm1 (List.mem_of_getElem? (i := 8) rfl), ⟨by decide +kernel, by decide +kernel⟩, by decide +kernel⟩
set_option maxRecDepth 100000 in
theorem gk_X10_init : zGood mt_X10_init := ⟨by decide +kernel, zm1 (List.mem_of_getElem? (i := 25) rfl), by decide +kernel, by decide +kernel, zm1 (List.mem_of_getElem? (i := 1) rfl), ⟨by decide +kernel, by decide +kernel⟩, by decide +kernel⟩
set_option maxRecDepth 100000 in
theorem gk_X10_account : zGood mt_X10_account := ⟨by decide +kernel, zm2 (List.mem_of_getElem? (i := 74) rfl), by decide +kernel, by decide +kernel, zm1 (List.mem_of_getElem? (i := 1) rfl), ⟨by decide +kernel, by decide +kernel⟩, by decide +kernel⟩
set_option maxRecDepth 100000 in
theorem gk_X10_of : zGood mt_X10_of := ⟨by decide +kernel, zm2 (List.mem_of_getElem? (i := 92) rfl), by decide +kernel, by decide +kernel, zm1 (List.mem_of_getElem? (i := 1) rfl), ⟨by decide +kernel, by decide +kernel⟩, by decide +kernel⟩
set_option maxRecDepth 100000 in
theorem gk_X10_limits : zGood mt_X10_limits := ⟨by decide +kernel, zm2 (List.mem_of_getElem? (i := 120) rfl), by decide +kernel, by decide +kernel, zm1 (List.mem_of_getElem? (i := 1) rfl), ⟨by decide +kernel, by decide +kernel⟩, by decide +kernel⟩
set_option maxRecDepth 100000 in
theorem gk_X10_days : zGood mt_X10_days := ⟨by decide +kernel, zm2 (List.mem_of_getElem? (i := 136) rfl), by decide +kernel, by decide +kernel, zm1 (List.mem_of_getElem? (i := 1) rfl), ⟨by decide +kernel, by decide +kernel⟩, by decide +kernel⟩
set_option maxRecDepth 100000 in
theorem gk_X10_begin : zGood mt_X10_begin := ⟨by decide +kernel, zm2 (List.mem_of_getElem? (i := 140) rfl), by decide +kernel, by decide +kernel, zm1 (List.mem_of_getElem? (i := 1) rfl), ⟨by decide +kernel, by decide +kernel⟩, by decide +kernel⟩
set_option maxRecDepth 100000 in
theorem gk_X10_posting : zGood mt_X10_posting := ⟨by decide +kernel, zm2 (List.mem_of_getElem? (i := 148) rfl), by decide +kernel, by decide +kernel, zm1 (List.mem_of_getElem? (i := 1) rfl), ⟨by decide +kernel, by decide +kernel⟩, by decide +kernel⟩
set_option maxRecDepth 100000 in
theorem gk_X10_cancel : zGood mt_X10_cancel := ⟨by decide +kernel, zm2 (List.mem_of_getElem? (i := 158) rfl), by decide +kernel, by decide +kernel, zm1 (List.mem_of_getElem? (i := 1) rfl), ⟨by decide +kernel, by decide +kernel⟩, by decide +kernel⟩
set_option maxRecDepth 100000 in
theorem gk_X10_post : zGood mt_X10_post := ⟨by decide +kernel, zm2 (List.mem_of_getElem? (i := 162) rfl), by decide +kernel, by decide +kernel, zm1 (List.mem_of_getElem? (i := 1) rfl), ⟨by decide +kernel, by decide +kernel⟩, by decide +kernel⟩
set_option maxRecDepth 100000 in
theorem gk_X10_reverse : zGood mt_X10_reverse := ⟨by decide +kernel, zm2 (List.mem_of_getElem? (i := 207) rfl), by decide +kernel, by decide +kernel, zm1 (List.mem_of_getElem? (i := 1) rfl), ⟨by decide +kernel, by decide +kernel⟩, by decide +kernel⟩
set_option maxRecDepth 100000 in
theorem gk_X10_journal : zGood mt_X10_journal := ⟨by decide +kernel, zm2 (List.mem_of_getElem? (i := 221) rfl), by decide +kernel, by decide +kernel, zm1 (List.mem_of_getElem? (i := 1) rfl), ⟨by decide +kernel, by decide +kernel⟩, by decide +kernel⟩
set_option maxRecDepth 100000 in
theorem gk_X10_part : zGood mt_X10_part := ⟨by decide +kernel, zm2 (List.mem_of_getElem? (i := 225) rfl), by decide +kernel, by decide +kernel, zm1 (List.mem_of_getElem? (i := 1) rfl), ⟨by decide +kernel, by decide +kernel⟩, by decide +kernel⟩
set_option maxRecDepth 100000 in
theorem gk_X10_cause : zGood mt_X10_cause := ⟨by decide +kernel, zm2 (List.mem_of_getElem? (i := 233) rfl), by decide +kernel, by decide +kernel, zm1 (List.mem_of_getElem? (i := 1) rfl), ⟨by decide +kernel, by decide +kernel⟩, by decide +kernel⟩
set_option maxRecDepth 100000 in
theorem gk_X10_balance : zGood mt_X10_balance := ⟨by decide +kernel, zm2 (List.mem_of_getElem? (i := 237) rfl), by decide +kernel, by decide +kernel, zm1 (List.mem_of_getElem? (i := 1) rfl), ⟨by decide +kernel, by decide +kernel⟩, by decide +kernel⟩
set_option maxRecDepth 100000 in
theorem gk_X10_branch : zGood mt_X10_branch := ⟨by decide +kernel, zm3 (List.mem_of_getElem? (i := 5) rfl), by decide +kernel, by decide +kernel, zm1 (List.mem_of_getElem? (i := 1) rfl), ⟨by decide +kernel, by decide +kernel⟩, by decide +kernel⟩
set_option maxRecDepth 100000 in
theorem gk_X10_close : zGood mt_X10_close := ⟨by decide +kernel, zm3 (List.mem_of_getElem? (i := 14) rfl), by decide +kernel, by decide +kernel, zm1 (List.mem_of_getElem? (i := 1) rfl), ⟨by decide +kernel, by decide +kernel⟩, by decide +kernel⟩
set_option maxRecDepth 100000 in
theorem gk_X10_seal : zGood mt_X10_seal := ⟨by decide +kernel, zm3 (List.mem_of_getElem? (i := 37) rfl), by decide +kernel, by decide +kernel, zm1 (List.mem_of_getElem? (i := 1) rfl), ⟨by decide +kernel, by decide +kernel⟩, by decide +kernel⟩
set_option maxRecDepth 100000 in
theorem gk_X10_audit : zGood mt_X10_audit := ⟨by decide +kernel, zm3 (List.mem_of_getElem? (i := 41) rfl), by decide +kernel, by decide +kernel, zm1 (List.mem_of_getElem? (i := 1) rfl), ⟨by decide +kernel, by decide +kernel⟩, by decide +kernel⟩
set_option maxRecDepth 100000 in
theorem gk_X10_rate : zGood mt_X10_rate := ⟨by decide +kernel, zm3 (List.mem_of_getElem? (i := 45) rfl), by decide +kernel, by decide +kernel, zm1 (List.mem_of_getElem? (i := 1) rfl), ⟨by decide +kernel, by decide +kernel⟩, by decide +kernel⟩
set_option maxRecDepth 100000 in
theorem gk_X10_rateOf : zGood mt_X10_rateOf := ⟨by decide +kernel, zm3 (List.mem_of_getElem? (i := 61) rfl), by decide +kernel, by decide +kernel, zm1 (List.mem_of_getElem? (i := 1) rfl), ⟨by decide +kernel, by decide +kernel⟩, by decide +kernel⟩
set_option maxRecDepth 100000 in
theorem gk_X10_value : zGood mt_X10_value := ⟨by decide +kernel, zm3 (List.mem_of_getElem? (i := 88) rfl), by decide +kernel, by decide +kernel, zm1 (List.mem_of_getElem? (i := 1) rfl), ⟨by decide +kernel, by decide +kernel⟩, by decide +kernel⟩
set_option maxRecDepth 100000 in
theorem gk_X10_real : zGood mt_X10_real := ⟨by decide +kernel, zm3 (List.mem_of_getElem? (i := 106) rfl), by decide +kernel, by decide +kernel, zm1 (List.mem_of_getElem? (i := 1) rfl), ⟨by decide +kernel, by decide +kernel⟩, by decide +kernel⟩
set_option maxRecDepth 100000 in
theorem gk_X10_gain : zGood mt_X10_gain := ⟨by decide +kernel, zm3 (List.mem_of_getElem? (i := 125) rfl), by decide +kernel, by decide +kernel, zm1 (List.mem_of_getElem? (i := 1) rfl), ⟨by decide +kernel, by decide +kernel⟩, by decide +kernel⟩
set_option maxRecDepth 100000 in
theorem gk_X10_line : zGood mt_X10_line := ⟨by decide +kernel, zm3 (List.mem_of_getElem? (i := 133) rfl), by decide +kernel, by decide +kernel, zm1 (List.mem_of_getElem? (i := 1) rfl), ⟨by decide +kernel, by decide +kernel⟩, by decide +kernel⟩
set_option maxRecDepth 100000 in
theorem gk_X10_trial : zGood mt_X10_trial := ⟨by decide +kernel, zm3 (List.mem_of_getElem? (i := 146) rfl), by decide +kernel, by decide +kernel, zm1 (List.mem_of_getElem? (i := 1) rfl), ⟨by decide +kernel, by decide +kernel⟩, by decide +kernel⟩
set_option maxRecDepth 100000 in
theorem gk_X10_sorts : zGood mt_X10_sorts := ⟨by decide +kernel, zm3 (List.mem_of_getElem? (i := 156) rfl), by decide +kernel, by decide +kernel, zm1 (List.mem_of_getElem? (i := 1) rfl), ⟨by decide +kernel, by decide +kernel⟩, by decide +kernel⟩
set_option maxRecDepth 100000 in
theorem gk_X10_budget : zGood mt_X10_budget := ⟨by decide +kernel, zm3 (List.mem_of_getElem? (i := 160) rfl), by decide +kernel, by decide +kernel, zm1 (List.mem_of_getElem? (i := 1) rfl), ⟨by decide +kernel, by decide +kernel⟩, by decide +kernel⟩
set_option maxRecDepth 100000 in
theorem gk_X10_left : zGood mt_X10_left := ⟨by decide +kernel, zm3 (List.mem_of_getElem? (i := 164) rfl), by decide +kernel, by decide +kernel, zm1 (List.mem_of_getElem? (i := 1) rfl), ⟨by decide +kernel, by decide +kernel⟩, by decide +kernel⟩
set_option maxRecDepth 100000 in
theorem gk_X10_extreme : zGood mt_X10_extreme := ⟨by decide +kernel, zm3 (List.mem_of_getElem? (i := 168) rfl), by decide +kernel, by decide +kernel, zm1 (List.mem_of_getElem? (i := 1) rfl), ⟨by decide +kernel, by decide +kernel⟩, by decide +kernel⟩
set_option maxRecDepth 100000 in
theorem gk_X10_meet : zGood mt_X10_meet := ⟨by decide +kernel, zm3 (List.mem_of_getElem? (i := 172) rfl), by decide +kernel, by decide +kernel, zm1 (List.mem_of_getElem? (i := 1) rfl), ⟨by decide +kernel, by decide +kernel⟩, by decide +kernel⟩
set_option maxRecDepth 100000 in
theorem gk_X10_feed : zGood mt_X10_feed := ⟨by decide +kernel, zm3 (List.mem_of_getElem? (i := 180) rfl), by decide +kernel, by decide +kernel, zm1 (List.mem_of_getElem? (i := 1) rfl), ⟨by decide +kernel, by decide +kernel⟩, by decide +kernel⟩
set_option maxRecDepth 100000 in
theorem gk_X10_clear : zGood mt_X10_clear := ⟨by decide +kernel, zm3 (List.mem_of_getElem? (i := 188) rfl), by decide +kernel, by decide +kernel, zm1 (List.mem_of_getElem? (i := 1) rfl), ⟨by decide +kernel, by decide +kernel⟩, by decide +kernel⟩
set_option maxRecDepth 100000 in
theorem gk_X10_read : zGood mt_X10_read := ⟨by decide +kernel, zm3 (List.mem_of_getElem? (i := 192) rfl), by decide +kernel, by decide +kernel, zm1 (List.mem_of_getElem? (i := 1) rfl), ⟨by decide +kernel, by decide +kernel⟩, by decide +kernel⟩
set_option maxRecDepth 100000 in
theorem gk_X10_spell : zGood mt_X10_spell := ⟨by decide +kernel, zm4 (List.mem_of_getElem? (i := 33) rfl), by decide +kernel, by decide +kernel, zm1 (List.mem_of_getElem? (i := 1) rfl), ⟨by decide +kernel, by decide +kernel⟩, by decide +kernel⟩
set_option maxRecDepth 100000 in
theorem gk_X10_paper : zGood mt_X10_paper := ⟨by decide +kernel, zm4 (List.mem_of_getElem? (i := 55) rfl), by decide +kernel, by decide +kernel, zm1 (List.mem_of_getElem? (i := 1) rfl), ⟨by decide +kernel, by decide +kernel⟩, by decide +kernel⟩
set_option maxRecDepth 100000 in
theorem gk_X10_told : zGood mt_X10_told := ⟨by decide +kernel, zm4 (List.mem_of_getElem? (i := 59) rfl), by decide +kernel, by decide +kernel, zm1 (List.mem_of_getElem? (i := 1) rfl), ⟨by decide +kernel, by decide +kernel⟩, by decide +kernel⟩
set_option maxRecDepth 100000 in
theorem gk_X10_list : zGood mt_X10_list := ⟨by decide +kernel, zm4 (List.mem_of_getElem? (i := 67) rfl), by decide +kernel, by decide +kernel, zm1 (List.mem_of_getElem? (i := 1) rfl), ⟨by decide +kernel, by decide +kernel⟩, by decide +kernel⟩
set_option maxRecDepth 100000 in
theorem gk_X10_set : zGood mt_X10_set := ⟨by decide +kernel, zm4 (List.mem_of_getElem? (i := 78) rfl), by decide +kernel, by decide +kernel, zm1 (List.mem_of_getElem? (i := 1) rfl), ⟨by decide +kernel, by decide +kernel⟩, by decide +kernel⟩
set_option maxRecDepth 100000 in
theorem gk_X10_get : zGood mt_X10_get := ⟨by decide +kernel, zm4 (List.mem_of_getElem? (i := 94) rfl), by decide +kernel, by decide +kernel, zm1 (List.mem_of_getElem? (i := 1) rfl), ⟨by decide +kernel, by decide +kernel⟩, by decide +kernel⟩
set_option maxRecDepth 100000 in
theorem gk_X10_lay : zGood mt_X10_lay := ⟨by decide +kernel, zm4 (List.mem_of_getElem? (i := 102) rfl), by decide +kernel, by decide +kernel, zm1 (List.mem_of_getElem? (i := 1) rfl), ⟨by decide +kernel, by decide +kernel⟩, by decide +kernel⟩
set_option maxRecDepth 100000 in
theorem gk_X10_judge : zGood mt_X10_judge := ⟨by decide +kernel, zm4 (List.mem_of_getElem? (i := 106) rfl), by decide +kernel, by decide +kernel, zm1 (List.mem_of_getElem? (i := 1) rfl), ⟨by decide +kernel, by decide +kernel⟩, by decide +kernel⟩
set_option maxRecDepth 100000 in
theorem gk_X10_image : zGood mt_X10_image := ⟨by decide +kernel, zm4 (List.mem_of_getElem? (i := 110) rfl), by decide +kernel, by decide +kernel, zm1 (List.mem_of_getElem? (i := 1) rfl), ⟨by decide +kernel, by decide +kernel⟩, by decide +kernel⟩
set_option maxRecDepth 100000 in
theorem gk_X10_undo : zGood mt_X10_undo := ⟨by decide +kernel, zm4 (List.mem_of_getElem? (i := 143) rfl), by decide +kernel, by decide +kernel, zm1 (List.mem_of_getElem? (i := 1) rfl), ⟨by decide +kernel, by decide +kernel⟩, by decide +kernel⟩
set_option maxRecDepth 100000 in
theorem gk_X10_isCurrency : zGood mt_X10_isCurrency := ⟨by decide +kernel, zm2 (List.mem_of_getElem? (i := 81) rfl), by decide +kernel, by decide +kernel, zm1 (List.mem_of_getElem? (i := 1) rfl), ⟨by decide +kernel, by decide +kernel⟩, by decide +kernel⟩
set_option maxRecDepth 100000 in
theorem gk_X10_isSort : zGood mt_X10_isSort := ⟨by decide +kernel, zm2 (List.mem_of_getElem? (i := 84) rfl), by decide +kernel, by decide +kernel, zm1 (List.mem_of_getElem? (i := 1) rfl), ⟨by decide +kernel, by decide +kernel⟩, by decide +kernel⟩
set_option maxRecDepth 100000 in
theorem gk_X10_isDay : zGood mt_X10_isDay := ⟨by decide +kernel, zm3 (List.mem_of_getElem? (i := 0) rfl), by decide +kernel, by decide +kernel, zm1 (List.mem_of_getElem? (i := 1) rfl), ⟨by decide +kernel, by decide +kernel⟩, by decide +kernel⟩
set_option maxRecDepth 100000 in
theorem gk_X10_isPeriod : zGood mt_X10_isPeriod := ⟨by decide +kernel, zm3 (List.mem_of_getElem? (i := 17) rfl), by decide +kernel, by decide +kernel, zm1 (List.mem_of_getElem? (i := 1) rfl), ⟨by decide +kernel, by decide +kernel⟩, by decide +kernel⟩
set_option maxRecDepth 100000 in
theorem gk_X10_isRatePart : zGood mt_X10_isRatePart := ⟨by decide +kernel, zm3 (List.mem_of_getElem? (i := 48) rfl), by decide +kernel, by decide +kernel, zm1 (List.mem_of_getElem? (i := 1) rfl), ⟨by decide +kernel, by decide +kernel⟩, by decide +kernel⟩
set_option maxRecDepth 100000 in
theorem gk_X10_isList : zGood mt_X10_isList := ⟨by decide +kernel, zm4 (List.mem_of_getElem? (i := 70) rfl), by decide +kernel, by decide +kernel, zm1 (List.mem_of_getElem? (i := 1) rfl), ⟨by decide +kernel, by decide +kernel⟩, by decide +kernel⟩
set_option maxRecDepth 100000 in
theorem gk_X10_isOneOfTwo : zGood mt_X10_isOneOfTwo := ⟨by decide +kernel, zm2 (List.mem_of_getElem? (i := 228) rfl), by decide +kernel, by decide +kernel, zm1 (List.mem_of_getElem? (i := 1) rfl), ⟨by decide +kernel, by decide +kernel⟩, by decide +kernel⟩
set_option maxRecDepth 100000 in
theorem gk_X10_firstDay : zGood mt_X10_firstDay := ⟨by decide +kernel, zm3 (List.mem_of_getElem? (i := 20) rfl), by decide +kernel, by decide +kernel, zm1 (List.mem_of_getElem? (i := 1) rfl), ⟨by decide +kernel, by decide +kernel⟩, by decide +kernel⟩
set_option maxRecDepth 100000 in
theorem gk_X10_lastDay : zGood mt_X10_lastDay := ⟨by decide +kernel, zm3 (List.mem_of_getElem? (i := 23) rfl), by decide +kernel, by decide +kernel, zm1 (List.mem_of_getElem? (i := 1) rfl), ⟨by decide +kernel, by decide +kernel⟩, by decide +kernel⟩
set_option maxRecDepth 100000 in
theorem gk_X10_bitsOfDouble : zGood mt_X10_bitsOfDouble := ⟨by decide +kernel, zm3 (List.mem_of_getElem? (i := 113) rfl), by decide +kernel, by decide +kernel, zm1 (List.mem_of_getElem? (i := 1) rfl), ⟨by decide +kernel, by decide +kernel⟩, by decide +kernel⟩
set_option maxRecDepth 100000 in
theorem gk_X10_bitsOfFloat : zGood mt_X10_bitsOfFloat := ⟨by decide +kernel, zm3 (List.mem_of_getElem? (i := 121) rfl), by decide +kernel, by decide +kernel, zm1 (List.mem_of_getElem? (i := 1) rfl), ⟨by decide +kernel, by decide +kernel⟩, by decide +kernel⟩
set_option maxRecDepth 100000 in
theorem gk_X10_bitsInForm : zGood mt_X10_bitsInForm := ⟨by decide +kernel, zm3 (List.mem_of_getElem? (i := 116) rfl), by decide +kernel, by decide +kernel, zm1 (List.mem_of_getElem? (i := 1) rfl), ⟨by decide +kernel, by decide +kernel⟩, by decide +kernel⟩
set_option maxRecDepth 100000 in
theorem gk_X11_in : zGood mt_X11_in := ⟨by decide +kernel, zm4 (List.mem_of_getElem? (i := 230) rfl), by decide +kernel, by decide +kernel, zm1 (List.mem_of_getElem? (i := 12) rfl), ⟨by decide +kernel, by decide +kernel⟩, by decide +kernel⟩
set_option maxRecDepth 100000 in
theorem gk_X11_init : zGood mt_X11_init := ⟨by decide +kernel, zm4 (List.mem_of_getElem? (i := 148) rfl), by decide +kernel, by decide +kernel, zm1 (List.mem_of_getElem? (i := 12) rfl), ⟨by decide +kernel, by decide +kernel⟩, by decide +kernel⟩
set_option maxRecDepth 100000 in
theorem gk_X11_isAccount : zGood mt_X11_isAccount := ⟨by decide +kernel, zm4 (List.mem_of_getElem? (i := 227) rfl), by decide +kernel, by decide +kernel, zm1 (List.mem_of_getElem? (i := 12) rfl), ⟨by decide +kernel, by decide +kernel⟩, by decide +kernel⟩
set_option maxRecDepth 100000 in
theorem gk_X11_isCurrency : zGood mt_X11_isCurrency := ⟨by decide +kernel, zm4 (List.mem_of_getElem? (i := 233) rfl), by decide +kernel, by decide +kernel, zm1 (List.mem_of_getElem? (i := 12) rfl), ⟨by decide +kernel, by decide +kernel⟩, by decide +kernel⟩
set_option maxRecDepth 100000 in
theorem gk_X11_isDay : zGood mt_X11_isDay := ⟨by decide +kernel, zm5 (List.mem_of_getElem? (i := 20) rfl), by decide +kernel, by decide +kernel, zm1 (List.mem_of_getElem? (i := 12) rfl), ⟨by decide +kernel, by decide +kernel⟩, by decide +kernel⟩
set_option maxRecDepth 100000 in
theorem gk_X11_isJournal : zGood mt_X11_isJournal := ⟨by decide +kernel, zm5 (List.mem_of_getElem? (i := 98) rfl), by decide +kernel, by decide +kernel, zm1 (List.mem_of_getElem? (i := 12) rfl), ⟨by decide +kernel, by decide +kernel⟩, by decide +kernel⟩
set_option maxRecDepth 100000 in
theorem gk_X11_addAccount : zGood mt_X11_addAccount := ⟨by decide +kernel, zm4 (List.mem_of_getElem? (i := 153) rfl), by decide +kernel, by decide +kernel, zm1 (List.mem_of_getElem? (i := 12) rfl), ⟨by decide +kernel, by decide +kernel⟩, by decide +kernel⟩
set_option maxRecDepth 100000 in
theorem gk_X11_account : zGood mt_X11_account := ⟨by decide +kernel, zm4 (List.mem_of_getElem? (i := 223) rfl), by decide +kernel, by decide +kernel, zm1 (List.mem_of_getElem? (i := 12) rfl), ⟨by decide +kernel, by decide +kernel⟩, by decide +kernel⟩
set_option maxRecDepth 100000 in
theorem gk_X11_isOf : zGood mt_X11_isOf := ⟨by decide +kernel, zm5 (List.mem_of_getElem? (i := 1) rfl), by decide +kernel, by decide +kernel, zm1 (List.mem_of_getElem? (i := 12) rfl), ⟨by decide +kernel, by decide +kernel⟩, by decide +kernel⟩
set_option maxRecDepth 100000 in
theorem gk_X11_above : zGood mt_X11_above := ⟨by decide +kernel, zm5 (List.mem_of_getElem? (i := 5) rfl), by decide +kernel, by decide +kernel, zm1 (List.mem_of_getElem? (i := 12) rfl), ⟨by decide +kernel, by decide +kernel⟩, by decide +kernel⟩
set_option maxRecDepth 100000 in
theorem gk_X11_of : zGood mt_X11_of := ⟨by decide +kernel, zm4 (List.mem_of_getElem? (i := 237) rfl), by decide +kernel, by decide +kernel, zm1 (List.mem_of_getElem? (i := 12) rfl), ⟨by decide +kernel, by decide +kernel⟩, by decide +kernel⟩
set_option maxRecDepth 100000 in
theorem gk_X11_balanceBy : zGood mt_X11_balanceBy := ⟨by decide +kernel, zm5 (List.mem_of_getElem? (i := 24) rfl), by decide +kernel, by decide +kernel, zm1 (List.mem_of_getElem? (i := 12) rfl), ⟨by decide +kernel, by decide +kernel⟩, by decide +kernel⟩
set_option maxRecDepth 100000 in
theorem gk_X11_branchBy : zGood mt_X11_branchBy := ⟨by decide +kernel, zm5 (List.mem_of_getElem? (i := 32) rfl), by decide +kernel, by decide +kernel, zm1 (List.mem_of_getElem? (i := 12) rfl), ⟨by decide +kernel, by decide +kernel⟩, by decide +kernel⟩
set_option maxRecDepth 100000 in
theorem gk_X11_balance : zGood mt_X11_balance := ⟨by decide +kernel, zm5 (List.mem_of_getElem? (i := 17) rfl), by decide +kernel, by decide +kernel, zm1 (List.mem_of_getElem? (i := 12) rfl), ⟨by decide +kernel, by decide +kernel⟩, by decide +kernel⟩
set_option maxRecDepth 100000 in
theorem gk_X11_branch : zGood mt_X11_branch := ⟨by decide +kernel, zm5 (List.mem_of_getElem? (i := 28) rfl), by decide +kernel, by decide +kernel, zm1 (List.mem_of_getElem? (i := 12) rfl), ⟨by decide +kernel, by decide +kernel⟩, by decide +kernel⟩
set_option maxRecDepth 100000 in
theorem gk_X11_limits : zGood mt_X11_limits := ⟨by decide +kernel, zm5 (List.mem_of_getElem? (i := 36) rfl), by decide +kernel, by decide +kernel, zm1 (List.mem_of_getElem? (i := 12) rfl), ⟨by decide +kernel, by decide +kernel⟩, by decide +kernel⟩
set_option maxRecDepth 100000 in
theorem gk_X11_days : zGood mt_X11_days := ⟨by decide +kernel, zm5 (List.mem_of_getElem? (i := 40) rfl), by decide +kernel, by decide +kernel, zm1 (List.mem_of_getElem? (i := 12) rfl), ⟨by decide +kernel, by decide +kernel⟩, by decide +kernel⟩
set_option maxRecDepth 100000 in
theorem gk_X11_postings : zGood mt_X11_postings := ⟨by decide +kernel, zm5 (List.mem_of_getElem? (i := 13) rfl), by decide +kernel, by decide +kernel, zm1 (List.mem_of_getElem? (i := 12) rfl), ⟨by decide +kernel, by decide +kernel⟩, by decide +kernel⟩
set_option maxRecDepth 100000 in
theorem gk_X11_begin : zGood mt_X11_begin := ⟨by decide +kernel, zm5 (List.mem_of_getElem? (i := 44) rfl), by decide +kernel, by decide +kernel, zm1 (List.mem_of_getElem? (i := 12) rfl), ⟨by decide +kernel, by decide +kernel⟩, by decide +kernel⟩
set_option maxRecDepth 100000 in
theorem gk_X11_layPosting : zGood mt_X11_layPosting := ⟨by decide +kernel, zm5 (List.mem_of_getElem? (i := 54) rfl), by decide +kernel, by decide +kernel, zm1 (List.mem_of_getElem? (i := 12) rfl), ⟨by decide +kernel, by decide +kernel⟩, by decide +kernel⟩
set_option maxRecDepth 100000 in
theorem gk_X11_posting : zGood mt_X11_posting := ⟨by decide +kernel, zm5 (List.mem_of_getElem? (i := 48) rfl), by decide +kernel, by decide +kernel, zm1 (List.mem_of_getElem? (i := 12) rfl), ⟨by decide +kernel, by decide +kernel⟩, by decide +kernel⟩
set_option maxRecDepth 100000 in
theorem gk_X11_cancel : zGood mt_X11_cancel := ⟨by decide +kernel, zm5 (List.mem_of_getElem? (i := 58) rfl), by decide +kernel, by decide +kernel, zm1 (List.mem_of_getElem? (i := 12) rfl), ⟨by decide +kernel, by decide +kernel⟩, by decide +kernel⟩
set_option maxRecDepth 100000 in
theorem gk_X11_addCause : zGood mt_X11_addCause := ⟨by decide +kernel, zm5 (List.mem_of_getElem? (i := 74) rfl), by decide +kernel, by decide +kernel, zm1 (List.mem_of_getElem? (i := 12) rfl), ⟨by decide +kernel, by decide +kernel⟩, by decide +kernel⟩
set_option maxRecDepth 100000 in
theorem gk_X11_causedAs : zGood mt_X11_causedAs := ⟨by decide +kernel, zm5 (List.mem_of_getElem? (i := 70) rfl), by decide +kernel, by decide +kernel, zm1 (List.mem_of_getElem? (i := 12) rfl), ⟨by decide +kernel, by decide +kernel⟩, by decide +kernel⟩
set_option maxRecDepth 100000 in
theorem gk_X11_isUnbalanced : zGood mt_X11_isUnbalanced := ⟨by decide +kernel, zm5 (List.mem_of_getElem? (i := 78) rfl), by decide +kernel, by decide +kernel, zm1 (List.mem_of_getElem? (i := 12) rfl), ⟨by decide +kernel, by decide +kernel⟩, by decide +kernel⟩
set_option maxRecDepth 100000 in
theorem gk_X11_behind : zGood mt_X11_behind := ⟨by decide +kernel, zm5 (List.mem_of_getElem? (i := 86) rfl), by decide +kernel, by decide +kernel, zm1 (List.mem_of_getElem? (i := 12) rfl), ⟨by decide +kernel, by decide +kernel⟩, by decide +kernel⟩
set_option maxRecDepth 100000 in
theorem gk_X11_isBeyond : zGood mt_X11_isBeyond := ⟨by decide +kernel, zm5 (List.mem_of_getElem? (i := 82) rfl), by decide +kernel, by decide +kernel, zm1 (List.mem_of_getElem? (i := 12) rfl), ⟨by decide +kernel, by decide +kernel⟩, by decide +kernel⟩
set_option maxRecDepth 100000 in
theorem gk_X11_isHindered : zGood mt_X11_isHindered := ⟨by decide +kernel, zm5 (List.mem_of_getElem? (i := 66) rfl), by decide +kernel, by decide +kernel, zm1 (List.mem_of_getElem? (i := 12) rfl), ⟨by decide +kernel, by decide +kernel⟩, by decide +kernel⟩
set_option maxRecDepth 100000 in
theorem gk_X11_posted : zGood mt_X11_posted := ⟨by decide +kernel, zm5 (List.mem_of_getElem? (i := 90) rfl), by decide +kernel, by decide +kernel, zm1 (List.mem_of_getElem? (i := 12) rfl), ⟨by decide +kernel, by decide +kernel⟩, by decide +kernel⟩
set_option maxRecDepth 100000 in
theorem gk_X11_post : zGood mt_X11_post := ⟨by decide +kernel, zm5 (List.mem_of_getElem? (i := 62) rfl), by decide +kernel, by decide +kernel, zm1 (List.mem_of_getElem? (i := 12) rfl), ⟨by decide +kernel, by decide +kernel⟩, by decide +kernel⟩
set_option maxRecDepth 100000 in
theorem gk_X11_mayBeReversed : zGood mt_X11_mayBeReversed := ⟨by decide +kernel, zm5 (List.mem_of_getElem? (i := 102) rfl), by decide +kernel, by decide +kernel, zm1 (List.mem_of_getElem? (i := 12) rfl), ⟨by decide +kernel, by decide +kernel⟩, by decide +kernel⟩
set_option maxRecDepth 100000 in
theorem gk_X11_reversed : zGood mt_X11_reversed := ⟨by decide +kernel, zm5 (List.mem_of_getElem? (i := 106) rfl), by decide +kernel, by decide +kernel, zm1 (List.mem_of_getElem? (i := 12) rfl), ⟨by decide +kernel, by decide +kernel⟩, by decide +kernel⟩
set_option maxRecDepth 100000 in
theorem gk_X11_reverse : zGood mt_X11_reverse := ⟨by decide +kernel, zm5 (List.mem_of_getElem? (i := 94) rfl), by decide +kernel, by decide +kernel, zm1 (List.mem_of_getElem? (i := 12) rfl), ⟨by decide +kernel, by decide +kernel⟩, by decide +kernel⟩
set_option maxRecDepth 100000 in
theorem gk_X11_journal : zGood mt_X11_journal := ⟨by decide +kernel, zm5 (List.mem_of_getElem? (i := 110) rfl), by decide +kernel, by decide +kernel, zm1 (List.mem_of_getElem? (i := 12) rfl), ⟨by decide +kernel, by decide +kernel⟩, by decide +kernel⟩
set_option maxRecDepth 100000 in
theorem gk_X11_part : zGood mt_X11_part := ⟨by decide +kernel, zm5 (List.mem_of_getElem? (i := 114) rfl), by decide +kernel, by decide +kernel, zm1 (List.mem_of_getElem? (i := 12) rfl), ⟨by decide +kernel, by decide +kernel⟩, by decide +kernel⟩
set_option maxRecDepth 100000 in
theorem gk_X11_cause : zGood mt_X11_cause := ⟨by decide +kernel, zm5 (List.mem_of_getElem? (i := 118) rfl), by decide +kernel, by decide +kernel, zm1 (List.mem_of_getElem? (i := 12) rfl), ⟨by decide +kernel, by decide +kernel⟩, by decide +kernel⟩
set_option maxRecDepth 100000 in
theorem gk_X11_sealOf : zGood mt_X11_sealOf := ⟨by decide +kernel, zm5 (List.mem_of_getElem? (i := 126) rfl), by decide +kernel, by decide +kernel, zm1 (List.mem_of_getElem? (i := 12) rfl), ⟨by decide +kernel, by decide +kernel⟩, by decide +kernel⟩
set_option maxRecDepth 100000 in
theorem gk_X11_close : zGood mt_X11_close := ⟨by decide +kernel, zm5 (List.mem_of_getElem? (i := 122) rfl), by decide +kernel, by decide +kernel, zm1 (List.mem_of_getElem? (i := 12) rfl), ⟨by decide +kernel, by decide +kernel⟩, by decide +kernel⟩
set_option maxRecDepth 100000 in
theorem gk_X11_seal : zGood mt_X11_seal := ⟨by decide +kernel, zm5 (List.mem_of_getElem? (i := 132) rfl), by decide +kernel, by decide +kernel, zm1 (List.mem_of_getElem? (i := 12) rfl), ⟨by decide +kernel, by decide +kernel⟩, by decide +kernel⟩
set_option maxRecDepth 100000 in
theorem gk_X11_audit : zGood mt_X11_audit := ⟨by decide +kernel, zm5 (List.mem_of_getElem? (i := 136) rfl), by decide +kernel, by decide +kernel, zm1 (List.mem_of_getElem? (i := 12) rfl), ⟨by decide +kernel, by decide +kernel⟩, by decide +kernel⟩
set_option maxRecDepth 100000 in
theorem gk_X11_rateAt : zGood mt_X11_rateAt := ⟨by decide +kernel, zm5 (List.mem_of_getElem? (i := 143) rfl), by decide +kernel, by decide +kernel, zm1 (List.mem_of_getElem? (i := 12) rfl), ⟨by decide +kernel, by decide +kernel⟩, by decide +kernel⟩
set_option maxRecDepth 100000 in
theorem gk_X11_rate : zGood mt_X11_rate := ⟨by decide +kernel, zm5 (List.mem_of_getElem? (i := 140) rfl), by decide +kernel, by decide +kernel, zm1 (List.mem_of_getElem? (i := 12) rfl), ⟨by decide +kernel, by decide +kernel⟩, by decide +kernel⟩
set_option maxRecDepth 100000 in
theorem gk_X11_fraction : zGood mt_X11_fraction := ⟨by decide +kernel, zm5 (List.mem_of_getElem? (i := 155) rfl), by decide +kernel, by decide +kernel, zm1 (List.mem_of_getElem? (i := 12) rfl), ⟨by decide +kernel, by decide +kernel⟩, by decide +kernel⟩
set_option maxRecDepth 100000 in
theorem gk_X11_rateBy : zGood mt_X11_rateBy := ⟨by decide +kernel, zm5 (List.mem_of_getElem? (i := 151) rfl), by decide +kernel, by decide +kernel, zm1 (List.mem_of_getElem? (i := 12) rfl), ⟨by decide +kernel, by decide +kernel⟩, by decide +kernel⟩
set_option maxRecDepth 100000 in
theorem gk_X11_rateOf : zGood mt_X11_rateOf := ⟨by decide +kernel, zm5 (List.mem_of_getElem? (i := 147) rfl), by decide +kernel, by decide +kernel, zm1 (List.mem_of_getElem? (i := 12) rfl), ⟨by decide +kernel, by decide +kernel⟩, by decide +kernel⟩
set_option maxRecDepth 100000 in
theorem gk_X11_valueBy : zGood mt_X11_valueBy := ⟨by decide +kernel, zm5 (List.mem_of_getElem? (i := 163) rfl), by decide +kernel, by decide +kernel, zm1 (List.mem_of_getElem? (i := 12) rfl), ⟨by decide +kernel, by decide +kernel⟩, by decide +kernel⟩
set_option maxRecDepth 100000 in
theorem gk_X11_value : zGood mt_X11_value := ⟨by decide +kernel, zm5 (List.mem_of_getElem? (i := 159) rfl), by decide +kernel, by decide +kernel, zm1 (List.mem_of_getElem? (i := 12) rfl), ⟨by decide +kernel, by decide +kernel⟩, by decide +kernel⟩
set_option maxRecDepth 100000 in
theorem gk_X11_real : zGood mt_X11_real := ⟨by decide +kernel, zm5 (List.mem_of_getElem? (i := 167) rfl), by decide +kernel, by decide +kernel, zm1 (List.mem_of_getElem? (i := 12) rfl), ⟨by decide +kernel, by decide +kernel⟩, by decide +kernel⟩
set_option maxRecDepth 100000 in
theorem gk_X11_gain : zGood mt_X11_gain := ⟨by decide +kernel, zm5 (List.mem_of_getElem? (i := 191) rfl), by decide +kernel, by decide +kernel, zm1 (List.mem_of_getElem? (i := 12) rfl), ⟨by decide +kernel, by decide +kernel⟩, by decide +kernel⟩
set_option maxRecDepth 100000 in
theorem gk_X11_linesOf : zGood mt_X11_linesOf := ⟨by decide +kernel, zm5 (List.mem_of_getElem? (i := 9) rfl), by decide +kernel, by decide +kernel, zm1 (List.mem_of_getElem? (i := 12) rfl), ⟨by decide +kernel, by decide +kernel⟩, by decide +kernel⟩
set_option maxRecDepth 100000 in
theorem gk_X11_journalOf : zGood mt_X11_journalOf := ⟨by decide +kernel, zm5 (List.mem_of_getElem? (i := 199) rfl), by decide +kernel, by decide +kernel, zm1 (List.mem_of_getElem? (i := 12) rfl), ⟨by decide +kernel, by decide +kernel⟩, by decide +kernel⟩
set_option maxRecDepth 100000 in
theorem gk_X11_line : zGood mt_X11_line := ⟨by decide +kernel, zm5 (List.mem_of_getElem? (i := 195) rfl), by decide +kernel, by decide +kernel, zm1 (List.mem_of_getElem? (i := 12) rfl), ⟨by decide +kernel, by decide +kernel⟩, by decide +kernel⟩
set_option maxRecDepth 100000 in
theorem gk_X11_trial : zGood mt_X11_trial := ⟨by decide +kernel, zm5 (List.mem_of_getElem? (i := 203) rfl), by decide +kernel, by decide +kernel, zm1 (List.mem_of_getElem? (i := 12) rfl), ⟨by decide +kernel, by decide +kernel⟩, by decide +kernel⟩
set_option maxRecDepth 100000 in
theorem gk_X11_sorts : zGood mt_X11_sorts := ⟨by decide +kernel, zm5 (List.mem_of_getElem? (i := 207) rfl), by decide +kernel, by decide +kernel, zm1 (List.mem_of_getElem? (i := 12) rfl), ⟨by decide +kernel, by decide +kernel⟩, by decide +kernel⟩
set_option maxRecDepth 100000 in
theorem gk_X11_budget : zGood mt_X11_budget := ⟨by decide +kernel, zm5 (List.mem_of_getElem? (i := 211) rfl), by decide +kernel, by decide +kernel, zm1 (List.mem_of_getElem? (i := 12) rfl), ⟨by decide +kernel, by decide +kernel⟩, by decide +kernel⟩
set_option maxRecDepth 100000 in
theorem gk_X11_left : zGood mt_X11_left := ⟨by decide +kernel, zm5 (List.mem_of_getElem? (i := 215) rfl), by decide +kernel, by decide +kernel, zm1 (List.mem_of_getElem? (i := 12) rfl), ⟨by decide +kernel, by decide +kernel⟩, by decide +kernel⟩
set_option maxRecDepth 100000 in
theorem gk_X11_extreme : zGood mt_X11_extreme := ⟨by decide +kernel, zm5 (List.mem_of_getElem? (i := 219) rfl), by decide +kernel, by decide +kernel, zm1 (List.mem_of_getElem? (i := 12) rfl), ⟨by decide +kernel, by decide +kernel⟩, by decide +kernel⟩
set_option maxRecDepth 100000 in
theorem gk_X11_meet : zGood mt_X11_meet := ⟨by decide +kernel, zm5 (List.mem_of_getElem? (i := 223) rfl), by decide +kernel, by decide +kernel, zm1 (List.mem_of_getElem? (i := 12) rfl), ⟨by decide +kernel, by decide +kernel⟩, by decide +kernel⟩
set_option maxRecDepth 100000 in
theorem gk_X11_feed : zGood mt_X11_feed := ⟨by decide +kernel, zm5 (List.mem_of_getElem? (i := 227) rfl), by decide +kernel, by decide +kernel, zm1 (List.mem_of_getElem? (i := 12) rfl), ⟨by decide +kernel, by decide +kernel⟩, by decide +kernel⟩
set_option maxRecDepth 100000 in
theorem gk_X11_clear : zGood mt_X11_clear := ⟨by decide +kernel, zm5 (List.mem_of_getElem? (i := 231) rfl), by decide +kernel, by decide +kernel, zm1 (List.mem_of_getElem? (i := 12) rfl), ⟨by decide +kernel, by decide +kernel⟩, by decide +kernel⟩
set_option maxRecDepth 100000 in
theorem gk_X11_here : zGood mt_X11_here := ⟨by decide +kernel, zm6 (List.mem_of_getElem? (i := 11) rfl), by decide +kernel, by decide +kernel, zm1 (List.mem_of_getElem? (i := 12) rfl), ⟨by decide +kernel, by decide +kernel⟩, by decide +kernel⟩
set_option maxRecDepth 100000 in
theorem gk_X11_wrong : zGood mt_X11_wrong := ⟨by decide +kernel, zm6 (List.mem_of_getElem? (i := 15) rfl), by decide +kernel, by decide +kernel, zm1 (List.mem_of_getElem? (i := 12) rfl), ⟨by decide +kernel, by decide +kernel⟩, by decide +kernel⟩
set_option maxRecDepth 100000 in
theorem gk_X11_expect : zGood mt_X11_expect := ⟨by decide +kernel, zm6 (List.mem_of_getElem? (i := 19) rfl), by decide +kernel, by decide +kernel, zm1 (List.mem_of_getElem? (i := 12) rfl), ⟨by decide +kernel, by decide +kernel⟩, by decide +kernel⟩
set_option maxRecDepth 100000 in
theorem gk_X11_figures : zGood mt_X11_figures := ⟨by decide +kernel, zm6 (List.mem_of_getElem? (i := 7) rfl), by decide +kernel, by decide +kernel, zm1 (List.mem_of_getElem? (i := 12) rfl), ⟨by decide +kernel, by decide +kernel⟩, by decide +kernel⟩
set_option maxRecDepth 100000 in
theorem gk_X11_readPart : zGood mt_X11_readPart := ⟨by decide +kernel, zm6 (List.mem_of_getElem? (i := 3) rfl), by decide +kernel, by decide +kernel, zm1 (List.mem_of_getElem? (i := 12) rfl), ⟨by decide +kernel, by decide +kernel⟩, by decide +kernel⟩
set_option maxRecDepth 100000 in
theorem gk_X11_readText : zGood mt_X11_readText := ⟨by decide +kernel, zm5 (List.mem_of_getElem? (i := 239) rfl), by decide +kernel, by decide +kernel, zm1 (List.mem_of_getElem? (i := 12) rfl), ⟨by decide +kernel, by decide +kernel⟩, by decide +kernel⟩
set_option maxRecDepth 100000 in
theorem gk_X11_doReverse : zGood mt_X11_doReverse := ⟨by decide +kernel, zm6 (List.mem_of_getElem? (i := 24) rfl), by decide +kernel, by decide +kernel, zm1 (List.mem_of_getElem? (i := 12) rfl), ⟨by decide +kernel, by decide +kernel⟩, by decide +kernel⟩
set_option maxRecDepth 100000 in
theorem gk_X11_read : zGood mt_X11_read := ⟨by decide +kernel, zm5 (List.mem_of_getElem? (i := 235) rfl), by decide +kernel, by decide +kernel, zm1 (List.mem_of_getElem? (i := 12) rfl), ⟨by decide +kernel, by decide +kernel⟩, by decide +kernel⟩
set_option maxRecDepth 100000 in
theorem gk_X11_put : zGood mt_X11_put := ⟨by decide +kernel, zm6 (List.mem_of_getElem? (i := 33) rfl), by decide +kernel, by decide +kernel, zm1 (List.mem_of_getElem? (i := 12) rfl), ⟨by decide +kernel, by decide +kernel⟩, by decide +kernel⟩
set_option maxRecDepth 100000 in
theorem gk_X11_putNumber : zGood mt_X11_putNumber := ⟨by decide +kernel, zm6 (List.mem_of_getElem? (i := 37) rfl), by decide +kernel, by decide +kernel, zm1 (List.mem_of_getElem? (i := 12) rfl), ⟨by decide +kernel, by decide +kernel⟩, by decide +kernel⟩
set_option maxRecDepth 100000 in
theorem gk_X11_spell : zGood mt_X11_spell := ⟨by decide +kernel, zm6 (List.mem_of_getElem? (i := 29) rfl), by decide +kernel, by decide +kernel, zm1 (List.mem_of_getElem? (i := 12) rfl), ⟨by decide +kernel, by decide +kernel⟩, by decide +kernel⟩
set_option maxRecDepth 100000 in
theorem gk_X11_paper : zGood mt_X11_paper := ⟨by decide +kernel, zm6 (List.mem_of_getElem? (i := 42) rfl), by decide +kernel, by decide +kernel, zm1 (List.mem_of_getElem? (i := 12) rfl), ⟨by decide +kernel, by decide +kernel⟩, by decide +kernel⟩
set_option maxRecDepth 100000 in
theorem gk_X11_told : zGood mt_X11_told := ⟨by decide +kernel, zm6 (List.mem_of_getElem? (i := 46) rfl), by decide +kernel, by decide +kernel, zm1 (List.mem_of_getElem? (i := 12) rfl), ⟨by decide +kernel, by decide +kernel⟩, by decide +kernel⟩
set_option maxRecDepth 100000 in
theorem gk_X11_isList : zGood mt_X11_isList := ⟨by decide +kernel, zm6 (List.mem_of_getElem? (i := 53) rfl), by decide +kernel, by decide +kernel, zm1 (List.mem_of_getElem? (i := 12) rfl), ⟨by decide +kernel, by decide +kernel⟩, by decide +kernel⟩
set_option maxRecDepth 100000 in
theorem gk_X11_list : zGood mt_X11_list := ⟨by decide +kernel, zm6 (List.mem_of_getElem? (i := 50) rfl), by decide +kernel, by decide +kernel, zm1 (List.mem_of_getElem? (i := 12) rfl), ⟨by decide +kernel, by decide +kernel⟩, by decide +kernel⟩
set_option maxRecDepth 100000 in
theorem gk_X11_set : zGood mt_X11_set := ⟨by decide +kernel, zm6 (List.mem_of_getElem? (i := 57) rfl), by decide +kernel, by decide +kernel, zm1 (List.mem_of_getElem? (i := 12) rfl), ⟨by decide +kernel, by decide +kernel⟩, by decide +kernel⟩
set_option maxRecDepth 100000 in
theorem gk_X11_get : zGood mt_X11_get := ⟨by decide +kernel, zm6 (List.mem_of_getElem? (i := 61) rfl), by decide +kernel, by decide +kernel, zm1 (List.mem_of_getElem? (i := 12) rfl), ⟨by decide +kernel, by decide +kernel⟩, by decide +kernel⟩
set_option maxRecDepth 100000 in
theorem gk_X11_lay : zGood mt_X11_lay := ⟨by decide +kernel, zm6 (List.mem_of_getElem? (i := 65) rfl), by decide +kernel, by decide +kernel, zm1 (List.mem_of_getElem? (i := 12) rfl), ⟨by decide +kernel, by decide +kernel⟩, by decide +kernel⟩
set_option maxRecDepth 100000 in
theorem gk_X11_judge : zGood mt_X11_judge := ⟨by decide +kernel, zm6 (List.mem_of_getElem? (i := 69) rfl), by decide +kernel, by decide +kernel, zm1 (List.mem_of_getElem? (i := 12) rfl), ⟨by decide +kernel, by decide +kernel⟩, by decide +kernel⟩
set_option maxRecDepth 100000 in
theorem gk_X11_copy : zGood mt_X11_copy := ⟨by decide +kernel, zm6 (List.mem_of_getElem? (i := 77) rfl), by decide +kernel, by decide +kernel, zm1 (List.mem_of_getElem? (i := 12) rfl), ⟨by decide +kernel, by decide +kernel⟩, by decide +kernel⟩
set_option maxRecDepth 100000 in
theorem gk_X11_image : zGood mt_X11_image := ⟨by decide +kernel, zm6 (List.mem_of_getElem? (i := 73) rfl), by decide +kernel, by decide +kernel, zm1 (List.mem_of_getElem? (i := 12) rfl), ⟨by decide +kernel, by decide +kernel⟩, by decide +kernel⟩
set_option maxRecDepth 100000 in
theorem gk_X11_undo : zGood mt_X11_undo := ⟨by decide +kernel, zm6 (List.mem_of_getElem? (i := 81) rfl), by decide +kernel, by decide +kernel, zm1 (List.mem_of_getElem? (i := 12) rfl), ⟨by decide +kernel, by decide +kernel⟩, by decide +kernel⟩
set_option maxRecDepth 100000 in
theorem gk_Jxe99ae_isNaN_b9ae7 : zGood mt_Jxe99ae_isNaN_b9ae7 := ⟨by decide +kernel, zm5 (List.mem_of_getElem? (i := 173) rfl), by decide +kernel, by decide +kernel, zm1 (List.mem_of_getElem? (i := 15) rfl), ⟨by decide +kernel, by decide +kernel⟩, by decide +kernel⟩
set_option maxRecDepth 100000 in
theorem gk_Jxe99ae_doubleToLongBits_ccdee : zGood mt_Jxe99ae_doubleToLongBits_ccdee := ⟨by decide +kernel, zm5 (List.mem_of_getElem? (i := 170) rfl), by decide +kernel, by decide +kernel, zm1 (List.mem_of_getElem? (i := 15) rfl), ⟨by decide +kernel, by decide +kernel⟩, by decide +kernel⟩
set_option maxRecDepth 100000 in
theorem gk_Jxf58ca_isNaN_12338 : zGood mt_Jxf58ca_isNaN_12338 := ⟨by decide +kernel, zm5 (List.mem_of_getElem? (i := 183) rfl), by decide +kernel, by decide +kernel, zm1 (List.mem_of_getElem? (i := 16) rfl), ⟨by decide +kernel, by decide +kernel⟩, by decide +kernel⟩
set_option maxRecDepth 100000 in
theorem gk_Jxf58ca_floatToIntBits_5c35a : zGood mt_Jxf58ca_floatToIntBits_5c35a := ⟨by decide +kernel, zm5 (List.mem_of_getElem? (i := 180) rfl), by decide +kernel, by decide +kernel, zm1 (List.mem_of_getElem? (i := 16) rfl), ⟨by decide +kernel, by decide +kernel⟩, by decide +kernel⟩
set_option maxRecDepth 100000 in
theorem gk_J9_abs_0f7a4 : zGood mt_J9_abs_0f7a4 := ⟨by decide +kernel, zm4 (List.mem_of_getElem? (i := 48) rfl), by decide +kernel, by decide +kernel, zm1 (List.mem_of_getElem? (i := 14) rfl), ⟨by decide +kernel, by decide +kernel⟩, by decide +kernel⟩
set_option maxRecDepth 100000 in
theorem gk_J9_abs_067f4 : zGood mt_J9_abs_067f4 := ⟨by decide +kernel, zm3 (List.mem_of_getElem? (i := 77) rfl), by decide +kernel, by decide +kernel, zm1 (List.mem_of_getElem? (i := 14) rfl), ⟨by decide +kernel, by decide +kernel⟩, by decide +kernel⟩
set_option maxRecDepth 100000 in
theorem gk_J9_max_f86c9 : zGood mt_J9_max_f86c9 := ⟨by decide +kernel, zm3 (List.mem_of_getElem? (i := 149) rfl), by decide +kernel, by decide +kernel, zm1 (List.mem_of_getElem? (i := 14) rfl), ⟨by decide +kernel, by decide +kernel⟩, by decide +kernel⟩
set_option maxRecDepth 100000 in
theorem gk_J9_min_f86c9 : zGood mt_J9_min_f86c9 := ⟨by decide +kernel, zm3 (List.mem_of_getElem? (i := 152) rfl), by decide +kernel, by decide +kernel, zm1 (List.mem_of_getElem? (i := 14) rfl), ⟨by decide +kernel, by decide +kernel⟩, by decide +kernel⟩
theorem gl_0 : lawc_0.all (zgo1 mt_L_law) = true := by decide +kernel
theorem gl_1 : lawc_1.all (zgo1 mt_L_law) = true := by decide +kernel
theorem gl_2 : lawc_2.all (zgo1 mt_L_law) = true := by decide +kernel
theorem gl_3 : lawc_3.all (zgo1 mt_L_law) = true := by decide +kernel
theorem gl_4 : lawc_4.all (zgo1 mt_L_law) = true := by decide +kernel
theorem gl_5 : lawc_5.all (zgo1 mt_L_law) = true := by decide +kernel
theorem gl_6 : lawc_6.all (zgo1 mt_L_law) = true := by decide +kernel
theorem gl_7 : lawc_7.all (zgo1 mt_L_law) = true := by decide +kernel
theorem gl_8 : lawc_8.all (zgo1 mt_L_law) = true := by decide +kernel
theorem gl_9 : lawc_9.all (zgo1 mt_L_law) = true := by decide +kernel
theorem gl_10 : lawc_10.all (zgo1 mt_L_law) = true := by decide +kernel
theorem gl_11 : lawc_11.all (zgo1 mt_L_law) = true := by decide +kernel
theorem gl_12 : lawc_12.all (zgo1 mt_L_law) = true := by decide +kernel
theorem gl_13 : lawc_13.all (zgo1 mt_L_law) = true := by decide +kernel
theorem gl_14 : lawc_14.all (zgo1 mt_L_law) = true := by decide +kernel
theorem gl_15 : lawc_15.all (zgo1 mt_L_law) = true := by decide +kernel
theorem gl_16 : lawc_16.all (zgo1 mt_L_law) = true := by decide +kernel
theorem gl_17 : lawc_17.all (zgo1 mt_L_law) = true := by decide +kernel
theorem gl_18 : lawc_18.all (zgo1 mt_L_law) = true := by decide +kernel
theorem gl_19 : lawc_19.all (zgo1 mt_L_law) = true := by decide +kernel
theorem gl_20 : lawc_20.all (zgo1 mt_L_law) = true := by decide +kernel
theorem gl_21 : lawc_21.all (zgo1 mt_L_law) = true := by decide +kernel
theorem gl_22 : lawc_22.all (zgo1 mt_L_law) = true := by decide +kernel
theorem gl_23 : lawc_23.all (zgo1 mt_L_law) = true := by decide +kernel
theorem gl_24 : lawc_24.all (zgo1 mt_L_law) = true := by decide +kernel
theorem gl_25 : lawc_25.all (zgo1 mt_L_law) = true := by decide +kernel
theorem gl_26 : lawc_26.all (zgo1 mt_L_law) = true := by decide +kernel
theorem gl_27 : lawc_27.all (zgo1 mt_L_law) = true := by decide +kernel
theorem gl_28 : lawc_28.all (zgo1 mt_L_law) = true := by decide +kernel
theorem gl_29 : lawc_29.all (zgo1 mt_L_law) = true := by decide +kernel
theorem gl_30 : lawc_30.all (zgo1 mt_L_law) = true := by decide +kernel
theorem gl_31 : lawc_31.all (zgo1 mt_L_law) = true := by decide +kernel
theorem gl_32 : lawc_32.all (zgo1 mt_L_law) = true := by decide +kernel
theorem gl_33 : lawc_33.all (zgo1 mt_L_law) = true := by decide +kernel
theorem gl_34 : lawc_34.all (zgo1 mt_L_law) = true := by decide +kernel
theorem gl_35 : lawc_35.all (zgo1 mt_L_law) = true := by decide +kernel
theorem gl_36 : lawc_36.all (zgo1 mt_L_law) = true := by decide +kernel
theorem gl_37 : lawc_37.all (zgo1 mt_L_law) = true := by decide +kernel
theorem gl_38 : lawc_38.all (zgo1 mt_L_law) = true := by decide +kernel
theorem gl_39 : lawc_39.all (zgo1 mt_L_law) = true := by decide +kernel
theorem gl_40 : lawc_40.all (zgo1 mt_L_law) = true := by decide +kernel
theorem gl_41 : lawc_41.all (zgo1 mt_L_law) = true := by decide +kernel
theorem gl_42 : lawc_42.all (zgo1 mt_L_law) = true := by decide +kernel
theorem gl_43 : lawc_43.all (zgo1 mt_L_law) = true := by decide +kernel
theorem gl_44 : lawc_44.all (zgo1 mt_L_law) = true := by decide +kernel
theorem gl_45 : lawc_45.all (zgo1 mt_L_law) = true := by decide +kernel
theorem gl_46 : lawc_46.all (zgo1 mt_L_law) = true := by decide +kernel
theorem gl_47 : lawc_47.all (zgo1 mt_L_law) = true := by decide +kernel
theorem gl_48 : lawc_48.all (zgo1 mt_L_law) = true := by decide +kernel
theorem gl_49 : lawc_49.all (zgo1 mt_L_law) = true := by decide +kernel
theorem gl_50 : lawc_50.all (zgo1 mt_L_law) = true := by decide +kernel
theorem gl_51 : lawc_51.all (zgo1 mt_L_law) = true := by decide +kernel
theorem gl_52 : lawc_52.all (zgo1 mt_L_law) = true := by decide +kernel
theorem gl_53 : lawc_53.all (zgo1 mt_L_law) = true := by decide +kernel
theorem gl_54 : lawc_54.all (zgo1 mt_L_law) = true := by decide +kernel
theorem gl_55 : lawc_55.all (zgo1 mt_L_law) = true := by decide +kernel
theorem gl_56 : lawc_56.all (zgo1 mt_L_law) = true := by decide +kernel
theorem gl_57 : lawc_57.all (zgo1 mt_L_law) = true := by decide +kernel
theorem gl_58 : lawc_58.all (zgo1 mt_L_law) = true := by decide +kernel
theorem gl_59 : lawc_59.all (zgo1 mt_L_law) = true := by decide +kernel
theorem gl_60 : lawc_60.all (zgo1 mt_L_law) = true := by decide +kernel
theorem gk_law : (zcd mt_L_law).all (fun p => p.2.all (zgo1 mt_L_law)) = true := List.all_eq_true.mpr (List.forall_mem_cons.mpr ⟨gl_0, List.forall_mem_cons.mpr ⟨gl_1, List.forall_mem_cons.mpr ⟨gl_2, List.forall_mem_cons.mpr ⟨gl_3, List.forall_mem_cons.mpr ⟨gl_4, List.forall_mem_cons.mpr ⟨gl_5, List.forall_mem_cons.mpr ⟨gl_6, List.forall_mem_cons.mpr ⟨gl_7, List.forall_mem_cons.mpr ⟨gl_8, List.forall_mem_cons.mpr ⟨gl_9, List.forall_mem_cons.mpr ⟨gl_10, List.forall_mem_cons.mpr ⟨gl_11, List.forall_mem_cons.mpr ⟨gl_12, List.forall_mem_cons.mpr ⟨gl_13, List.forall_mem_cons.mpr ⟨gl_14, List.forall_mem_cons.mpr ⟨gl_15, List.forall_mem_cons.mpr ⟨gl_16, List.forall_mem_cons.mpr ⟨gl_17, List.forall_mem_cons.mpr ⟨gl_18, List.forall_mem_cons.mpr ⟨gl_19, List.forall_mem_cons.mpr ⟨gl_20, List.forall_mem_cons.mpr ⟨gl_21, List.forall_mem_cons.mpr ⟨gl_22, List.forall_mem_cons.mpr ⟨gl_23, List.forall_mem_cons.mpr ⟨gl_24, List.forall_mem_cons.mpr ⟨gl_25, List.forall_mem_cons.mpr ⟨gl_26, List.forall_mem_cons.mpr ⟨gl_27, List.forall_mem_cons.mpr ⟨gl_28, List.forall_mem_cons.mpr ⟨gl_29, List.forall_mem_cons.mpr ⟨gl_30, List.forall_mem_cons.mpr ⟨gl_31, List.forall_mem_cons.mpr ⟨gl_32, List.forall_mem_cons.mpr ⟨gl_33, List.forall_mem_cons.mpr ⟨gl_34, List.forall_mem_cons.mpr ⟨gl_35, List.forall_mem_cons.mpr ⟨gl_36, List.forall_mem_cons.mpr ⟨gl_37, List.forall_mem_cons.mpr ⟨gl_38, List.forall_mem_cons.mpr ⟨gl_39, List.forall_mem_cons.mpr ⟨gl_40, List.forall_mem_cons.mpr ⟨gl_41, List.forall_mem_cons.mpr ⟨gl_42, List.forall_mem_cons.mpr ⟨gl_43, List.forall_mem_cons.mpr ⟨gl_44, List.forall_mem_cons.mpr ⟨gl_45, List.forall_mem_cons.mpr ⟨gl_46, List.forall_mem_cons.mpr ⟨gl_47, List.forall_mem_cons.mpr ⟨gl_48, List.forall_mem_cons.mpr ⟨gl_49, List.forall_mem_cons.mpr ⟨gl_50, List.forall_mem_cons.mpr ⟨gl_51, List.forall_mem_cons.mpr ⟨gl_52, List.forall_mem_cons.mpr ⟨gl_53, List.forall_mem_cons.mpr ⟨gl_54, List.forall_mem_cons.mpr ⟨gl_55, List.forall_mem_cons.mpr ⟨gl_56, List.forall_mem_cons.mpr ⟨gl_57, List.forall_mem_cons.mpr ⟨gl_58, List.forall_mem_cons.mpr ⟨gl_59, List.forall_mem_cons.mpr ⟨gl_60, fun _ h => absurd h List.not_mem_nil⟩⟩⟩⟩⟩⟩⟩⟩⟩⟩⟩⟩⟩⟩⟩⟩⟩⟩⟩⟩⟩⟩⟩⟩⟩⟩⟩⟩⟩⟩⟩⟩⟩⟩⟩⟩⟩⟩⟩⟩⟩⟩⟩⟩⟩⟩⟩⟩⟩⟩⟩⟩⟩⟩⟩⟩⟩⟩⟩⟩⟩)
