theorem mm_X10_rank : qMV 1 10 mX10_rank := ⟨⟨q_mt6 (i := 56) (by decide +kernel) (by decide +kernel), q_mt1 (i := 1) (by decide +kernel) (by decide +kernel), by decide +kernel, by decide +kernel, by decide⟩, q_mt6 (i := 54) (by decide +kernel) (by decide +kernel), q_mt6 (i := 55) (by decide +kernel) (by decide +kernel), TX10, 17, rfl⟩
theorem mm_X10_agree : qMV 0 10 mX10_agree := ⟨⟨q_mt3 (i := 63) (by decide +kernel) (by decide +kernel), q_mt1 (i := 1) (by decide +kernel) (by decide +kernel), by decide +kernel, by decide +kernel, by decide⟩, q_mt3 (i := 62) (by decide +kernel) (by decide +kernel), q_mt0 (i := 1) (by decide +kernel) (by decide +kernel), TX10, 17, rfl⟩
theorem mm_X10_refuse : qMV 1 10 mX10_refuse := ⟨⟨q_mt3 (i := 52) (by decide +kernel) (by decide +kernel), q_mt1 (i := 1) (by decide +kernel) (by decide +kernel), by decide +kernel, by decide +kernel, by decide⟩, q_mt3 (i := 51) (by decide +kernel) (by decide +kernel), q_mt0 (i := 0) (by decide +kernel) (by decide +kernel), TX10, 17, rfl⟩
theorem mm_X10_answer : qMV 1 10 mX10_answer := ⟨⟨q_mt3 (i := 116) (by decide +kernel) (by decide +kernel), q_mt1 (i := 1) (by decide +kernel) (by decide +kernel), by decide +kernel, by decide +kernel, by decide⟩, q_mt3 (i := 115) (by decide +kernel) (by decide +kernel), q_mt0 (i := 5) (by decide +kernel) (by decide +kernel), TX10, 17, rfl⟩
theorem mm_X10_none : qMV 1 10 mX10_none := ⟨⟨q_mt3 (i := 91) (by decide +kernel) (by decide +kernel), q_mt1 (i := 1) (by decide +kernel) (by decide +kernel), by decide +kernel, by decide +kernel, by decide⟩, q_mt3 (i := 90) (by decide +kernel) (by decide +kernel), q_mt0 (i := 4) (by decide +kernel) (by decide +kernel), TX10, 17, rfl⟩
theorem mm_X10_placeStatus : qMV 2 10 mX10_placeStatus := ⟨⟨q_mt3 (i := 71) (by decide +kernel) (by decide +kernel), q_mt1 (i := 1) (by decide +kernel) (by decide +kernel), by decide +kernel, by decide +kernel, by decide⟩, q_mt3 (i := 70) (by decide +kernel) (by decide +kernel), q_mt0 (i := 2) (by decide +kernel) (by decide +kernel), TX10, 17, rfl⟩
theorem mm_X10_isTray : qMS 1 mX10_isTray := ⟨⟨q_mt3 (i := 48) (by decide +kernel) (by decide +kernel), q_mt1 (i := 1) (by decide +kernel) (by decide +kernel), by decide +kernel, by decide +kernel, by decide⟩, q_mt3 (i := 47) (by decide +kernel) (by decide +kernel)⟩
theorem mm_X10_isDay : qMS 1 mX10_isDay := ⟨⟨q_mt5 (i := 197) (by decide +kernel) (by decide +kernel), q_mt1 (i := 1) (by decide +kernel) (by decide +kernel), by decide +kernel, by decide +kernel, by decide⟩, q_mt5 (i := 196) (by decide +kernel) (by decide +kernel)⟩
theorem mm_X11_init : qMI 0 mX11_init := ⟨⟨q_mt6 (i := 66) (by decide +kernel) (by decide +kernel), q_mt1 (i := 13) (by decide +kernel) (by decide +kernel), by decide +kernel, by decide +kernel, by decide⟩, q_mt6 (i := 65) (by decide +kernel) (by decide +kernel), rfl, rfl⟩
theorem mm_X11_status : qMV 0 11 mX11_status := ⟨⟨q_mt7 (i := 138) (by decide +kernel) (by decide +kernel), q_mt1 (i := 13) (by decide +kernel) (by decide +kernel), by decide +kernel, by decide +kernel, by decide⟩, q_mt7 (i := 136) (by decide +kernel) (by decide +kernel), q_mt7 (i := 137) (by decide +kernel) (by decide +kernel), TX11, 102, rfl⟩
theorem mm_X11_refuse : qMV 1 11 mX11_refuse := ⟨⟨q_mt7 (i := 187) (by decide +kernel) (by decide +kernel), q_mt1 (i := 13) (by decide +kernel) (by decide +kernel), by decide +kernel, by decide +kernel, by decide⟩, q_mt7 (i := 186) (by decide +kernel) (by decide +kernel), q_mt0 (i := 75) (by decide +kernel) (by decide +kernel), TX11, 102, rfl⟩
theorem mm_X11_no : qMV 1 11 mX11_no := ⟨⟨q_mt7 (i := 146) (by decide +kernel) (by decide +kernel), q_mt1 (i := 13) (by decide +kernel) (by decide +kernel), by decide +kernel, by decide +kernel, by decide⟩, q_mt7 (i := 145) (by decide +kernel) (by decide +kernel), q_mt0 (i := 72) (by decide +kernel) (by decide +kernel), TX11, 102, rfl⟩
theorem mm_X11_isIn : qMS 3 mX11_isIn := ⟨⟨q_mt7 (i := 181) (by decide +kernel) (by decide +kernel), q_mt1 (i := 13) (by decide +kernel) (by decide +kernel), by decide +kernel, by decide +kernel, by decide⟩, q_mt7 (i := 180) (by decide +kernel) (by decide +kernel)⟩
theorem mm_X11_isSpot : qMS 2 mX11_isSpot := ⟨⟨q_mt7 (i := 177) (by decide +kernel) (by decide +kernel), q_mt1 (i := 13) (by decide +kernel) (by decide +kernel), by decide +kernel, by decide +kernel, by decide⟩, q_mt7 (i := 176) (by decide +kernel) (by decide +kernel)⟩
theorem mm_X11_cut : qMS 2 mX11_cut := ⟨⟨q_mt7 (i := 161) (by decide +kernel) (by decide +kernel), q_mt1 (i := 13) (by decide +kernel) (by decide +kernel), by decide +kernel, by decide +kernel, by decide⟩, q_mt7 (i := 160) (by decide +kernel) (by decide +kernel)⟩
theorem mm_X11_tray : qMV 3 11 mX11_tray := ⟨⟨q_mt7 (i := 142) (by decide +kernel) (by decide +kernel), q_mt1 (i := 13) (by decide +kernel) (by decide +kernel), by decide +kernel, by decide +kernel, by decide⟩, q_mt7 (i := 140) (by decide +kernel) (by decide +kernel), q_mt7 (i := 141) (by decide +kernel) (by decide +kernel), TX11, 102, rfl⟩
theorem mm_X11_trayed : qMV 1 11 mX11_trayed := ⟨⟨q_mt7 (i := 158) (by decide +kernel) (by decide +kernel), q_mt1 (i := 13) (by decide +kernel) (by decide +kernel), by decide +kernel, by decide +kernel, by decide⟩, q_mt7 (i := 157) (by decide +kernel) (by decide +kernel), q_mt0 (i := 74) (by decide +kernel) (by decide +kernel), TX11, 102, rfl⟩
theorem mm_X11_placed : qMV 2 11 mX11_placed := ⟨⟨q_mt7 (i := 154) (by decide +kernel) (by decide +kernel), q_mt1 (i := 13) (by decide +kernel) (by decide +kernel), by decide +kernel, by decide +kernel, by decide⟩, q_mt7 (i := 153) (by decide +kernel) (by decide +kernel), q_mt0 (i := 73) (by decide +kernel) (by decide +kernel), TX11, 102, rfl⟩
theorem mm_X11_write : qMV 3 11 mX11_write := ⟨⟨q_mt7 (i := 150) (by decide +kernel) (by decide +kernel), q_mt1 (i := 13) (by decide +kernel) (by decide +kernel), by decide +kernel, by decide +kernel, by decide⟩, q_mt7 (i := 148) (by decide +kernel) (by decide +kernel), q_mt7 (i := 149) (by decide +kernel) (by decide +kernel), TX11, 102, rfl⟩
theorem mm_X11_read : qMV 2 11 mX11_read := ⟨⟨q_mt7 (i := 165) (by decide +kernel) (by decide +kernel), q_mt1 (i := 13) (by decide +kernel) (by decide +kernel), by decide +kernel, by decide +kernel, by decide⟩, q_mt7 (i := 163) (by decide +kernel) (by decide +kernel), q_mt7 (i := 164) (by decide +kernel) (by decide +kernel), TX11, 102, rfl⟩
theorem mm_X11_pour : qMV 5 11 mX11_pour := ⟨⟨q_mt7 (i := 170) (by decide +kernel) (by decide +kernel), q_mt1 (i := 13) (by decide +kernel) (by decide +kernel), by decide +kernel, by decide +kernel, by decide⟩, q_mt7 (i := 168) (by decide +kernel) (by decide +kernel), q_mt7 (i := 169) (by decide +kernel) (by decide +kernel), TX11, 102, rfl⟩
theorem mm_X11_isMarcher : qMV 1 11 mX11_isMarcher := ⟨⟨q_mt8 (i := 183) (by decide +kernel) (by decide +kernel), q_mt1 (i := 13) (by decide +kernel) (by decide +kernel), by decide +kernel, by decide +kernel, by decide⟩, q_mt8 (i := 182) (by decide +kernel) (by decide +kernel), q_mt0 (i := 108) (by decide +kernel) (by decide +kernel), TX11, 102, rfl⟩
theorem mm_X11_marcher : qMV 3 11 mX11_marcher := ⟨⟨q_mt7 (i := 174) (by decide +kernel) (by decide +kernel), q_mt1 (i := 13) (by decide +kernel) (by decide +kernel), by decide +kernel, by decide +kernel, by decide⟩, q_mt7 (i := 172) (by decide +kernel) (by decide +kernel), q_mt7 (i := 173) (by decide +kernel) (by decide +kernel), TX11, 102, rfl⟩
theorem mm_X11_prop : qMV 2 11 mX11_prop := ⟨⟨q_mt7 (i := 191) (by decide +kernel) (by decide +kernel), q_mt1 (i := 13) (by decide +kernel) (by decide +kernel), by decide +kernel, by decide +kernel, by decide⟩, q_mt7 (i := 189) (by decide +kernel) (by decide +kernel), q_mt7 (i := 190) (by decide +kernel) (by decide +kernel), TX11, 102, rfl⟩
theorem mm_X11_isName : qMS 1 mX11_isName := ⟨⟨q_mt7 (i := 198) (by decide +kernel) (by decide +kernel), q_mt1 (i := 13) (by decide +kernel) (by decide +kernel), by decide +kernel, by decide +kernel, by decide⟩, q_mt7 (i := 197) (by decide +kernel) (by decide +kernel)⟩
theorem mm_X11_groupOf : qMV 1 11 mX11_groupOf := ⟨⟨q_mt7 (i := 205) (by decide +kernel) (by decide +kernel), q_mt1 (i := 13) (by decide +kernel) (by decide +kernel), by decide +kernel, by decide +kernel, by decide⟩, q_mt7 (i := 204) (by decide +kernel) (by decide +kernel), q_mt0 (i := 76) (by decide +kernel) (by decide +kernel), TX11, 102, rfl⟩
theorem mm_X11_group : qMV 2 11 mX11_group := ⟨⟨q_mt7 (i := 195) (by decide +kernel) (by decide +kernel), q_mt1 (i := 13) (by decide +kernel) (by decide +kernel), by decide +kernel, by decide +kernel, by decide⟩, q_mt7 (i := 193) (by decide +kernel) (by decide +kernel), q_mt7 (i := 194) (by decide +kernel) (by decide +kernel), TX11, 102, rfl⟩
theorem mm_X11_steps : qMV 1 11 mX11_steps := ⟨⟨q_mt7 (i := 209) (by decide +kernel) (by decide +kernel), q_mt1 (i := 13) (by decide +kernel) (by decide +kernel), by decide +kernel, by decide +kernel, by decide⟩, q_mt7 (i := 207) (by decide +kernel) (by decide +kernel), q_mt7 (i := 208) (by decide +kernel) (by decide +kernel), TX11, 102, rfl⟩
theorem mm_X11_look : qMV 1 11 mX11_look := ⟨⟨q_mt7 (i := 230) (by decide +kernel) (by decide +kernel), q_mt1 (i := 13) (by decide +kernel) (by decide +kernel), by decide +kernel, by decide +kernel, by decide⟩, q_mt7 (i := 229) (by decide +kernel) (by decide +kernel), q_mt0 (i := 79) (by decide +kernel) (by decide +kernel), TX11, 102, rfl⟩
theorem mm_X11_isLetter : qMS 1 mX11_isLetter := ⟨⟨q_mt7 (i := 233) (by decide +kernel) (by decide +kernel), q_mt1 (i := 13) (by decide +kernel) (by decide +kernel), by decide +kernel, by decide +kernel, by decide⟩, q_mt7 (i := 232) (by decide +kernel) (by decide +kernel)⟩
theorem mm_X11_isDigit : qMS 1 mX11_isDigit := ⟨⟨q_mt7 (i := 237) (by decide +kernel) (by decide +kernel), q_mt1 (i := 13) (by decide +kernel) (by decide +kernel), by decide +kernel, by decide +kernel, by decide⟩, q_mt7 (i := 236) (by decide +kernel) (by decide +kernel)⟩
theorem mm_X11_next : qMV 0 11 mX11_next := ⟨⟨q_mt7 (i := 226) (by decide +kernel) (by decide +kernel), q_mt1 (i := 13) (by decide +kernel) (by decide +kernel), by decide +kernel, by decide +kernel, by decide⟩, q_mt7 (i := 225) (by decide +kernel) (by decide +kernel), q_mt0 (i := 78) (by decide +kernel) (by decide +kernel), TX11, 102, rfl⟩
theorem mm_X11_spelled : qMS 6 mX11_spelled := ⟨⟨q_mt8 (i := 28) (by decide +kernel) (by decide +kernel), q_mt1 (i := 13) (by decide +kernel) (by decide +kernel), by decide +kernel, by decide +kernel, by decide⟩, q_mt8 (i := 27) (by decide +kernel) (by decide +kernel)⟩
theorem mm_X11_isWord : qMV 1 11 mX11_isWord := ⟨⟨q_mt8 (i := 32) (by decide +kernel) (by decide +kernel), q_mt1 (i := 13) (by decide +kernel) (by decide +kernel), by decide +kernel, by decide +kernel, by decide⟩, q_mt8 (i := 31) (by decide +kernel) (by decide +kernel), q_mt0 (i := 87) (by decide +kernel) (by decide +kernel), TX11, 102, rfl⟩
theorem mm_X11_isSign : qMV 1 11 mX11_isSign := ⟨⟨q_mt8 (i := 17) (by decide +kernel) (by decide +kernel), q_mt1 (i := 13) (by decide +kernel) (by decide +kernel), by decide +kernel, by decide +kernel, by decide⟩, q_mt8 (i := 16) (by decide +kernel) (by decide +kernel), q_mt0 (i := 84) (by decide +kernel) (by decide +kernel), TX11, 102, rfl⟩
theorem mm_X11_fail : qMV 2 11 mX11_fail := ⟨⟨q_mt8 (i := 9) (by decide +kernel) (by decide +kernel), q_mt1 (i := 13) (by decide +kernel) (by decide +kernel), by decide +kernel, by decide +kernel, by decide⟩, q_mt8 (i := 8) (by decide +kernel) (by decide +kernel), q_mt0 (i := 82) (by decide +kernel) (by decide +kernel), TX11, 102, rfl⟩
theorem mm_X11_wrong : qMV 0 11 mX11_wrong := ⟨⟨q_mt8 (i := 5) (by decide +kernel) (by decide +kernel), q_mt1 (i := 13) (by decide +kernel) (by decide +kernel), by decide +kernel, by decide +kernel, by decide⟩, q_mt8 (i := 4) (by decide +kernel) (by decide +kernel), q_mt0 (i := 81) (by decide +kernel) (by decide +kernel), TX11, 102, rfl⟩
theorem mm_X11_sign : qMV 1 11 mX11_sign := ⟨⟨q_mt8 (i := 13) (by decide +kernel) (by decide +kernel), q_mt1 (i := 13) (by decide +kernel) (by decide +kernel), by decide +kernel, by decide +kernel, by decide⟩, q_mt8 (i := 12) (by decide +kernel) (by decide +kernel), q_mt0 (i := 83) (by decide +kernel) (by decide +kernel), TX11, 102, rfl⟩
theorem mm_X11_count : qMV 2 11 mX11_count := ⟨⟨q_mt8 (i := 36) (by decide +kernel) (by decide +kernel), q_mt1 (i := 13) (by decide +kernel) (by decide +kernel), by decide +kernel, by decide +kernel, by decide⟩, q_mt8 (i := 35) (by decide +kernel) (by decide +kernel), q_mt0 (i := 88) (by decide +kernel) (by decide +kernel), TX11, 102, rfl⟩
theorem mm_X11_orderKind : qMV 0 11 mX11_orderKind := ⟨⟨q_mt8 (i := 25) (by decide +kernel) (by decide +kernel), q_mt1 (i := 13) (by decide +kernel) (by decide +kernel), by decide +kernel, by decide +kernel, by decide⟩, q_mt8 (i := 24) (by decide +kernel) (by decide +kernel), q_mt0 (i := 86) (by decide +kernel) (by decide +kernel), TX11, 102, rfl⟩
theorem mm_X11_readWhole : qMV 0 11 mX11_readWhole := ⟨⟨q_mt8 (i := 40) (by decide +kernel) (by decide +kernel), q_mt1 (i := 13) (by decide +kernel) (by decide +kernel), by decide +kernel, by decide +kernel, by decide⟩, q_mt8 (i := 39) (by decide +kernel) (by decide +kernel), q_mt0 (i := 89) (by decide +kernel) (by decide +kernel), TX11, 102, rfl⟩
theorem mm_X11_readOrder : qMV 1 11 mX11_readOrder := ⟨⟨q_mt8 (i := 21) (by decide +kernel) (by decide +kernel), q_mt1 (i := 13) (by decide +kernel) (by decide +kernel), by decide +kernel, by decide +kernel, by decide⟩, q_mt8 (i := 20) (by decide +kernel) (by decide +kernel), q_mt0 (i := 85) (by decide +kernel) (by decide +kernel), TX11, 102, rfl⟩
theorem mm_X11_readLine : qMV 0 11 mX11_readLine := ⟨⟨q_mt8 (i := 1) (by decide +kernel) (by decide +kernel), q_mt1 (i := 13) (by decide +kernel) (by decide +kernel), by decide +kernel, by decide +kernel, by decide⟩, q_mt8 (i := 0) (by decide +kernel) (by decide +kernel), q_mt0 (i := 80) (by decide +kernel) (by decide +kernel), TX11, 102, rfl⟩
theorem mm_X11_feed : qMV 5 11 mX11_feed := ⟨⟨q_mt7 (i := 214) (by decide +kernel) (by decide +kernel), q_mt1 (i := 13) (by decide +kernel) (by decide +kernel), by decide +kernel, by decide +kernel, by decide⟩, q_mt7 (i := 212) (by decide +kernel) (by decide +kernel), q_mt7 (i := 213) (by decide +kernel) (by decide +kernel), TX11, 102, rfl⟩
theorem mm_X11_lay : qMV 1 11 mX11_lay := ⟨⟨q_mt7 (i := 218) (by decide +kernel) (by decide +kernel), q_mt1 (i := 13) (by decide +kernel) (by decide +kernel), by decide +kernel, by decide +kernel, by decide⟩, q_mt7 (i := 217) (by decide +kernel) (by decide +kernel), q_mt0 (i := 77) (by decide +kernel) (by decide +kernel), TX11, 102, rfl⟩
theorem mm_X11_orders : qMV 1 11 mX11_orders := ⟨⟨q_mt7 (i := 222) (by decide +kernel) (by decide +kernel), q_mt1 (i := 13) (by decide +kernel) (by decide +kernel), by decide +kernel, by decide +kernel, by decide⟩, q_mt7 (i := 220) (by decide +kernel) (by decide +kernel), q_mt7 (i := 221) (by decide +kernel) (by decide +kernel), TX11, 102, rfl⟩
theorem mm_X11_fault : qMV 1 11 mX11_fault := ⟨⟨q_mt8 (i := 44) (by decide +kernel) (by decide +kernel), q_mt1 (i := 13) (by decide +kernel) (by decide +kernel), by decide +kernel, by decide +kernel, by decide⟩, q_mt8 (i := 42) (by decide +kernel) (by decide +kernel), q_mt8 (i := 43) (by decide +kernel) (by decide +kernel), TX11, 102, rfl⟩
theorem mm_X11_cell : qMS 2 mX11_cell := ⟨⟨q_mt8 (i := 55) (by decide +kernel) (by decide +kernel), q_mt1 (i := 13) (by decide +kernel) (by decide +kernel), by decide +kernel, by decide +kernel, by decide⟩, q_mt8 (i := 54) (by decide +kernel) (by decide +kernel)⟩
theorem mm_X11_eastOf : qMS 1 mX11_eastOf := ⟨⟨q_mt8 (i := 82) (by decide +kernel) (by decide +kernel), q_mt1 (i := 13) (by decide +kernel) (by decide +kernel), by decide +kernel, by decide +kernel, by decide⟩, q_mt8 (i := 81) (by decide +kernel) (by decide +kernel)⟩
theorem mm_X11_northOf : qMS 1 mX11_northOf := ⟨⟨q_mt8 (i := 85) (by decide +kernel) (by decide +kernel), q_mt1 (i := 13) (by decide +kernel) (by decide +kernel), by decide +kernel, by decide +kernel, by decide⟩, q_mt8 (i := 84) (by decide +kernel) (by decide +kernel)⟩
theorem mm_X11_between : qMS 4 mX11_between := ⟨⟨q_mt8 (i := 88) (by decide +kernel) (by decide +kernel), q_mt1 (i := 13) (by decide +kernel) (by decide +kernel), by decide +kernel, by decide +kernel, by decide⟩, q_mt8 (i := 87) (by decide +kernel) (by decide +kernel)⟩
theorem mm_X11_fails : qMV 2 11 mX11_fails := ⟨⟨q_mt8 (i := 63) (by decide +kernel) (by decide +kernel), q_mt1 (i := 13) (by decide +kernel) (by decide +kernel), by decide +kernel, by decide +kernel, by decide⟩, q_mt8 (i := 62) (by decide +kernel) (by decide +kernel), q_mt0 (i := 92) (by decide +kernel) (by decide +kernel), TX11, 102, rfl⟩
theorem mm_X11_runOrders : qMV 2 11 mX11_runOrders := ⟨⟨q_mt8 (i := 59) (by decide +kernel) (by decide +kernel), q_mt1 (i := 13) (by decide +kernel) (by decide +kernel), by decide +kernel, by decide +kernel, by decide⟩, q_mt8 (i := 58) (by decide +kernel) (by decide +kernel), q_mt0 (i := 91) (by decide +kernel) (by decide +kernel), TX11, 102, rfl⟩
theorem mm_X11_turns : qMV 1 11 mX11_turns := ⟨⟨q_mt8 (i := 67) (by decide +kernel) (by decide +kernel), q_mt1 (i := 13) (by decide +kernel) (by decide +kernel), by decide +kernel, by decide +kernel, by decide⟩, q_mt8 (i := 66) (by decide +kernel) (by decide +kernel), q_mt0 (i := 93) (by decide +kernel) (by decide +kernel), TX11, 102, rfl⟩
theorem mm_X11_steps_ : qMV 0 11 mX11_steps_ := ⟨⟨q_mt8 (i := 93) (by decide +kernel) (by decide +kernel), q_mt1 (i := 13) (by decide +kernel) (by decide +kernel), by decide +kernel, by decide +kernel, by decide⟩, q_mt8 (i := 92) (by decide +kernel) (by decide +kernel), q_mt0 (i := 97) (by decide +kernel) (by decide +kernel), TX11, 102, rfl⟩
theorem mm_X11_goes : qMV 1 11 mX11_goes := ⟨⟨q_mt8 (i := 71) (by decide +kernel) (by decide +kernel), q_mt1 (i := 13) (by decide +kernel) (by decide +kernel), by decide +kernel, by decide +kernel, by decide⟩, q_mt8 (i := 70) (by decide +kernel) (by decide +kernel), q_mt0 (i := 94) (by decide +kernel) (by decide +kernel), TX11, 102, rfl⟩
theorem mm_X11_isWhole : qMV 1 11 mX11_isWhole := ⟨⟨q_mt8 (i := 75) (by decide +kernel) (by decide +kernel), q_mt1 (i := 13) (by decide +kernel) (by decide +kernel), by decide +kernel, by decide +kernel, by decide⟩, q_mt8 (i := 74) (by decide +kernel) (by decide +kernel), q_mt0 (i := 95) (by decide +kernel) (by decide +kernel), TX11, 102, rfl⟩
theorem mm_X11_goesOne : qMV 4 11 mX11_goesOne := ⟨⟨q_mt8 (i := 79) (by decide +kernel) (by decide +kernel), q_mt1 (i := 13) (by decide +kernel) (by decide +kernel), by decide +kernel, by decide +kernel, by decide⟩, q_mt8 (i := 78) (by decide +kernel) (by decide +kernel), q_mt0 (i := 96) (by decide +kernel) (by decide +kernel), TX11, 102, rfl⟩
theorem mm_X11_stays : qMV 2 11 mX11_stays := ⟨⟨q_mt8 (i := 52) (by decide +kernel) (by decide +kernel), q_mt1 (i := 13) (by decide +kernel) (by decide +kernel), by decide +kernel, by decide +kernel, by decide⟩, q_mt8 (i := 51) (by decide +kernel) (by decide +kernel), q_mt0 (i := 90) (by decide +kernel) (by decide +kernel), TX11, 102, rfl⟩
theorem mm_X11_run : qMV 0 11 mX11_run := ⟨⟨q_mt8 (i := 48) (by decide +kernel) (by decide +kernel), q_mt1 (i := 13) (by decide +kernel) (by decide +kernel), by decide +kernel, by decide +kernel, by decide⟩, q_mt8 (i := 46) (by decide +kernel) (by decide +kernel), q_mt8 (i := 47) (by decide +kernel) (by decide +kernel), TX11, 102, rfl⟩
theorem mm_X11_error : qMV 1 11 mX11_error := ⟨⟨q_mt8 (i := 98) (by decide +kernel) (by decide +kernel), q_mt1 (i := 13) (by decide +kernel) (by decide +kernel), by decide +kernel, by decide +kernel, by decide⟩, q_mt8 (i := 96) (by decide +kernel) (by decide +kernel), q_mt8 (i := 97) (by decide +kernel) (by decide +kernel), TX11, 102, rfl⟩
theorem mm_X11_isCount : qMV 1 11 mX11_isCount := ⟨⟨q_mt8 (i := 106) (by decide +kernel) (by decide +kernel), q_mt1 (i := 13) (by decide +kernel) (by decide +kernel), by decide +kernel, by decide +kernel, by decide⟩, q_mt8 (i := 105) (by decide +kernel) (by decide +kernel), q_mt0 (i := 98) (by decide +kernel) (by decide +kernel), TX11, 102, rfl⟩
theorem mm_X11_at : qMV 3 11 mX11_at := ⟨⟨q_mt8 (i := 102) (by decide +kernel) (by decide +kernel), q_mt1 (i := 13) (by decide +kernel) (by decide +kernel), by decide +kernel, by decide +kernel, by decide⟩, q_mt8 (i := 100) (by decide +kernel) (by decide +kernel), q_mt8 (i := 101) (by decide +kernel) (by decide +kernel), TX11, 102, rfl⟩
theorem mm_X11_areOn : qMV 4 11 mX11_areOn := ⟨⟨q_mt8 (i := 119) (by decide +kernel) (by decide +kernel), q_mt1 (i := 13) (by decide +kernel) (by decide +kernel), by decide +kernel, by decide +kernel, by decide⟩, q_mt8 (i := 118) (by decide +kernel) (by decide +kernel), q_mt0 (i := 100) (by decide +kernel) (by decide +kernel), TX11, 102, rfl⟩
theorem mm_X11_clashes : qMV 3 11 mX11_clashes := ⟨⟨q_mt8 (i := 115) (by decide +kernel) (by decide +kernel), q_mt1 (i := 13) (by decide +kernel) (by decide +kernel), by decide +kernel, by decide +kernel, by decide⟩, q_mt8 (i := 114) (by decide +kernel) (by decide +kernel), q_mt0 (i := 99) (by decide +kernel) (by decide +kernel), TX11, 102, rfl⟩
theorem mm_X11_squareOf : qMV 2 11 mX11_squareOf := ⟨⟨q_mt8 (i := 123) (by decide +kernel) (by decide +kernel), q_mt1 (i := 13) (by decide +kernel) (by decide +kernel), by decide +kernel, by decide +kernel, by decide⟩, q_mt8 (i := 122) (by decide +kernel) (by decide +kernel), q_mt0 (i := 101) (by decide +kernel) (by decide +kernel), TX11, 102, rfl⟩
theorem mm_X11_told : qMV 1 11 mX11_told := ⟨⟨q_mt8 (i := 110) (by decide +kernel) (by decide +kernel), q_mt1 (i := 13) (by decide +kernel) (by decide +kernel), by decide +kernel, by decide +kernel, by decide⟩, q_mt8 (i := 108) (by decide +kernel) (by decide +kernel), q_mt8 (i := 109) (by decide +kernel) (by decide +kernel), TX11, 102, rfl⟩
theorem mm_X11_clash : qMV 2 11 mX11_clash := ⟨⟨q_mt8 (i := 127) (by decide +kernel) (by decide +kernel), q_mt1 (i := 13) (by decide +kernel) (by decide +kernel), by decide +kernel, by decide +kernel, by decide⟩, q_mt8 (i := 125) (by decide +kernel) (by decide +kernel), q_mt8 (i := 126) (by decide +kernel) (by decide +kernel), TX11, 102, rfl⟩
theorem mm_X11_dressed : qMV 2 11 mX11_dressed := ⟨⟨q_mt8 (i := 132) (by decide +kernel) (by decide +kernel), q_mt1 (i := 13) (by decide +kernel) (by decide +kernel), by decide +kernel, by decide +kernel, by decide⟩, q_mt8 (i := 130) (by decide +kernel) (by decide +kernel), q_mt8 (i := 131) (by decide +kernel) (by decide +kernel), TX11, 102, rfl⟩
theorem mm_X11_figure : qMV 3 11 mX11_figure := ⟨⟨q_mt8 (i := 140) (by decide +kernel) (by decide +kernel), q_mt1 (i := 13) (by decide +kernel) (by decide +kernel), by decide +kernel, by decide +kernel, by decide⟩, q_mt8 (i := 139) (by decide +kernel) (by decide +kernel), q_mt0 (i := 102) (by decide +kernel) (by decide +kernel), TX11, 102, rfl⟩
theorem mm_X11_like : qMV 2 11 mX11_like := ⟨⟨q_mt8 (i := 136) (by decide +kernel) (by decide +kernel), q_mt1 (i := 13) (by decide +kernel) (by decide +kernel), by decide +kernel, by decide +kernel, by decide⟩, q_mt8 (i := 134) (by decide +kernel) (by decide +kernel), q_mt8 (i := 135) (by decide +kernel) (by decide +kernel), TX11, 102, rfl⟩
theorem mm_X11_seen : qMV 3 11 mX11_seen := ⟨⟨q_mt8 (i := 145) (by decide +kernel) (by decide +kernel), q_mt1 (i := 13) (by decide +kernel) (by decide +kernel), by decide +kernel, by decide +kernel, by decide⟩, q_mt8 (i := 143) (by decide +kernel) (by decide +kernel), q_mt8 (i := 144) (by decide +kernel) (by decide +kernel), TX11, 102, rfl⟩
theorem mm_X11_hides : qMV 5 11 mX11_hides := ⟨⟨q_mt8 (i := 150) (by decide +kernel) (by decide +kernel), q_mt1 (i := 13) (by decide +kernel) (by decide +kernel), by decide +kernel, by decide +kernel, by decide⟩, q_mt8 (i := 149) (by decide +kernel) (by decide +kernel), q_mt0 (i := 103) (by decide +kernel) (by decide +kernel), TX11, 102, rfl⟩
theorem mm_X11_wayOf : qMV 2 11 mX11_wayOf := ⟨⟨q_mt8 (i := 171) (by decide +kernel) (by decide +kernel), q_mt1 (i := 13) (by decide +kernel) (by decide +kernel), by decide +kernel, by decide +kernel, by decide⟩, q_mt8 (i := 170) (by decide +kernel) (by decide +kernel), q_mt0 (i := 107) (by decide +kernel) (by decide +kernel), TX11, 102, rfl⟩
theorem mm_X11_meets : qMV 2 11 mX11_meets := ⟨⟨q_mt8 (i := 163) (by decide +kernel) (by decide +kernel), q_mt1 (i := 13) (by decide +kernel) (by decide +kernel), by decide +kernel, by decide +kernel, by decide⟩, q_mt8 (i := 162) (by decide +kernel) (by decide +kernel), q_mt0 (i := 105) (by decide +kernel) (by decide +kernel), TX11, 102, rfl⟩
theorem mm_X11_meetTwo : qMV 3 11 mX11_meetTwo := ⟨⟨q_mt8 (i := 167) (by decide +kernel) (by decide +kernel), q_mt1 (i := 13) (by decide +kernel) (by decide +kernel), by decide +kernel, by decide +kernel, by decide⟩, q_mt8 (i := 166) (by decide +kernel) (by decide +kernel), q_mt0 (i := 106) (by decide +kernel) (by decide +kernel), TX11, 102, rfl⟩
theorem mm_X11_tries : qMV 6 11 mX11_tries := ⟨⟨q_mt8 (i := 159) (by decide +kernel) (by decide +kernel), q_mt1 (i := 13) (by decide +kernel) (by decide +kernel), by decide +kernel, by decide +kernel, by decide⟩, q_mt8 (i := 158) (by decide +kernel) (by decide +kernel), q_mt0 (i := 104) (by decide +kernel) (by decide +kernel), TX11, 102, rfl⟩
theorem mm_X11_goes_ : qMV 3 11 mX11_goes_ := ⟨⟨q_mt8 (i := 154) (by decide +kernel) (by decide +kernel), q_mt1 (i := 13) (by decide +kernel) (by decide +kernel), by decide +kernel, by decide +kernel, by decide⟩, q_mt8 (i := 152) (by decide +kernel) (by decide +kernel), q_mt8 (i := 153) (by decide +kernel) (by decide +kernel), TX11, 102, rfl⟩
theorem mm_X11_spotOf : qMV 1 11 mX11_spotOf := ⟨⟨q_mt8 (i := 175) (by decide +kernel) (by decide +kernel), q_mt1 (i := 13) (by decide +kernel) (by decide +kernel), by decide +kernel, by decide +kernel, by decide⟩, q_mt8 (i := 173) (by decide +kernel) (by decide +kernel), q_mt8 (i := 174) (by decide +kernel) (by decide +kernel), TX11, 102, rfl⟩
theorem mm_X11_isFree : qMV 3 11 mX11_isFree := ⟨⟨q_mt8 (i := 187) (by decide +kernel) (by decide +kernel), q_mt1 (i := 13) (by decide +kernel) (by decide +kernel), by decide +kernel, by decide +kernel, by decide⟩, q_mt8 (i := 186) (by decide +kernel) (by decide +kernel), q_mt0 (i := 109) (by decide +kernel) (by decide +kernel), TX11, 102, rfl⟩
theorem mm_X11_path : qMV 4 11 mX11_path := ⟨⟨q_mt8 (i := 179) (by decide +kernel) (by decide +kernel), q_mt1 (i := 13) (by decide +kernel) (by decide +kernel), by decide +kernel, by decide +kernel, by decide⟩, q_mt8 (i := 177) (by decide +kernel) (by decide +kernel), q_mt8 (i := 178) (by decide +kernel) (by decide +kernel), TX11, 102, rfl⟩
theorem mm_X11_move : qMV 1 11 mX11_move := ⟨⟨q_mt8 (i := 191) (by decide +kernel) (by decide +kernel), q_mt1 (i := 13) (by decide +kernel) (by decide +kernel), by decide +kernel, by decide +kernel, by decide⟩, q_mt8 (i := 189) (by decide +kernel) (by decide +kernel), q_mt8 (i := 190) (by decide +kernel) (by decide +kernel), TX11, 102, rfl⟩
theorem mm_X11_isPerson : qMV 1 11 mX11_isPerson := ⟨⟨q_mt8 (i := 203) (by decide +kernel) (by decide +kernel), q_mt1 (i := 13) (by decide +kernel) (by decide +kernel), by decide +kernel, by decide +kernel, by decide⟩, q_mt8 (i := 202) (by decide +kernel) (by decide +kernel), q_mt0 (i := 110) (by decide +kernel) (by decide +kernel), TX11, 102, rfl⟩
theorem mm_X11_isDay : qMS 1 mX11_isDay := ⟨⟨q_mt8 (i := 206) (by decide +kernel) (by decide +kernel), q_mt1 (i := 13) (by decide +kernel) (by decide +kernel), by decide +kernel, by decide +kernel, by decide⟩, q_mt8 (i := 205) (by decide +kernel) (by decide +kernel)⟩
theorem mm_X11_person : qMV 1 11 mX11_person := ⟨⟨q_mt8 (i := 195) (by decide +kernel) (by decide +kernel), q_mt1 (i := 13) (by decide +kernel) (by decide +kernel), by decide +kernel, by decide +kernel, by decide⟩, q_mt8 (i := 193) (by decide +kernel) (by decide +kernel), q_mt8 (i := 194) (by decide +kernel) (by decide +kernel), TX11, 102, rfl⟩
theorem mm_X11_away : qMV 4 11 mX11_away := ⟨⟨q_mt8 (i := 199) (by decide +kernel) (by decide +kernel), q_mt1 (i := 13) (by decide +kernel) (by decide +kernel), by decide +kernel, by decide +kernel, by decide⟩, q_mt8 (i := 197) (by decide +kernel) (by decide +kernel), q_mt8 (i := 198) (by decide +kernel) (by decide +kernel), TX11, 102, rfl⟩
theorem mm_X11_fills : qMV 1 11 mX11_fills := ⟨⟨q_mt8 (i := 223) (by decide +kernel) (by decide +kernel), q_mt1 (i := 13) (by decide +kernel) (by decide +kernel), by decide +kernel, by decide +kernel, by decide⟩, q_mt8 (i := 222) (by decide +kernel) (by decide +kernel), q_mt0 (i := 113) (by decide +kernel) (by decide +kernel), TX11, 102, rfl⟩
theorem mm_X11_mostFrom : qMV 1 11 mX11_mostFrom := ⟨⟨q_mt8 (i := 219) (by decide +kernel) (by decide +kernel), q_mt1 (i := 13) (by decide +kernel) (by decide +kernel), by decide +kernel, by decide +kernel, by decide⟩, q_mt8 (i := 218) (by decide +kernel) (by decide +kernel), q_mt0 (i := 112) (by decide +kernel) (by decide +kernel), TX11, 102, rfl⟩
theorem mm_X11_fillAll : qMV 2 11 mX11_fillAll := ⟨⟨q_mt8 (i := 215) (by decide +kernel) (by decide +kernel), q_mt1 (i := 13) (by decide +kernel) (by decide +kernel), by decide +kernel, by decide +kernel, by decide⟩, q_mt8 (i := 214) (by decide +kernel) (by decide +kernel), q_mt0 (i := 111) (by decide +kernel) (by decide +kernel), TX11, 102, rfl⟩
theorem mm_X11_filled : qMV 2 11 mX11_filled := ⟨⟨q_mt8 (i := 211) (by decide +kernel) (by decide +kernel), q_mt1 (i := 13) (by decide +kernel) (by decide +kernel), by decide +kernel, by decide +kernel, by decide⟩, q_mt8 (i := 209) (by decide +kernel) (by decide +kernel), q_mt8 (i := 210) (by decide +kernel) (by decide +kernel), TX11, 102, rfl⟩
theorem mm_X11_who : qMV 3 11 mX11_who := ⟨⟨q_mt8 (i := 227) (by decide +kernel) (by decide +kernel), q_mt1 (i := 13) (by decide +kernel) (by decide +kernel), by decide +kernel, by decide +kernel, by decide⟩, q_mt8 (i := 225) (by decide +kernel) (by decide +kernel), q_mt8 (i := 226) (by decide +kernel) (by decide +kernel), TX11, 102, rfl⟩
theorem mm_X11_mark : qMV 4 11 mX11_mark := ⟨⟨q_mt8 (i := 231) (by decide +kernel) (by decide +kernel), q_mt1 (i := 13) (by decide +kernel) (by decide +kernel), by decide +kernel, by decide +kernel, by decide⟩, q_mt8 (i := 229) (by decide +kernel) (by decide +kernel), q_mt8 (i := 230) (by decide +kernel) (by decide +kernel), TX11, 102, rfl⟩
theorem mm_X11_weight : qMV 2 11 mX11_weight := ⟨⟨q_mt8 (i := 238) (by decide +kernel) (by decide +kernel), q_mt1 (i := 13) (by decide +kernel) (by decide +kernel), by decide +kernel, by decide +kernel, by decide⟩, q_mt8 (i := 236) (by decide +kernel) (by decide +kernel), q_mt8 (i := 237) (by decide +kernel) (by decide +kernel), TX11, 102, rfl⟩
theorem mm_X11_common : qMS 2 mX11_common := ⟨⟨q_mt9 (i := 10) (by decide +kernel) (by decide +kernel), q_mt1 (i := 13) (by decide +kernel) (by decide +kernel), by decide +kernel, by decide +kernel, by decide⟩, q_mt9 (i := 9) (by decide +kernel) (by decide +kernel)⟩
theorem mm_X11_totals : qMV 1 11 mX11_totals := ⟨⟨q_mt9 (i := 7) (by decide +kernel) (by decide +kernel), q_mt1 (i := 13) (by decide +kernel) (by decide +kernel), by decide +kernel, by decide +kernel, by decide⟩, q_mt9 (i := 6) (by decide +kernel) (by decide +kernel), q_mt0 (i := 114) (by decide +kernel) (by decide +kernel), TX11, 102, rfl⟩
theorem mm_X11_total : qMV 1 11 mX11_total := ⟨⟨q_mt9 (i := 3) (by decide +kernel) (by decide +kernel), q_mt1 (i := 13) (by decide +kernel) (by decide +kernel), by decide +kernel, by decide +kernel, by decide⟩, q_mt9 (i := 1) (by decide +kernel) (by decide +kernel), q_mt9 (i := 2) (by decide +kernel) (by decide +kernel), TX11, 102, rfl⟩
theorem mm_X11_upper : qMV 0 11 mX11_upper := ⟨⟨q_mt9 (i := 14) (by decide +kernel) (by decide +kernel), q_mt1 (i := 13) (by decide +kernel) (by decide +kernel), by decide +kernel, by decide +kernel, by decide⟩, q_mt9 (i := 12) (by decide +kernel) (by decide +kernel), q_mt9 (i := 13) (by decide +kernel) (by decide +kernel), TX11, 102, rfl⟩
theorem mm_X11_lower : qMV 0 11 mX11_lower := ⟨⟨q_mt9 (i := 18) (by decide +kernel) (by decide +kernel), q_mt1 (i := 13) (by decide +kernel) (by decide +kernel), by decide +kernel, by decide +kernel, by decide⟩, q_mt9 (i := 16) (by decide +kernel) (by decide +kernel), q_mt9 (i := 17) (by decide +kernel) (by decide +kernel), TX11, 102, rfl⟩
theorem mm_X11_rank : qMV 1 11 mX11_rank := ⟨⟨q_mt9 (i := 22) (by decide +kernel) (by decide +kernel), q_mt1 (i := 13) (by decide +kernel) (by decide +kernel), by decide +kernel, by decide +kernel, by decide⟩, q_mt9 (i := 20) (by decide +kernel) (by decide +kernel), q_mt9 (i := 21) (by decide +kernel) (by decide +kernel), TX11, 102, rfl⟩
theorem mm_J9_floorDiv_7cf53 : qMS 2 mJ9_floorDiv_7cf53 := ⟨⟨q_mt4 (i := 167) (by decide +kernel) (by decide +kernel), q_mt1 (i := 15) (by decide +kernel) (by decide +kernel), by decide +kernel, by decide +kernel, by decide⟩, q_mt4 (i := 166) (by decide +kernel) (by decide +kernel)⟩
theorem mm_J9_max_7cf53 : qMS 2 mJ9_max_7cf53 := ⟨⟨q_mt4 (i := 186) (by decide +kernel) (by decide +kernel), q_mt1 (i := 15) (by decide +kernel) (by decide +kernel), by decide +kernel, by decide +kernel, by decide⟩, q_mt4 (i := 185) (by decide +kernel) (by decide +kernel)⟩
theorem mm_J9_min_7cf53 : qMS 2 mJ9_min_7cf53 := ⟨⟨q_mt3 (i := 177) (by decide +kernel) (by decide +kernel), q_mt1 (i := 15) (by decide +kernel) (by decide +kernel), by decide +kernel, by decide +kernel, by decide⟩, q_mt3 (i := 176) (by decide +kernel) (by decide +kernel)⟩
theorem mm_J7_fill_d0a16 : qMS 2 mJ7_fill_d0a16 := ⟨⟨q_mt3 (i := 59) (by decide +kernel) (by decide +kernel), q_mt1 (i := 9) (by decide +kernel) (by decide +kernel), by decide +kernel, by decide +kernel, by decide⟩, q_mt3 (i := 58) (by decide +kernel) (by decide +kernel)⟩
theorem mm_J7_fill_53178 : qMS 2 mJ7_fill_53178 := ⟨⟨q_mt2 (i := 86) (by decide +kernel) (by decide +kernel), q_mt1 (i := 9) (by decide +kernel) (by decide +kernel), by decide +kernel, by decide +kernel, by decide⟩, q_mt2 (i := 85) (by decide +kernel) (by decide +kernel)⟩
theorem mm_J7_fill_031fb : qMS 2 mJ7_fill_031fb := ⟨⟨q_mt5 (i := 146) (by decide +kernel) (by decide +kernel), q_mt1 (i := 9) (by decide +kernel) (by decide +kernel), by decide +kernel, by decide +kernel, by decide⟩, q_mt5 (i := 145) (by decide +kernel) (by decide +kernel)⟩
theorem lo_10_1 : Cond.methodLink RX10 1 objectInit ∈ qw := q_mt1 (i := 21) (by decide +kernel) (by decide +kernel)
theorem lm_10_17 : Cond.methodLinkNest RX10 17 mX2_init.1 "DrillField" ∈ lw_tbl := List.mem_of_getElem? (i := 143) (by decide +kernel)
theorem lm_10_24 : Cond.methodLinkNest RX10 24 mX4_init.1 "DrillField" ∈ lw_tbl := List.mem_of_getElem? (i := 199) (by decide +kernel)
theorem lm_10_31 : Cond.methodLinkNest RX10 31 mX1_init.1 "DrillField" ∈ lw_tbl := List.mem_of_getElem? (i := 254) (by decide +kernel)
theorem lm_10_38 : Cond.methodLinkNest RX10 38 mX3_init.1 "DrillField" ∈ lw_tbl := List.mem_of_getElem? (i := 302) (by decide +kernel)
theorem lm_10_45 : Cond.methodLinkNest RX10 45 mX9_init.1 "DrillField" ∈ lw_tbl := List.mem_of_getElem? (i := 356) (by decide +kernel)
theorem lm_10_52 : Cond.methodLinkNest RX10 52 mX5_init.1 "DrillField" ∈ lw_tbl := List.mem_of_getElem? (i := 382) (by decide +kernel)
theorem lm_10_59 : Cond.methodLink RX10 59 mX6_init.1 ∈ qw := q_mt2 (i := 80) (by decide +kernel) (by decide +kernel)
theorem lm_10_66 : Cond.methodLinkNest RX10 66 mX7_init.1 "DrillField" ∈ lw_tbl := List.mem_of_getElem? (i := 466) (by decide +kernel)
theorem lm_10_76 : Cond.methodLinkNest RX10 76 mX0_init.1 "DrillField" ∈ lw_tbl := List.mem_of_getElem? (i := 526) (by decide +kernel)
theorem lm_10_100 : Cond.methodLinkNest RX10 100 mX8_init.1 "DrillField" ∈ lw_tbl := List.mem_of_getElem? (i := 560) (by decide +kernel)
theorem lm_10_101 : Cond.methodLink RX10 101 mX10_isTray.1 ∈ qw := q_mt3 (i := 46) (by decide +kernel) (by decide +kernel)
theorem lm_10_105 : Cond.methodLink RX10 105 mX10_refuse.1 ∈ qw := q_mt3 (i := 49) (by decide +kernel) (by decide +kernel)
theorem lm_10_108 : Cond.methodLink RX10 108 mX8_lay.1 ∈ qw := q_mt3 (i := 53) (by decide +kernel) (by decide +kernel)
theorem lm_10_112 : Cond.methodLink RX10 112 mX10_agree.1 ∈ qw := q_mt3 (i := 60) (by decide +kernel) (by decide +kernel)
theorem lm_10_116 : Cond.methodLink RX10 116 mX10_placeStatus.1 ∈ qw := q_mt3 (i := 68) (by decide +kernel) (by decide +kernel)
theorem lm_10_120 : Cond.methodLink RX10 120 mX8_put.1 ∈ qw := q_mt3 (i := 76) (by decide +kernel) (by decide +kernel)
theorem lm_10_124 : Cond.methodLink RX10 124 mX10_none.1 ∈ qw := q_mt3 (i := 88) (by decide +kernel) (by decide +kernel)
theorem lm_10_139 : Cond.methodLink RX10 139 mX8_hasRange.1 ∈ qw := q_mt3 (i := 72) (by decide +kernel) (by decide +kernel)
theorem la_10_143 : Cond.methodLink RX10 143 arraycopyName ∈ qw := q_mt3 (i := 96) (by decide +kernel) (by decide +kernel)
theorem lm_10_149 : Cond.methodLink RX10 149 mX2_isSpot.1 ∈ qw := q_mt3 (i := 103) (by decide +kernel) (by decide +kernel)
theorem lm_10_152 : Cond.methodLink RX10 152 mX2_isFace.1 ∈ qw := q_mt3 (i := 106) (by decide +kernel) (by decide +kernel)
theorem lm_10_158 : Cond.methodLink RX10 158 mX2_addMarcher.1 ∈ qw := q_mt3 (i := 109) (by decide +kernel) (by decide +kernel)
theorem lm_10_162 : Cond.methodLink RX10 162 mX10_answer.1 ∈ qw := q_mt3 (i := 113) (by decide +kernel) (by decide +kernel)
theorem lm_10_168 : Cond.methodLink RX10 168 mX2_hasProp.1 ∈ qw := q_mt3 (i := 121) (by decide +kernel) (by decide +kernel)
theorem lm_10_171 : Cond.methodLink RX10 171 mX2_addProp.1 ∈ qw := q_mt3 (i := 125) (by decide +kernel) (by decide +kernel)
theorem lm_10_174 : Cond.methodLink RX10 174 mX2_isName.1 ∈ qw := q_mt3 (i := 133) (by decide +kernel) (by decide +kernel)
theorem lm_10_178 : Cond.methodLink RX10 178 mX2_isSet.1 ∈ qw := q_mt3 (i := 139) (by decide +kernel) (by decide +kernel)
theorem lm_10_181 : Cond.methodLink RX10 181 mX2_groupNamed.1 ∈ qw := q_mt3 (i := 143) (by decide +kernel) (by decide +kernel)
theorem lm_10_188 : Cond.methodLink RX10 188 mX2_tellGroup.1 ∈ qw := q_mt3 (i := 147) (by decide +kernel) (by decide +kernel)
theorem lm_10_195 : Cond.methodLink RX10 195 mX4_hasRoomForTwenty.1 ∈ qw := q_mt3 (i := 159) (by decide +kernel) (by decide +kernel)
theorem lm_10_198 : Cond.methodLink RX10 198 mX4_append.1 ∈ qw := q_mt3 (i := 163) (by decide +kernel) (by decide +kernel)
theorem lm_10_205 : Cond.methodLink RX10 205 mX4_readText.1 ∈ qw := q_mt3 (i := 171) (by decide +kernel) (by decide +kernel)
theorem lm_10_217 : Cond.methodLink RX10 217 mX1_stepThrough.1 ∈ qw := q_mt4 (i := 50) (by decide +kernel) (by decide +kernel)
theorem lm_10_229 : Cond.methodLink RX10 229 mX0_hasCount.1 ∈ qw := q_mt4 (i := 199) (by decide +kernel) (by decide +kernel)
theorem lm_10_232 : Cond.methodLink RX10 232 mX0_hasMarcher.1 ∈ qw := q_mt4 (i := 203) (by decide +kernel) (by decide +kernel)
theorem lm_10_235 : Cond.methodLink RX10 235 mX0_eastOf.1 ∈ qw := q_mt4 (i := 207) (by decide +kernel) (by decide +kernel)
theorem lm_10_238 : Cond.methodLink RX10 238 mX0_northOf.1 ∈ qw := q_mt4 (i := 208) (by decide +kernel) (by decide +kernel)
theorem lm_10_241 : Cond.methodLink RX10 241 mX0_faceOf.1 ∈ qw := q_mt4 (i := 209) (by decide +kernel) (by decide +kernel)
theorem lm_10_244 : Cond.methodLink RX10 244 mX0_clashes.1 ∈ qw := q_mt4 (i := 214) (by decide +kernel) (by decide +kernel)
theorem lm_10_248 : Cond.methodLink RX10 248 mX0_hits.1 ∈ qw := q_mt4 (i := 226) (by decide +kernel) (by decide +kernel)
theorem lm_10_252 : Cond.methodLink RX10 252 mX0_stepsAbove.1 ∈ qw := q_mt4 (i := 233) (by decide +kernel) (by decide +kernel)
theorem lm_10_258 : Cond.methodLink RX10 258 mX0_greatestStep.1 ∈ qw := q_mt5 (i := 1) (by decide +kernel) (by decide +kernel)
theorem lm_10_261 : Cond.methodLink RX10 261 mX0_findClash.1 ∈ qw := q_mt5 (i := 10) (by decide +kernel) (by decide +kernel)
theorem lm_10_264 : Cond.methodLink RX10 264 mX0_countOfClash.1 ∈ qw := q_mt5 (i := 14) (by decide +kernel) (by decide +kernel)
theorem lm_10_267 : Cond.methodLink RX10 267 mX0_lesserOfClash.1 ∈ qw := q_mt5 (i := 17) (by decide +kernel) (by decide +kernel)
theorem lm_10_270 : Cond.methodLink RX10 270 mX0_greaterOfClash.1 ∈ qw := q_mt5 (i := 20) (by decide +kernel) (by decide +kernel)
theorem lm_10_277 : Cond.methodLink RX10 277 mX0_hasAll.1 ∈ qw := q_mt5 (i := 27) (by decide +kernel) (by decide +kernel)
theorem lm_10_280 : Cond.methodLink RX10 280 mX0_isDressed.1 ∈ qw := q_mt5 (i := 31) (by decide +kernel) (by decide +kernel)
theorem lm_10_283 : Cond.methodLink RX10 283 mX0_likeness.1 ∈ qw := q_mt5 (i := 39) (by decide +kernel) (by decide +kernel)
theorem lm_10_286 : Cond.methodLink RX10 286 mX0_seenFrom.1 ∈ qw := q_mt5 (i := 67) (by decide +kernel) (by decide +kernel)
theorem lm_10_289 : Cond.methodLink RX10 289 mX3_takeSpots.1 ∈ qw := q_mt5 (i := 79) (by decide +kernel) (by decide +kernel)
theorem lm_10_293 : Cond.methodLink RX10 293 mX3_search.1 ∈ qw := q_mt5 (i := 85) (by decide +kernel) (by decide +kernel)
theorem lm_10_309 : Cond.methodLink RX10 309 mX2_hasMarcher.1 ∈ qw := q_mt5 (i := 125) (by decide +kernel) (by decide +kernel)
theorem lm_10_310 : Cond.methodLink RX10 310 mX2_spot.1 ∈ qw := q_mt5 (i := 129) (by decide +kernel) (by decide +kernel)
theorem lm_10_313 : Cond.methodLink RX10 313 mX9_search.1 ∈ qw := q_mt5 (i := 130) (by decide +kernel) (by decide +kernel)
theorem lm_10_317 : Cond.methodLink RX10 317 mX9_moveAt.1 ∈ qw := q_mt5 (i := 179) (by decide +kernel) (by decide +kernel)
theorem lm_10_323 : Cond.methodLink RX10 323 mX5_addPerson.1 ∈ qw := q_mt5 (i := 187) (by decide +kernel) (by decide +kernel)
theorem lm_10_326 : Cond.methodLink RX10 326 mX10_isDay.1 ∈ qw := q_mt5 (i := 195) (by decide +kernel) (by decide +kernel)
theorem lm_10_335 : Cond.methodLink RX10 335 mX5_addAway.1 ∈ qw := q_mt5 (i := 198) (by decide +kernel) (by decide +kernel)
theorem lm_10_339 : Cond.methodLink RX10 339 mX5_fill.1 ∈ qw := q_mt5 (i := 206) (by decide +kernel) (by decide +kernel)
theorem lm_10_345 : Cond.methodLink RX10 345 mX6_isShow.1 ∈ qw := q_mt6 (i := 7) (by decide +kernel) (by decide +kernel)
theorem lm_10_348 : Cond.methodLink RX10 348 mX6_isJudge.1 ∈ qw := q_mt6 (i := 10) (by decide +kernel) (by decide +kernel)
theorem lm_10_351 : Cond.methodLink RX10 351 mX6_isTrait.1 ∈ qw := q_mt6 (i := 13) (by decide +kernel) (by decide +kernel)
theorem lm_10_354 : Cond.methodLink RX10 354 mX6_give.1 ∈ qw := q_mt6 (i := 16) (by decide +kernel) (by decide +kernel)
theorem lm_10_360 : Cond.methodLink RX10 360 mX6_reckon.1 ∈ qw := q_mt6 (i := 28) (by decide +kernel) (by decide +kernel)
theorem lm_10_363 : Cond.methodLink RX10 363 mX6_tellFraction.1 ∈ qw := q_mt6 (i := 38) (by decide +kernel) (by decide +kernel)
theorem lm_10_373 : Cond.methodLink RX10 373 mX6_placeOf.1 ∈ qw := q_mt6 (i := 57) (by decide +kernel) (by decide +kernel)
theorem lo_0_5 : Cond.methodLink RX0 5 objectInit ∈ qw := q_mt2 (i := 174) (by decide +kernel) (by decide +kernel)
theorem lm_0_47 : Cond.methodLink RX0 47 mX0_put.1 ∈ qw := q_mt4 (i := 59) (by decide +kernel) (by decide +kernel)
theorem lm_0_51 : Cond.methodLink RX0 51 mX2_isSpot.1 ∈ qw := q_mt4 (i := 63) (by decide +kernel) (by decide +kernel)
theorem lm_0_55 : Cond.methodLink RX0 55 mX2_spot.1 ∈ qw := q_mt4 (i := 64) (by decide +kernel) (by decide +kernel)
theorem lm_0_59 : Cond.methodLink RX0 59 mX0_meet.1 ∈ qw := q_mt4 (i := 218) (by decide +kernel) (by decide +kernel)
theorem lm_0_63 : Cond.methodLink RX0 63 mX0_spotAt.1 ∈ qw := q_mt4 (i := 222) (by decide +kernel) (by decide +kernel)
theorem lm_0_66 : Cond.methodLink RX0 66 mX0_eastOf.1 ∈ qw := q_mt4 (i := 230) (by decide +kernel) (by decide +kernel)
theorem lm_0_69 : Cond.methodLink RX0 69 mX0_northOf.1 ∈ qw := q_mt4 (i := 231) (by decide +kernel) (by decide +kernel)
theorem lm_0_72 : Cond.methodLink RX0 72 mX2_hasProp.1 ∈ qw := q_mt4 (i := 232) (by decide +kernel) (by decide +kernel)
theorem lm_0_75 : Cond.methodLink RX0 75 mX0_stepSquare.1 ∈ qw := q_mt4 (i := 237) (by decide +kernel) (by decide +kernel)
theorem lm_0_78 : Cond.methodLink RX0 78 mJ9_max_7cf53.1 ∈ qw := q_mt5 (i := 5) (by decide +kernel) (by decide +kernel)
theorem lm_0_83 : Cond.methodLink RX0 83 mX0_layFigure.1 ∈ qw := q_mt5 (i := 43) (by decide +kernel) (by decide +kernel)
theorem lm_0_87 : Cond.methodLink RX0 87 mX0_sameFigure.1 ∈ qw := q_mt5 (i := 59) (by decide +kernel) (by decide +kernel)
theorem lm_0_91 : Cond.methodLink RX0 91 mX0_movedEast.1 ∈ qw := q_mt5 (i := 47) (by decide +kernel) (by decide +kernel)
theorem lm_0_95 : Cond.methodLink RX0 95 mJ9_min_7cf53.1 ∈ qw := q_mt5 (i := 51) (by decide +kernel) (by decide +kernel)
theorem lm_0_98 : Cond.methodLink RX0 98 mX0_movedNorth.1 ∈ qw := q_mt5 (i := 52) (by decide +kernel) (by decide +kernel)
theorem lm_0_101 : Cond.methodLink RX0 101 mX0_insert.1 ∈ qw := q_mt5 (i := 56) (by decide +kernel) (by decide +kernel)
theorem lm_0_104 : Cond.methodLink RX0 104 mX0_isSeen.1 ∈ qw := q_mt5 (i := 71) (by decide +kernel) (by decide +kernel)
theorem lo_1_5 : Cond.methodLink RX1 5 objectInit ∈ qw := q_mt1 (i := 142) (by decide +kernel) (by decide +kernel)
theorem lm_1_54 : Cond.methodLink RX1 54 mJ7_fill_53178.1 ∈ qw := q_mt4 (i := 54) (by decide +kernel) (by decide +kernel)
theorem lm_1_60 : Cond.methodLink RX1 60 mX0_begin.1 ∈ qw := q_mt4 (i := 55) (by decide +kernel) (by decide +kernel)
theorem lm_1_77 : Cond.methodLink RX1 77 mX1_gather.1 ∈ qw := q_mt4 (i := 67) (by decide +kernel) (by decide +kernel)
theorem lm_1_81 : Cond.methodLink RX1 81 mX7_lineBegin.1 ∈ qw := q_mt4 (i := 71) (by decide +kernel) (by decide +kernel)
theorem lm_1_88 : Cond.methodLink RX1 88 mX1_doLine.1 ∈ qw := q_mt4 (i := 75) (by decide +kernel) (by decide +kernel)
theorem lm_1_95 : Cond.methodLink RX1 95 mJ9_max_7cf53.1 ∈ qw := q_mt4 (i := 184) (by decide +kernel) (by decide +kernel)
theorem lm_1_101 : Cond.methodLink RX1 101 mX1_stayBehind.1 ∈ qw := q_mt4 (i := 187) (by decide +kernel) (by decide +kernel)
theorem lm_1_109 : Cond.methodLink RX1 109 mX0_copy.1 ∈ qw := q_mt4 (i := 130) (by decide +kernel) (by decide +kernel)
theorem lm_1_116 : Cond.methodLink RX1 116 mX1_behindRound.1 ∈ qw := q_mt4 (i := 79) (by decide +kernel) (by decide +kernel)
theorem lm_1_122 : Cond.methodLink RX1 122 mX1_countOrder.1 ∈ qw := q_mt4 (i := 83) (by decide +kernel) (by decide +kernel)
theorem lm_1_126 : Cond.methodLink RX1 126 mX1_doOrder.1 ∈ qw := q_mt4 (i := 91) (by decide +kernel) (by decide +kernel)
theorem lm_1_133 : Cond.methodLink RX1 133 mX1_fail.1 ∈ qw := q_mt4 (i := 87) (by decide +kernel) (by decide +kernel)
theorem lm_1_142 : Cond.methodLink RX1 142 mX1_stepAhead.1 ∈ qw := q_mt4 (i := 95) (by decide +kernel) (by decide +kernel)
theorem lm_1_146 : Cond.methodLink RX1 146 mX1_followPivot.1 ∈ qw := q_mt4 (i := 126) (by decide +kernel) (by decide +kernel)
theorem lm_1_150 : Cond.methodLink RX1 150 mX1_turnBody.1 ∈ qw := q_mt4 (i := 134) (by decide +kernel) (by decide +kernel)
theorem lm_1_153 : Cond.methodLink RX1 153 mX1_judgeTurn.1 ∈ qw := q_mt4 (i := 142) (by decide +kernel) (by decide +kernel)
theorem lm_1_156 : Cond.methodLink RX1 156 mX1_aimWheel.1 ∈ qw := q_mt4 (i := 146) (by decide +kernel) (by decide +kernel)
theorem lm_1_159 : Cond.methodLink RX1 159 mX1_slide.1 ∈ qw := q_mt4 (i := 158) (by decide +kernel) (by decide +kernel)
theorem lm_1_162 : Cond.methodLink RX1 162 mX1_aimOpen.1 ∈ qw := q_mt4 (i := 168) (by decide +kernel) (by decide +kernel)
theorem lm_1_165 : Cond.methodLink RX1 165 mX1_aimClose.1 ∈ qw := q_mt4 (i := 172) (by decide +kernel) (by decide +kernel)
theorem lm_1_171 : Cond.methodLink RX1 171 mX1_aimShift.1 ∈ qw := q_mt4 (i := 176) (by decide +kernel) (by decide +kernel)
theorem lm_1_174 : Cond.methodLink RX1 174 mX1_beginAgain.1 ∈ qw := q_mt4 (i := 180) (by decide +kernel) (by decide +kernel)
theorem lm_1_177 : Cond.methodLink RX1 177 mX1_stepOne.1 ∈ qw := q_mt4 (i := 99) (by decide +kernel) (by decide +kernel)
theorem lm_1_180 : Cond.methodLink RX1 180 mX0_faceOf.1 ∈ qw := q_mt4 (i := 103) (by decide +kernel) (by decide +kernel)
theorem lm_1_183 : Cond.methodLink RX1 183 mX0_eastOf.1 ∈ qw := q_mt4 (i := 107) (by decide +kernel) (by decide +kernel)
theorem lm_1_186 : Cond.methodLink RX1 186 mX2_eastStep.1 ∈ qw := q_mt4 (i := 111) (by decide +kernel) (by decide +kernel)
theorem lm_1_189 : Cond.methodLink RX1 189 mX0_northOf.1 ∈ qw := q_mt4 (i := 116) (by decide +kernel) (by decide +kernel)
theorem lm_1_192 : Cond.methodLink RX1 192 mX2_northStep.1 ∈ qw := q_mt4 (i := 120) (by decide +kernel) (by decide +kernel)
theorem lm_1_195 : Cond.methodLink RX1 195 mX0_put.1 ∈ qw := q_mt4 (i := 125) (by decide +kernel) (by decide +kernel)
theorem lm_1_199 : Cond.methodLink RX1 199 mX0_turnFace.1 ∈ qw := q_mt4 (i := 138) (by decide +kernel) (by decide +kernel)
theorem lm_1_206 : Cond.methodLink RX1 206 mX1_northFromPivot.1 ∈ qw := q_mt4 (i := 150) (by decide +kernel) (by decide +kernel)
theorem lm_1_210 : Cond.methodLink RX1 210 mX1_eastFromPivot.1 ∈ qw := q_mt4 (i := 154) (by decide +kernel) (by decide +kernel)
theorem lm_1_213 : Cond.methodLink RX1 213 mX1_between.1 ∈ qw := q_mt4 (i := 162) (by decide +kernel) (by decide +kernel)
theorem lm_1_217 : Cond.methodLink RX1 217 mJ9_floorDiv_7cf53.1 ∈ qw := q_mt4 (i := 165) (by decide +kernel) (by decide +kernel)
theorem lo_2_5 : Cond.methodLink RX2 5 objectInit ∈ qw := q_mt1 (i := 31) (by decide +kernel) (by decide +kernel)
theorem lo_3_5 : Cond.methodLink RX3 5 objectInit ∈ qw := q_mt1 (i := 190) (by decide +kernel) (by decide +kernel)
theorem lm_3_68 : Cond.methodLink RX3 68 mX3_layWays.1 ∈ qw := q_mt5 (i := 89) (by decide +kernel) (by decide +kernel)
theorem lm_3_72 : Cond.methodLink RX3 72 mX3_layMeetings.1 ∈ qw := q_mt5 (i := 95) (by decide +kernel) (by decide +kernel)
theorem lm_3_76 : Cond.methodLink RX3 76 mX3_choose.1 ∈ qw := q_mt5 (i := 103) (by decide +kernel) (by decide +kernel)
theorem la_3_80 : Cond.methodLink RX3 80 arraycopyName ∈ qw := q_mt5 (i := 111) (by decide +kernel) (by decide +kernel)
theorem lm_3_92 : Cond.methodLink RX3 92 mX1_between.1 ∈ qw := q_mt5 (i := 93) (by decide +kernel) (by decide +kernel)
theorem lm_3_98 : Cond.methodLink RX3 98 mX2_spot.1 ∈ qw := q_mt5 (i := 94) (by decide +kernel) (by decide +kernel)
theorem lm_3_102 : Cond.methodLink RX3 102 mX3_meet.1 ∈ qw := q_mt5 (i := 99) (by decide +kernel) (by decide +kernel)
theorem lm_3_106 : Cond.methodLink RX3 106 mX3_keepIfBetter.1 ∈ qw := q_mt5 (i := 107) (by decide +kernel) (by decide +kernel)
theorem lm_3_110 : Cond.methodLink RX3 110 mX3_isFree.1 ∈ qw := q_mt5 (i := 112) (by decide +kernel) (by decide +kernel)
theorem lm_3_114 : Cond.methodLink RX3 114 mJ9_max_7cf53.1 ∈ qw := q_mt5 (i := 116) (by decide +kernel) (by decide +kernel)
theorem lo_4_3 : Cond.methodLink RX4 3 objectInit ∈ qw := q_mt1 (i := 87) (by decide +kernel) (by decide +kernel)
theorem lm_4_60 : Cond.methodLink RX4 60 mJ9_min_7cf53.1 ∈ qw := q_mt3 (i := 175) (by decide +kernel) (by decide +kernel)
theorem lm_4_66 : Cond.methodLink RX4 66 mX7_clear.1 ∈ qw := q_mt3 (i := 178) (by decide +kernel) (by decide +kernel)
theorem lm_4_71 : Cond.methodLink RX4 71 mX4_nextToken.1 ∈ qw := q_mt3 (i := 182) (by decide +kernel) (by decide +kernel)
theorem lm_4_74 : Cond.methodLink RX4 74 mX4_takeToken.1 ∈ qw := q_mt3 (i := 211) (by decide +kernel) (by decide +kernel)
theorem lm_4_81 : Cond.methodLink RX4 81 mX4_fail.1 ∈ qw := q_mt3 (i := 215) (by decide +kernel) (by decide +kernel)
theorem lm_4_85 : Cond.methodLink RX4 85 mX4_takeName.1 ∈ qw := q_mt3 (i := 219) (by decide +kernel) (by decide +kernel)
theorem lm_4_88 : Cond.methodLink RX4 88 mX4_takeColon.1 ∈ qw := q_mt3 (i := 228) (by decide +kernel) (by decide +kernel)
theorem lm_4_91 : Cond.methodLink RX4 91 mX4_takeOrder.1 ∈ qw := q_mt3 (i := 236) (by decide +kernel) (by decide +kernel)
theorem lm_4_95 : Cond.methodLink RX4 95 mX4_takeBrace.1 ∈ qw := q_mt4 (i := 20) (by decide +kernel) (by decide +kernel)
theorem lm_4_98 : Cond.methodLink RX4 98 mX4_takeSide.1 ∈ qw := q_mt4 (i := 24) (by decide +kernel) (by decide +kernel)
theorem lm_4_101 : Cond.methodLink RX4 101 mX4_takeNumber.1 ∈ qw := q_mt4 (i := 30) (by decide +kernel) (by decide +kernel)
theorem lm_4_104 : Cond.methodLink RX4 104 mX2_groupNamed.1 ∈ qw := q_mt3 (i := 223) (by decide +kernel) (by decide +kernel)
theorem lm_4_113 : Cond.methodLink RX4 113 mX7_beginLine.1 ∈ qw := q_mt3 (i := 224) (by decide +kernel) (by decide +kernel)
theorem lm_4_116 : Cond.methodLink RX4 116 mX4_isSign.1 ∈ qw := q_mt3 (i := 232) (by decide +kernel) (by decide +kernel)
theorem lm_4_120 : Cond.methodLink RX4 120 mX7_endLine.1 ∈ qw := q_mt4 (i := 0) (by decide +kernel) (by decide +kernel)
theorem lm_4_129 : Cond.methodLink RX4 129 mX4_kindOf.1 ∈ qw := q_mt4 (i := 4) (by decide +kernel) (by decide +kernel)
theorem lm_4_132 : Cond.methodLink RX4 132 mX4_takeOrderWord.1 ∈ qw := q_mt4 (i := 9) (by decide +kernel) (by decide +kernel)
theorem lm_4_136 : Cond.methodLink RX4 136 mX7_addOrder.1 ∈ qw := q_mt4 (i := 13) (by decide +kernel) (by decide +kernel)
theorem lm_4_139 : Cond.methodLink RX4 139 mX4_wantedBehindWord.1 ∈ qw := q_mt4 (i := 17) (by decide +kernel) (by decide +kernel)
theorem lm_4_150 : Cond.methodLink RX4 150 mX4_isWithin.1 ∈ qw := q_mt4 (i := 34) (by decide +kernel) (by decide +kernel)
theorem lm_4_153 : Cond.methodLink RX4 153 mX4_keepNumber.1 ∈ qw := q_mt4 (i := 38) (by decide +kernel) (by decide +kernel)
theorem lm_4_162 : Cond.methodLink RX4 162 mX4_skipBlanks.1 ∈ qw := q_mt3 (i := 186) (by decide +kernel) (by decide +kernel)
theorem lm_4_165 : Cond.methodLink RX4 165 mX4_isLetter.1 ∈ qw := q_mt3 (i := 190) (by decide +kernel) (by decide +kernel)
theorem lm_4_168 : Cond.methodLink RX4 168 mX4_scanWord.1 ∈ qw := q_mt3 (i := 193) (by decide +kernel) (by decide +kernel)
theorem lm_4_171 : Cond.methodLink RX4 171 mX4_isDigit.1 ∈ qw := q_mt3 (i := 198) (by decide +kernel) (by decide +kernel)
theorem lm_4_174 : Cond.methodLink RX4 174 mX4_scanNumber.1 ∈ qw := q_mt3 (i := 201) (by decide +kernel) (by decide +kernel)
theorem lm_4_177 : Cond.methodLink RX4 177 mX4_scanSign.1 ∈ qw := q_mt3 (i := 207) (by decide +kernel) (by decide +kernel)
theorem lo_5_3 : Cond.methodLink RX5 3 objectInit ∈ qw := q_mt2 (i := 30) (by decide +kernel) (by decide +kernel)
theorem lm_5_57 : Cond.methodLink RX5 57 mX5_gone.1 ∈ qw := q_mt5 (i := 210) (by decide +kernel) (by decide +kernel)
theorem lm_5_61 : Cond.methodLink RX5 61 mX5_layCan.1 ∈ qw := q_mt5 (i := 214) (by decide +kernel) (by decide +kernel)
theorem lm_5_65 : Cond.methodLink RX5 65 mJ7_fill_53178.1 ∈ qw := q_mt5 (i := 218) (by decide +kernel) (by decide +kernel)
theorem lm_5_71 : Cond.methodLink RX5 71 mX5_fillOneMore.1 ∈ qw := q_mt5 (i := 219) (by decide +kernel) (by decide +kernel)
theorem lm_5_75 : Cond.methodLink RX5 75 mX5_settle.1 ∈ qw := q_mt5 (i := 231) (by decide +kernel) (by decide +kernel)
theorem lm_5_78 : Cond.methodLink RX5 78 mX5_tryPerson.1 ∈ qw := q_mt5 (i := 235) (by decide +kernel) (by decide +kernel)
theorem lm_5_82 : Cond.methodLink RX5 82 mX5_pair.1 ∈ qw := q_mt5 (i := 227) (by decide +kernel) (by decide +kernel)
theorem lm_5_86 : Cond.methodLink RX5 86 mX5_handOn.1 ∈ qw := q_mt5 (i := 223) (by decide +kernel) (by decide +kernel)
theorem lo_6_3 : Cond.methodLink RX6 3 objectInit ∈ qw := q_mt2 (i := 83) (by decide +kernel) (by decide +kernel)
theorem lm_6_31 : Cond.methodLink RX6 31 mJ7_fill_53178.1 ∈ qw := q_mt2 (i := 84) (by decide +kernel) (by decide +kernel)
theorem lm_6_37 : Cond.methodLink RX6 37 mX6_addTrait.1 ∈ qw := q_mt6 (i := 32) (by decide +kernel) (by decide +kernel)
theorem lm_6_41 : Cond.methodLink RX6 41 mJ9_min_7cf53.1 ∈ qw := q_mt6 (i := 36) (by decide +kernel) (by decide +kernel)
theorem lm_6_47 : Cond.methodLink RX6 47 mJ9_max_7cf53.1 ∈ qw := q_mt6 (i := 37) (by decide +kernel) (by decide +kernel)
theorem lm_6_50 : Cond.methodLink RX6 50 mX6_commonDivisor.1 ∈ qw := q_mt6 (i := 42) (by decide +kernel) (by decide +kernel)
theorem lm_6_54 : Cond.methodLink RX6 54 mX6_reckon.1 ∈ qw := q_mt6 (i := 61) (by decide +kernel) (by decide +kernel)
theorem lo_7_1 : Cond.methodLink RX7 1 objectInit ∈ qw := q_mt2 (i := 114) (by decide +kernel) (by decide +kernel)
theorem lo_8_1 : Cond.methodLink RX8 1 objectInit ∈ qw := q_mt2 (i := 208) (by decide +kernel) (by decide +kernel)
theorem lm_8_24 : Cond.methodLink RX8 24 mJ7_fill_d0a16.1 ∈ qw := q_mt3 (i := 57) (by decide +kernel) (by decide +kernel)
theorem lm_8_30 : Cond.methodLink RX8 30 mX8_cut.1 ∈ qw := q_mt3 (i := 80) (by decide +kernel) (by decide +kernel)
theorem lo_9_5 : Cond.methodLink RX9 5 objectInit ∈ qw := q_mt2 (i := 4) (by decide +kernel) (by decide +kernel)
theorem lm_9_35 : Cond.methodLink RX9 35 mX9_makeRows.1 ∈ qw := q_mt5 (i := 134) (by decide +kernel) (by decide +kernel)
theorem lm_9_38 : Cond.methodLink RX9 38 mX9_bar.1 ∈ qw := q_mt5 (i := 138) (by decide +kernel) (by decide +kernel)
theorem lm_9_42 : Cond.methodLink RX9 42 mJ7_fill_031fb.1 ∈ qw := q_mt5 (i := 144) (by decide +kernel) (by decide +kernel)
theorem lm_9_54 : Cond.methodLink RX9 54 mX2_spot.1 ∈ qw := q_mt5 (i := 147) (by decide +kernel) (by decide +kernel)
theorem lm_9_61 : Cond.methodLink RX9 61 mX9_visit.1 ∈ qw := q_mt5 (i := 148) (by decide +kernel) (by decide +kernel)
theorem lm_9_65 : Cond.methodLink RX9 65 mX9_keepMoves.1 ∈ qw := q_mt5 (i := 152) (by decide +kernel) (by decide +kernel)
theorem lm_9_69 : Cond.methodLink RX9 69 mX9_visitAhead.1 ∈ qw := q_mt5 (i := 169) (by decide +kernel) (by decide +kernel)
theorem lm_9_72 : Cond.methodLink RX9 72 mX9_turned.1 ∈ qw := q_mt5 (i := 166) (by decide +kernel) (by decide +kernel)
theorem la_9_78 : Cond.methodLink RX9 78 arraycopyName ∈ qw := q_mt5 (i := 142) (by decide +kernel) (by decide +kernel)
theorem lm_9_89 : Cond.methodLink RX9 89 mX2_eastStep.1 ∈ qw := q_mt5 (i := 164) (by decide +kernel) (by decide +kernel)
theorem lm_9_93 : Cond.methodLink RX9 93 mX2_northStep.1 ∈ qw := q_mt5 (i := 165) (by decide +kernel) (by decide +kernel)
theorem lm_9_96 : Cond.methodLink RX9 96 mX2_isSpot.1 ∈ qw := q_mt5 (i := 173) (by decide +kernel) (by decide +kernel)
theorem lm_9_100 : Cond.methodLink RX9 100 mX9_countMoves.1 ∈ qw := q_mt5 (i := 156) (by decide +kernel) (by decide +kernel)
theorem lm_9_103 : Cond.methodLink RX9 103 mX9_stateAhead.1 ∈ qw := q_mt5 (i := 160) (by decide +kernel) (by decide +kernel)
theorem lm_L_9 : Cond.methodLink RL 9 mX10_init.1 ∈ qw := q_mt1 (i := 18) (by decide +kernel) (by decide +kernel)
theorem lm_L_12 : Cond.methodLink RL 12 mX11_init.1 ∈ qw := q_mt6 (i := 64) (by decide +kernel) (by decide +kernel)
theorem lm_L_13 : Cond.methodLink RL 13 mX10_status.1 ∈ qw := q_mt3 (i := 38) (by decide +kernel) (by decide +kernel)
theorem lm_L_17 : Cond.methodLink RL 17 mX11_status.1 ∈ qw := q_mt7 (i := 135) (by decide +kernel) (by decide +kernel)
theorem lm_L_18 : Cond.methodLink RL 18 mX10_tray.1 ∈ qw := q_mt3 (i := 42) (by decide +kernel) (by decide +kernel)
theorem lm_L_22 : Cond.methodLink RL 22 mX11_tray.1 ∈ qw := q_mt7 (i := 139) (by decide +kernel) (by decide +kernel)
theorem lm_L_25 : Cond.methodLink RL 25 mX10_write.1 ∈ qw := q_mt3 (i := 64) (by decide +kernel) (by decide +kernel)
theorem lm_L_29 : Cond.methodLink RL 29 mX11_write.1 ∈ qw := q_mt7 (i := 147) (by decide +kernel) (by decide +kernel)
theorem lm_L_30 : Cond.methodLink RL 30 mX10_read.1 ∈ qw := q_mt3 (i := 84) (by decide +kernel) (by decide +kernel)
theorem lm_L_34 : Cond.methodLink RL 34 mX11_read.1 ∈ qw := q_mt7 (i := 162) (by decide +kernel) (by decide +kernel)
theorem lm_L_35 : Cond.methodLink RL 35 mX10_pour.1 ∈ qw := q_mt3 (i := 92) (by decide +kernel) (by decide +kernel)
theorem lm_L_39 : Cond.methodLink RL 39 mX11_pour.1 ∈ qw := q_mt7 (i := 167) (by decide +kernel) (by decide +kernel)
theorem lm_L_40 : Cond.methodLink RL 40 mX10_marcher.1 ∈ qw := q_mt3 (i := 99) (by decide +kernel) (by decide +kernel)
theorem lm_L_44 : Cond.methodLink RL 44 mX11_marcher.1 ∈ qw := q_mt7 (i := 171) (by decide +kernel) (by decide +kernel)
theorem lm_L_45 : Cond.methodLink RL 45 mX10_prop.1 ∈ qw := q_mt3 (i := 117) (by decide +kernel) (by decide +kernel)
theorem lm_L_49 : Cond.methodLink RL 49 mX11_prop.1 ∈ qw := q_mt7 (i := 188) (by decide +kernel) (by decide +kernel)
theorem lm_L_50 : Cond.methodLink RL 50 mX10_group.1 ∈ qw := q_mt3 (i := 129) (by decide +kernel) (by decide +kernel)
theorem lm_L_54 : Cond.methodLink RL 54 mX11_group.1 ∈ qw := q_mt7 (i := 192) (by decide +kernel) (by decide +kernel)
theorem lm_L_55 : Cond.methodLink RL 55 mX10_steps.1 ∈ qw := q_mt3 (i := 151) (by decide +kernel) (by decide +kernel)
theorem lm_L_59 : Cond.methodLink RL 59 mX11_steps.1 ∈ qw := q_mt7 (i := 206) (by decide +kernel) (by decide +kernel)
theorem lm_L_60 : Cond.methodLink RL 60 mX10_feed.1 ∈ qw := q_mt3 (i := 155) (by decide +kernel) (by decide +kernel)
theorem lm_L_64 : Cond.methodLink RL 64 mX11_feed.1 ∈ qw := q_mt7 (i := 211) (by decide +kernel) (by decide +kernel)
theorem lm_L_65 : Cond.methodLink RL 65 mX10_orders.1 ∈ qw := q_mt3 (i := 167) (by decide +kernel) (by decide +kernel)
theorem lm_L_69 : Cond.methodLink RL 69 mX11_orders.1 ∈ qw := q_mt7 (i := 219) (by decide +kernel) (by decide +kernel)
theorem lm_L_70 : Cond.methodLink RL 70 mX10_fault.1 ∈ qw := q_mt4 (i := 42) (by decide +kernel) (by decide +kernel)
theorem lm_L_73 : Cond.methodLink RL 73 mX11_fault.1 ∈ qw := q_mt8 (i := 41) (by decide +kernel) (by decide +kernel)
theorem lm_L_74 : Cond.methodLink RL 74 mX10_run.1 ∈ qw := q_mt4 (i := 46) (by decide +kernel) (by decide +kernel)
theorem lm_L_77 : Cond.methodLink RL 77 mX11_run.1 ∈ qw := q_mt8 (i := 45) (by decide +kernel) (by decide +kernel)
theorem lm_L_78 : Cond.methodLink RL 78 mX10_error.1 ∈ qw := q_mt4 (i := 191) (by decide +kernel) (by decide +kernel)
theorem lm_L_81 : Cond.methodLink RL 81 mX11_error.1 ∈ qw := q_mt8 (i := 95) (by decide +kernel) (by decide +kernel)
theorem lm_L_82 : Cond.methodLink RL 82 mX10_at.1 ∈ qw := q_mt4 (i := 195) (by decide +kernel) (by decide +kernel)
theorem lm_L_85 : Cond.methodLink RL 85 mX11_at.1 ∈ qw := q_mt8 (i := 99) (by decide +kernel) (by decide +kernel)
theorem lm_L_86 : Cond.methodLink RL 86 mX10_told.1 ∈ qw := q_mt4 (i := 210) (by decide +kernel) (by decide +kernel)
theorem lm_L_89 : Cond.methodLink RL 89 mX11_told.1 ∈ qw := q_mt8 (i := 107) (by decide +kernel) (by decide +kernel)
theorem lm_L_90 : Cond.methodLink RL 90 mX10_clash.1 ∈ qw := q_mt5 (i := 6) (by decide +kernel) (by decide +kernel)
theorem lm_L_94 : Cond.methodLink RL 94 mX11_clash.1 ∈ qw := q_mt8 (i := 124) (by decide +kernel) (by decide +kernel)
theorem lm_L_95 : Cond.methodLink RL 95 mX10_dressed.1 ∈ qw := q_mt5 (i := 23) (by decide +kernel) (by decide +kernel)
theorem lm_L_98 : Cond.methodLink RL 98 mX11_dressed.1 ∈ qw := q_mt8 (i := 129) (by decide +kernel) (by decide +kernel)
theorem lm_L_99 : Cond.methodLink RL 99 mX10_like.1 ∈ qw := q_mt5 (i := 35) (by decide +kernel) (by decide +kernel)
theorem lm_L_102 : Cond.methodLink RL 102 mX11_like.1 ∈ qw := q_mt8 (i := 133) (by decide +kernel) (by decide +kernel)
theorem lm_L_103 : Cond.methodLink RL 103 mX10_seen.1 ∈ qw := q_mt5 (i := 63) (by decide +kernel) (by decide +kernel)
theorem lm_L_106 : Cond.methodLink RL 106 mX11_seen.1 ∈ qw := q_mt8 (i := 142) (by decide +kernel) (by decide +kernel)
theorem lm_L_107 : Cond.methodLink RL 107 mX10_goes.1 ∈ qw := q_mt5 (i := 75) (by decide +kernel) (by decide +kernel)
theorem lm_L_110 : Cond.methodLink RL 110 mX11_goes_.1 ∈ qw := q_mt8 (i := 151) (by decide +kernel) (by decide +kernel)
theorem lm_L_111 : Cond.methodLink RL 111 mX10_spotOf.1 ∈ qw := q_mt5 (i := 117) (by decide +kernel) (by decide +kernel)
theorem lm_L_114 : Cond.methodLink RL 114 mX11_spotOf.1 ∈ qw := q_mt8 (i := 172) (by decide +kernel) (by decide +kernel)
theorem lm_L_115 : Cond.methodLink RL 115 mX10_path.1 ∈ qw := q_mt5 (i := 121) (by decide +kernel) (by decide +kernel)
theorem lm_L_119 : Cond.methodLink RL 119 mX11_path.1 ∈ qw := q_mt8 (i := 176) (by decide +kernel) (by decide +kernel)
theorem lm_L_120 : Cond.methodLink RL 120 mX10_move.1 ∈ qw := q_mt5 (i := 175) (by decide +kernel) (by decide +kernel)
theorem lm_L_123 : Cond.methodLink RL 123 mX11_move.1 ∈ qw := q_mt8 (i := 188) (by decide +kernel) (by decide +kernel)
theorem lm_L_124 : Cond.methodLink RL 124 mX10_person.1 ∈ qw := q_mt5 (i := 183) (by decide +kernel) (by decide +kernel)
theorem lm_L_127 : Cond.methodLink RL 127 mX11_person.1 ∈ qw := q_mt8 (i := 192) (by decide +kernel) (by decide +kernel)
theorem lm_L_128 : Cond.methodLink RL 128 mX10_away.1 ∈ qw := q_mt5 (i := 191) (by decide +kernel) (by decide +kernel)
theorem lm_L_132 : Cond.methodLink RL 132 mX11_away.1 ∈ qw := q_mt8 (i := 196) (by decide +kernel) (by decide +kernel)
theorem lm_L_133 : Cond.methodLink RL 133 mX10_filled.1 ∈ qw := q_mt5 (i := 202) (by decide +kernel) (by decide +kernel)
theorem lm_L_136 : Cond.methodLink RL 136 mX11_filled.1 ∈ qw := q_mt8 (i := 208) (by decide +kernel) (by decide +kernel)
theorem lm_L_137 : Cond.methodLink RL 137 mX10_who.1 ∈ qw := q_mt5 (i := 239) (by decide +kernel) (by decide +kernel)
theorem lm_L_140 : Cond.methodLink RL 140 mX11_who.1 ∈ qw := q_mt8 (i := 224) (by decide +kernel) (by decide +kernel)
theorem lm_L_141 : Cond.methodLink RL 141 mX10_mark.1 ∈ qw := q_mt6 (i := 3) (by decide +kernel) (by decide +kernel)
theorem lm_L_144 : Cond.methodLink RL 144 mX11_mark.1 ∈ qw := q_mt8 (i := 228) (by decide +kernel) (by decide +kernel)
theorem lm_L_145 : Cond.methodLink RL 145 mX10_weight.1 ∈ qw := q_mt6 (i := 20) (by decide +kernel) (by decide +kernel)
theorem lm_L_148 : Cond.methodLink RL 148 mX11_weight.1 ∈ qw := q_mt8 (i := 235) (by decide +kernel) (by decide +kernel)
theorem lm_L_149 : Cond.methodLink RL 149 mX10_total.1 ∈ qw := q_mt6 (i := 24) (by decide +kernel) (by decide +kernel)
theorem lm_L_152 : Cond.methodLink RL 152 mX11_total.1 ∈ qw := q_mt9 (i := 0) (by decide +kernel) (by decide +kernel)
theorem lm_L_153 : Cond.methodLink RL 153 mX10_upper.1 ∈ qw := q_mt6 (i := 45) (by decide +kernel) (by decide +kernel)
theorem lm_L_157 : Cond.methodLink RL 157 mX11_upper.1 ∈ qw := q_mt9 (i := 11) (by decide +kernel) (by decide +kernel)
theorem lm_L_158 : Cond.methodLink RL 158 mX10_lower.1 ∈ qw := q_mt6 (i := 49) (by decide +kernel) (by decide +kernel)
theorem lm_L_161 : Cond.methodLink RL 161 mX11_lower.1 ∈ qw := q_mt9 (i := 15) (by decide +kernel) (by decide +kernel)
theorem lm_L_162 : Cond.methodLink RL 162 mX10_rank.1 ∈ qw := q_mt6 (i := 53) (by decide +kernel) (by decide +kernel)
theorem lm_L_165 : Cond.methodLink RL 165 mX11_rank.1 ∈ qw := q_mt9 (i := 19) (by decide +kernel) (by decide +kernel)
theorem lo_11_1 : Cond.methodLink RX11 1 objectInit ∈ qw := q_mt6 (i := 67) (by decide +kernel) (by decide +kernel)
theorem lm_11_221 : Cond.methodLink RX11 221 mX11_isIn.1 ∈ qw := q_mt7 (i := 179) (by decide +kernel) (by decide +kernel)
theorem lm_11_227 : Cond.methodLink RX11 227 mX11_no.1 ∈ qw := q_mt7 (i := 143) (by decide +kernel) (by decide +kernel)
theorem lm_11_231 : Cond.methodLink RX11 231 mX11_trayed.1 ∈ qw := q_mt7 (i := 155) (by decide +kernel) (by decide +kernel)
theorem lm_11_235 : Cond.methodLink RX11 235 mX11_placed.1 ∈ qw := q_mt7 (i := 151) (by decide +kernel) (by decide +kernel)
theorem lm_11_239 : Cond.methodLink RX11 239 mX11_cut.1 ∈ qw := q_mt7 (i := 159) (by decide +kernel) (by decide +kernel)
theorem lm_11_248 : Cond.methodLink RX11 248 mX11_isSpot.1 ∈ qw := q_mt7 (i := 175) (by decide +kernel) (by decide +kernel)
theorem lm_11_254 : Cond.methodLink RX11 254 mX11_refuse.1 ∈ qw := q_mt7 (i := 184) (by decide +kernel) (by decide +kernel)
theorem lm_11_269 : Cond.methodLink RX11 269 mX11_isName.1 ∈ qw := q_mt7 (i := 196) (by decide +kernel) (by decide +kernel)
theorem lm_11_273 : Cond.methodLink RX11 273 mX11_groupOf.1 ∈ qw := q_mt7 (i := 202) (by decide +kernel) (by decide +kernel)
theorem lm_11_288 : Cond.methodLink RX11 288 mX11_look.1 ∈ qw := q_mt7 (i := 227) (by decide +kernel) (by decide +kernel)
theorem lm_11_294 : Cond.methodLink RX11 294 mX11_isLetter.1 ∈ qw := q_mt7 (i := 231) (by decide +kernel) (by decide +kernel)
theorem lm_11_305 : Cond.methodLink RX11 305 mX11_isDigit.1 ∈ qw := q_mt7 (i := 235) (by decide +kernel) (by decide +kernel)
theorem lm_11_317 : Cond.methodLink RX11 317 mX11_fail.1 ∈ qw := q_mt8 (i := 6) (by decide +kernel) (by decide +kernel)
theorem lm_11_321 : Cond.methodLink RX11 321 mX11_isSign.1 ∈ qw := q_mt8 (i := 14) (by decide +kernel) (by decide +kernel)
theorem lm_11_324 : Cond.methodLink RX11 324 mX11_next.1 ∈ qw := q_mt7 (i := 223) (by decide +kernel) (by decide +kernel)
theorem lm_11_327 : Cond.methodLink RX11 327 mX11_wrong.1 ∈ qw := q_mt8 (i := 2) (by decide +kernel) (by decide +kernel)
theorem lm_11_330 : Cond.methodLink RX11 330 mX11_spelled.1 ∈ qw := q_mt8 (i := 26) (by decide +kernel) (by decide +kernel)
theorem lm_11_334 : Cond.methodLink RX11 334 mX11_isWord.1 ∈ qw := q_mt8 (i := 29) (by decide +kernel) (by decide +kernel)
theorem lm_11_337 : Cond.methodLink RX11 337 mX11_count.1 ∈ qw := q_mt8 (i := 33) (by decide +kernel) (by decide +kernel)
theorem lm_11_340 : Cond.methodLink RX11 340 mX11_orderKind.1 ∈ qw := q_mt8 (i := 22) (by decide +kernel) (by decide +kernel)
theorem lm_11_347 : Cond.methodLink RX11 347 mX11_sign.1 ∈ qw := q_mt8 (i := 10) (by decide +kernel) (by decide +kernel)
theorem lm_11_351 : Cond.methodLink RX11 351 mX11_readOrder.1 ∈ qw := q_mt8 (i := 18) (by decide +kernel) (by decide +kernel)
theorem lm_11_354 : Cond.methodLink RX11 354 mX11_readWhole.1 ∈ qw := q_mt8 (i := 37) (by decide +kernel) (by decide +kernel)
theorem lm_11_363 : Cond.methodLink RX11 363 mX11_lay.1 ∈ qw := q_mt7 (i := 215) (by decide +kernel) (by decide +kernel)
theorem lm_11_366 : Cond.methodLink RX11 366 mX11_readLine.1 ∈ qw := q_mt7 (i := 238) (by decide +kernel) (by decide +kernel)
theorem lm_11_369 : Cond.methodLink RX11 369 mJ9_floorDiv_7cf53.1 ∈ qw := q_mt8 (i := 89) (by decide +kernel) (by decide +kernel)
theorem lm_11_383 : Cond.methodLink RX11 383 mX11_fails.1 ∈ qw := q_mt8 (i := 60) (by decide +kernel) (by decide +kernel)
theorem lm_11_385 : Cond.methodLink RX11 385 mX11_runOrders.1 ∈ qw := q_mt8 (i := 56) (by decide +kernel) (by decide +kernel)
theorem lm_11_388 : Cond.methodLink RX11 388 mX11_turns.1 ∈ qw := q_mt8 (i := 64) (by decide +kernel) (by decide +kernel)
theorem lm_11_391 : Cond.methodLink RX11 391 mX11_goes.1 ∈ qw := q_mt8 (i := 68) (by decide +kernel) (by decide +kernel)
theorem lm_11_405 : Cond.methodLink RX11 405 mX11_cell.1 ∈ qw := q_mt8 (i := 53) (by decide +kernel) (by decide +kernel)
theorem lm_11_408 : Cond.methodLink RX11 408 mX11_isWhole.1 ∈ qw := q_mt8 (i := 72) (by decide +kernel) (by decide +kernel)
theorem lm_11_411 : Cond.methodLink RX11 411 mX11_goesOne.1 ∈ qw := q_mt8 (i := 76) (by decide +kernel) (by decide +kernel)
theorem lm_11_415 : Cond.methodLink RX11 415 mX11_steps_.1 ∈ qw := q_mt8 (i := 90) (by decide +kernel) (by decide +kernel)
theorem lm_11_418 : Cond.methodLink RX11 418 mX11_eastOf.1 ∈ qw := q_mt8 (i := 80) (by decide +kernel) (by decide +kernel)
theorem lm_11_421 : Cond.methodLink RX11 421 mX11_northOf.1 ∈ qw := q_mt8 (i := 83) (by decide +kernel) (by decide +kernel)
theorem lm_11_424 : Cond.methodLink RX11 424 mX11_between.1 ∈ qw := q_mt8 (i := 86) (by decide +kernel) (by decide +kernel)
theorem lm_11_428 : Cond.methodLink RX11 428 mX11_stays.1 ∈ qw := q_mt8 (i := 49) (by decide +kernel) (by decide +kernel)
theorem lm_11_431 : Cond.methodLink RX11 431 mJ9_max_7cf53.1 ∈ qw := q_mt8 (i := 94) (by decide +kernel) (by decide +kernel)
theorem lm_11_440 : Cond.methodLink RX11 440 mX11_isCount.1 ∈ qw := q_mt8 (i := 103) (by decide +kernel) (by decide +kernel)
theorem lm_11_443 : Cond.methodLink RX11 443 mX11_areOn.1 ∈ qw := q_mt8 (i := 116) (by decide +kernel) (by decide +kernel)
theorem lm_11_449 : Cond.methodLink RX11 449 mX11_clashes.1 ∈ qw := q_mt8 (i := 112) (by decide +kernel) (by decide +kernel)
theorem lm_11_453 : Cond.methodLink RX11 453 mX11_squareOf.1 ∈ qw := q_mt8 (i := 120) (by decide +kernel) (by decide +kernel)
theorem lm_11_458 : Cond.methodLink RX11 458 mJ9_min_7cf53.1 ∈ qw := q_mt8 (i := 141) (by decide +kernel) (by decide +kernel)
theorem lm_11_461 : Cond.methodLink RX11 461 mX11_figure.1 ∈ qw := q_mt8 (i := 137) (by decide +kernel) (by decide +kernel)
theorem lm_11_467 : Cond.methodLink RX11 467 mX11_hides.1 ∈ qw := q_mt8 (i := 147) (by decide +kernel) (by decide +kernel)
theorem lm_11_471 : Cond.methodLink RX11 471 mX11_meetTwo.1 ∈ qw := q_mt8 (i := 164) (by decide +kernel) (by decide +kernel)
theorem lm_11_480 : Cond.methodLink RX11 480 mX11_meets.1 ∈ qw := q_mt8 (i := 160) (by decide +kernel) (by decide +kernel)
theorem lm_11_483 : Cond.methodLink RX11 483 mX11_wayOf.1 ∈ qw := q_mt8 (i := 168) (by decide +kernel) (by decide +kernel)
theorem lm_11_486 : Cond.methodLink RX11 486 mX11_tries.1 ∈ qw := q_mt8 (i := 156) (by decide +kernel) (by decide +kernel)
theorem lm_11_498 : Cond.methodLink RX11 498 mX11_isMarcher.1 ∈ qw := q_mt8 (i := 180) (by decide +kernel) (by decide +kernel)
theorem lm_11_501 : Cond.methodLink RX11 501 mX11_isFree.1 ∈ qw := q_mt8 (i := 184) (by decide +kernel) (by decide +kernel)
theorem lm_11_509 : Cond.methodLink RX11 509 mX11_isPerson.1 ∈ qw := q_mt8 (i := 200) (by decide +kernel) (by decide +kernel)
theorem lm_11_512 : Cond.methodLink RX11 512 mX11_isDay.1 ∈ qw := q_mt8 (i := 204) (by decide +kernel) (by decide +kernel)
theorem lm_11_521 : Cond.methodLink RX11 521 mX11_fills.1 ∈ qw := q_mt8 (i := 220) (by decide +kernel) (by decide +kernel)
theorem lm_11_524 : Cond.methodLink RX11 524 mX11_mostFrom.1 ∈ qw := q_mt8 (i := 216) (by decide +kernel) (by decide +kernel)
theorem lm_11_527 : Cond.methodLink RX11 527 mX11_fillAll.1 ∈ qw := q_mt8 (i := 212) (by decide +kernel) (by decide +kernel)
theorem lm_11_544 : Cond.methodLink RX11 544 mX11_totals.1 ∈ qw := q_mt9 (i := 4) (by decide +kernel) (by decide +kernel)
theorem lm_11_547 : Cond.methodLink RX11 547 mX11_common.1 ∈ qw := q_mt9 (i := 8) (by decide +kernel) (by decide +kernel)
theorem kl_2_50 : Cond.constantLong RX2 50 (Int64.ofInt (1099511627776)) ∈ qw := q_mt3 (i := 136) (by decide +kernel) (by decide +kernel)
theorem kl_2_52 : Cond.constantLong RX2 52 (Int64.ofInt (31)) ∈ qw := q_mt3 (i := 137) (by decide +kernel) (by decide +kernel)
theorem kl_2_54 : Cond.constantLong RX2 54 (Int64.ofInt (26)) ∈ qw := q_mt3 (i := 138) (by decide +kernel) (by decide +kernel)
theorem kl_3_64 : Cond.constantLong RX3 64 (Int64.ofInt (60)) ∈ qw := q_mt5 (i := 83) (by decide +kernel) (by decide +kernel)
theorem kl_3_66 : Cond.constantLong RX3 66 (Int64.ofInt (40)) ∈ qw := q_mt5 (i := 84) (by decide +kernel) (by decide +kernel)
theorem kl_4_143 : Cond.constantLong RX4 143 (Int64.ofInt (398548)) ∈ qw := q_mt4 (i := 28) (by decide +kernel) (by decide +kernel)
theorem kl_4_145 : Cond.constantLong RX4 145 (Int64.ofInt (19176724)) ∈ qw := q_mt4 (i := 29) (by decide +kernel) (by decide +kernel)
theorem kl_4_180 : Cond.constantLong RX4 180 (Int64.ofInt (-1)) ∈ qw := q_mt3 (i := 197) (by decide +kernel) (by decide +kernel)
theorem kl_4_182 : Cond.constantLong RX4 182 (Int64.ofInt (10)) ∈ qw := q_mt3 (i := 205) (by decide +kernel) (by decide +kernel)
theorem kl_4_184 : Cond.constantLong RX4 184 (Int64.ofInt (1000)) ∈ qw := q_mt3 (i := 206) (by decide +kernel) (by decide +kernel)
theorem kl_9_87 : Cond.constantLong RX9 87 (Int64.ofInt (-1)) ∈ qw := q_mt5 (i := 143) (by decide +kernel) (by decide +kernel)
theorem kl_L_23 : Cond.constantLong RL 23 (Int64.ofInt (4294967295)) ∈ qw := q_mt9 (i := 23) (by decide +kernel) (by decide +kernel)
theorem kl_11_219 : Cond.constantLong RX11 219 (Int64.ofInt (59)) ∈ qw := q_mt7 (i := 178) (by decide +kernel) (by decide +kernel)
theorem kl_11_225 : Cond.constantLong RX11 225 (Int64.ofInt (39)) ∈ qw := q_mt7 (i := 182) (by decide +kernel) (by decide +kernel)
theorem kl_11_243 : Cond.constantLong RX11 243 (Int64.ofInt (-1)) ∈ qw := q_mt7 (i := 166) (by decide +kernel) (by decide +kernel)
theorem kl_11_252 : Cond.constantLong RX11 252 (Int64.ofInt (7)) ∈ qw := q_mt7 (i := 183) (by decide +kernel) (by decide +kernel)
theorem kl_11_260 : Cond.constantLong RX11 260 (Int64.ofInt (1099511627776)) ∈ qw := q_mt7 (i := 199) (by decide +kernel) (by decide +kernel)
theorem kl_11_262 : Cond.constantLong RX11 262 (Int64.ofInt (32)) ∈ qw := q_mt7 (i := 200) (by decide +kernel) (by decide +kernel)
theorem kl_11_264 : Cond.constantLong RX11 264 (Int64.ofInt (26)) ∈ qw := q_mt7 (i := 201) (by decide +kernel) (by decide +kernel)
theorem kl_11_277 : Cond.constantLong RX11 277 (Int64.ofInt (50)) ∈ qw := q_mt7 (i := 210) (by decide +kernel) (by decide +kernel)
theorem kl_11_300 : Cond.constantLong RX11 300 (Int64.ofInt (96)) ∈ qw := q_mt7 (i := 234) (by decide +kernel) (by decide +kernel)
theorem kl_11_447 : Cond.constantLong RX11 447 (Int64.ofInt (4)) ∈ qw := q_mt8 (i := 111) (by decide +kernel) (by decide +kernel)
theorem kl_11_456 : Cond.constantLong RX11 456 (Int64.ofInt (2)) ∈ qw := q_mt8 (i := 128) (by decide +kernel) (by decide +kernel)
theorem kl_11_465 : Cond.constantLong RX11 465 (Int64.ofInt (40)) ∈ qw := q_mt8 (i := 146) (by decide +kernel) (by decide +kernel)
theorem kl_11_490 : Cond.constantLong RX11 490 (Int64.ofInt (6)) ∈ qw := q_mt8 (i := 155) (by decide +kernel) (by decide +kernel)
theorem kl_11_507 : Cond.constantLong RX11 507 (Int64.ofInt (9999)) ∈ qw := q_mt8 (i := 207) (by decide +kernel) (by decide +kernel)
theorem kl_11_530 : Cond.constantLong RX11 530 (Int64.ofInt (5)) ∈ qw := q_mt8 (i := 232) (by decide +kernel) (by decide +kernel)
theorem kl_11_532 : Cond.constantLong RX11 532 (Int64.ofInt (8)) ∈ qw := q_mt8 (i := 233) (by decide +kernel) (by decide +kernel)
theorem kl_11_534 : Cond.constantLong RX11 534 (Int64.ofInt (100)) ∈ qw := q_mt8 (i := 234) (by decide +kernel) (by decide +kernel)
theorem kl_11_536 : Cond.constantLong RX11 536 (Int64.ofInt (9)) ∈ qw := q_mt8 (i := 239) (by decide +kernel) (by decide +kernel)
theorem lc_10_9 : Cond.classLink RX10 9 RX8 ∈ qw := q_mt1 (i := 24) (by decide +kernel) (by decide +kernel)
theorem lc_10_15 : Cond.classLink RX10 15 RX2 ∈ qw := q_mt1 (i := 26) (by decide +kernel) (by decide +kernel)
theorem lc_10_22 : Cond.classLink RX10 22 RX4 ∈ qw := q_mt1 (i := 82) (by decide +kernel) (by decide +kernel)
theorem lc_10_29 : Cond.classLink RX10 29 RX1 ∈ qw := q_mt1 (i := 137) (by decide +kernel) (by decide +kernel)
theorem lc_10_36 : Cond.classLink RX10 36 RX3 ∈ qw := q_mt1 (i := 185) (by decide +kernel) (by decide +kernel)
theorem lc_10_43 : Cond.classLink RX10 43 RX9 ∈ qw := q_mt1 (i := 239) (by decide +kernel) (by decide +kernel)
theorem lc_10_50 : Cond.classLink RX10 50 RX5 ∈ qw := q_mt2 (i := 25) (by decide +kernel) (by decide +kernel)
theorem lc_10_57 : Cond.classLink RX10 57 RX6 ∈ qw := q_mt2 (i := 78) (by decide +kernel) (by decide +kernel)
theorem lc_10_64 : Cond.classLink RX10 64 RX7 ∈ qw := q_mt2 (i := 109) (by decide +kernel) (by decide +kernel)
theorem lc_10_74 : Cond.classLink RX10 74 RX0 ∈ qw := q_mt2 (i := 169) (by decide +kernel) (by decide +kernel)
theorem lc_L_7 : Cond.classLink RL 7 RX10 ∈ qw := q_mt1 (i := 16) (by decide +kernel) (by decide +kernel)
theorem lc_L_10 : Cond.classLink RL 10 RX11 ∈ qw := q_mt6 (i := 62) (by decide +kernel) (by decide +kernel)

