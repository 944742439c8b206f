theorem ck0 : ClsK 0 RX0 TX0 2 := ⟨rfl, by decide +kernel, tyX0_ok, nmX0⟩
theorem ini_X0 : Cond.initialized RX0 ∈ Tw := in_Tw (List.mem_of_getElem? (i := 151) (by decide +kernel)) rfl
theorem inst_X0 : Cond.instantiable RX0 2 ∈ Tw := in_Tw (List.mem_of_getElem? (i := 509) (by decide +kernel)) rfl
theorem ck1 : ClsK 1 RX1 TX1 5 := ⟨rfl, by decide +kernel, tyX1_ok, nmX1⟩
theorem ini_X1 : Cond.initialized RX1 ∈ Tw := in_Tw (List.mem_of_getElem? (i := 143) (by decide +kernel)) rfl
theorem inst_X1 : Cond.instantiable RX1 5 ∈ Tw := in_Tw (List.mem_of_getElem? (i := 214) (by decide +kernel)) rfl
theorem ck2 : ClsK 2 RX2 TX2 2 := ⟨rfl, by decide +kernel, tyX2_ok, nmX2⟩
theorem ini_X2 : Cond.initialized RX2 ∈ Tw := in_Tw (List.mem_of_getElem? (i := 149) (by decide +kernel)) rfl
theorem inst_X2 : Cond.instantiable RX2 2 ∈ Tw := in_Tw (List.mem_of_getElem? (i := 447) (by decide +kernel)) rfl
theorem ck3 : ClsK 3 RX3 TX3 11 := ⟨rfl, by decide +kernel, tyX3_ok, nmX3⟩
theorem ini_X3 : Cond.initialized RX3 ∈ Tw := in_Tw (List.mem_of_getElem? (i := 150) (by decide +kernel)) rfl
theorem inst_X3 : Cond.instantiable RX3 11 ∈ Tw := in_Tw (List.mem_of_getElem? (i := 460) (by decide +kernel)) rfl
theorem ck4 : ClsK 4 RX4 TX4 17 := ⟨rfl, by decide +kernel, tyX4_ok, nmX4⟩
theorem ini_X4 : Cond.initialized RX4 ∈ Tw := in_Tw (List.mem_of_getElem? (i := 148) (by decide +kernel)) rfl
theorem inst_X4 : Cond.instantiable RX4 17 ∈ Tw := in_Tw (List.mem_of_getElem? (i := 386) (by decide +kernel)) rfl
theorem ck5 : ClsK 5 RX5 TX5 3 := ⟨rfl, by decide +kernel, tyX5_ok, nmX5⟩
theorem ini_X5 : Cond.initialized RX5 ∈ Tw := in_Tw (List.mem_of_getElem? (i := 144) (by decide +kernel)) rfl
theorem inst_X5 : Cond.instantiable RX5 3 ∈ Tw := in_Tw (List.mem_of_getElem? (i := 245) (by decide +kernel)) rfl
theorem ck6 : ClsK 6 RX6 TX6 10 := ⟨rfl, by decide +kernel, tyX6_ok, nmX6⟩
theorem ini_X6 : Cond.initialized RX6 ∈ Tw := in_Tw (List.mem_of_getElem? (i := 141) (by decide +kernel)) rfl
theorem inst_X6 : Cond.instantiable RX6 10 ∈ Tw := in_Tw (List.mem_of_getElem? (i := 171) (by decide +kernel)) rfl
theorem ck7 : ClsK 7 RX7 TX7 3 := ⟨rfl, by decide +kernel, tyX7_ok, nmX7⟩
theorem ini_X7 : Cond.initialized RX7 ∈ Tw := in_Tw (List.mem_of_getElem? (i := 145) (by decide +kernel)) rfl
theorem inst_X7 : Cond.instantiable RX7 3 ∈ Tw := in_Tw (List.mem_of_getElem? (i := 263) (by decide +kernel)) rfl
theorem ck8 : ClsK 8 RX8 TX8 6 := ⟨rfl, by decide +kernel, tyX8_ok, nmX8⟩
theorem ini_X8 : Cond.initialized RX8 ∈ Tw := in_Tw (List.mem_of_getElem? (i := 142) (by decide +kernel)) rfl
theorem inst_X8 : Cond.instantiable RX8 6 ∈ Tw := in_Tw (List.mem_of_getElem? (i := 177) (by decide +kernel)) rfl
theorem ck9 : ClsK 9 RX9 TX9 8 := ⟨rfl, by decide +kernel, tyX9_ok, nmX9⟩
theorem ini_X9 : Cond.initialized RX9 ∈ Tw := in_Tw (List.mem_of_getElem? (i := 147) (by decide +kernel)) rfl
theorem inst_X9 : Cond.instantiable RX9 8 ∈ Tw := in_Tw (List.mem_of_getElem? (i := 353) (by decide +kernel)) rfl
theorem ck10 : ClsK 10 RX10 TX10 5 := ⟨rfl, by decide +kernel, tyX10_ok, nmX10⟩
theorem ini_X10 : Cond.initialized RX10 ∈ Tw := in_Tw (List.mem_of_getElem? (i := 146) (by decide +kernel)) rfl
theorem inst_X10 : Cond.instantiable RX10 5 ∈ Tw := in_Tw (List.mem_of_getElem? (i := 280) (by decide +kernel)) rfl
theorem ck11 : ClsK 11 RX11 TX11 10 := ⟨rfl, by decide +kernel, tyX11_ok, nmX11⟩
theorem ini_X11 : Cond.initialized RX11 ∈ Tw := in_Tw (List.mem_of_getElem? (i := 140) (by decide +kernel)) rfl
theorem inst_X11 : Cond.instantiable RX11 10 ∈ Tw := in_Tw (List.mem_of_getElem? (i := 163) (by decide +kernel)) rfl
theorem ck12 : ClsK 12 RX12 TX12 32 := ⟨rfl, by decide +kernel, tyX12_ok, nmX12⟩
theorem ini_X12 : Cond.initialized RX12 ∈ Tw := in_Tw (List.mem_of_getElem? (i := 152) (by decide +kernel)) rfl
theorem inst_X12 : Cond.instantiable RX12 32 ∈ Tw := in_Tw (List.mem_of_getElem? (i := 1221) (by decide +kernel)) rfl
theorem fk_X11_12 : Cond.fieldLink RX11 12 (TX11 0).1 (TX11 0).2.1 (TX11 0).2.2.1 ∈ Tw := in_Tw (List.mem_of_getElem? (i := 521) (by decide +kernel)) rfl
theorem fl_X11_12 : Fld RX11 12 11 0 RX11 TX11 10 := ⟨ck11, by decide, Or.inl fk_X11_12⟩
theorem fk_X11_16 : Cond.fieldLink RX11 16 (TX11 1).1 (TX11 1).2.1 (TX11 1).2.2.1 ∈ Tw := in_Tw (List.mem_of_getElem? (i := 522) (by decide +kernel)) rfl
theorem fl_X11_16 : Fld RX11 16 11 1 RX11 TX11 10 := ⟨ck11, by decide, Or.inl fk_X11_16⟩
theorem fk_X11_22 : Cond.fieldLink RX11 22 (TX11 2).1 (TX11 2).2.1 (TX11 2).2.2.1 ∈ Tw := in_Tw (List.mem_of_getElem? (i := 523) (by decide +kernel)) rfl
theorem fl_X11_22 : Fld RX11 22 11 2 RX11 TX11 10 := ⟨ck11, by decide, Or.inl fk_X11_22⟩
theorem fk_X11_29 : Cond.fieldLink RX11 29 (TX11 3).1 (TX11 3).2.1 (TX11 3).2.2.1 ∈ Tw := in_Tw (List.mem_of_getElem? (i := 524) (by decide +kernel)) rfl
theorem fl_X11_29 : Fld RX11 29 11 3 RX11 TX11 10 := ⟨ck11, by decide, Or.inl fk_X11_29⟩
theorem fk_X11_36 : Cond.fieldLink RX11 36 (TX11 4).1 (TX11 4).2.1 (TX11 4).2.2.1 ∈ Tw := in_Tw (List.mem_of_getElem? (i := 525) (by decide +kernel)) rfl
theorem fl_X11_36 : Fld RX11 36 11 4 RX11 TX11 10 := ⟨ck11, by decide, Or.inl fk_X11_36⟩
theorem fk_X11_43 : Cond.fieldLink RX11 43 (TX11 5).1 (TX11 5).2.1 (TX11 5).2.2.1 ∈ Tw := in_Tw (List.mem_of_getElem? (i := 526) (by decide +kernel)) rfl
theorem fl_X11_43 : Fld RX11 43 11 5 RX11 TX11 10 := ⟨ck11, by decide, Or.inl fk_X11_43⟩
theorem fk_X11_50 : Cond.fieldLink RX11 50 (TX11 6).1 (TX11 6).2.1 (TX11 6).2.2.1 ∈ Tw := in_Tw (List.mem_of_getElem? (i := 527) (by decide +kernel)) rfl
theorem fl_X11_50 : Fld RX11 50 11 6 RX11 TX11 10 := ⟨ck11, by decide, Or.inl fk_X11_50⟩
theorem fk_X11_54 : Cond.fieldLink RX11 54 (TX11 7).1 (TX11 7).2.1 (TX11 7).2.2.1 ∈ Tw := in_Tw (List.mem_of_getElem? (i := 528) (by decide +kernel)) rfl
theorem fl_X11_54 : Fld RX11 54 11 7 RX11 TX11 10 := ⟨ck11, by decide, Or.inl fk_X11_54⟩
theorem fk_X11_58 : Cond.fieldLink RX11 58 (TX11 8).1 (TX11 8).2.1 (TX11 8).2.2.1 ∈ Tw := in_Tw (List.mem_of_getElem? (i := 529) (by decide +kernel)) rfl
theorem fl_X11_58 : Fld RX11 58 11 8 RX11 TX11 10 := ⟨ck11, by decide, Or.inl fk_X11_58⟩
theorem fk_X11_62 : Cond.fieldLink RX11 62 (TX11 9).1 (TX11 9).2.1 (TX11 9).2.2.1 ∈ Tw := in_Tw (List.mem_of_getElem? (i := 530) (by decide +kernel)) rfl
theorem fl_X11_62 : Fld RX11 62 11 9 RX11 TX11 10 := ⟨ck11, by decide, Or.inl fk_X11_62⟩
theorem fl_X11_65 : Fld RX11 65 6 0 RX6 TX6 10 := ⟨ck6, by decide, Or.inr ⟨"WalledIn", in_Tw (List.mem_of_getElem? (i := 309) (by decide +kernel)) rfl⟩⟩
theorem fl_X11_81 : Fld RX11 81 8 5 RX8 TX8 6 := ⟨ck8, by decide, Or.inr ⟨"WalledIn", in_Tw (List.mem_of_getElem? (i := 197) (by decide +kernel)) rfl⟩⟩
theorem fl_X11_87 : Fld RX11 87 8 0 RX8 TX8 6 := ⟨ck8, by decide, Or.inr ⟨"WalledIn", in_Tw (List.mem_of_getElem? (i := 184) (by decide +kernel)) rfl⟩⟩
theorem fl_X11_91 : Fld RX11 91 8 1 RX8 TX8 6 := ⟨ck8, by decide, Or.inr ⟨"WalledIn", in_Tw (List.mem_of_getElem? (i := 187) (by decide +kernel)) rfl⟩⟩
theorem fl_X11_94 : Fld RX11 94 8 2 RX8 TX8 6 := ⟨ck8, by decide, Or.inr ⟨"WalledIn", in_Tw (List.mem_of_getElem? (i := 190) (by decide +kernel)) rfl⟩⟩
theorem fl_X11_97 : Fld RX11 97 8 3 RX8 TX8 6 := ⟨ck8, by decide, Or.inr ⟨"WalledIn", in_Tw (List.mem_of_getElem? (i := 193) (by decide +kernel)) rfl⟩⟩
theorem fl_X11_100 : Fld RX11 100 8 4 RX8 TX8 6 := ⟨ck8, by decide, Or.inr ⟨"WalledIn", in_Tw (List.mem_of_getElem? (i := 195) (by decide +kernel)) rfl⟩⟩
theorem fl_X11_103 : Fld RX11 103 6 8 RX6 TX6 10 := ⟨ck6, by decide, Or.inr ⟨"WalledIn", in_Tw (List.mem_of_getElem? (i := 328) (by decide +kernel)) rfl⟩⟩
theorem fl_X11_106 : Fld RX11 106 6 1 RX6 TX6 10 := ⟨ck6, by decide, Or.inr ⟨"WalledIn", in_Tw (List.mem_of_getElem? (i := 313) (by decide +kernel)) rfl⟩⟩
theorem fl_X11_110 : Fld RX11 110 1 4 RX1 TX1 5 := ⟨ck1, by decide, Or.inr ⟨"WalledIn", in_Tw (List.mem_of_getElem? (i := 232) (by decide +kernel)) rfl⟩⟩
theorem fl_X11_113 : Fld RX11 113 1 0 RX1 TX1 5 := ⟨ck1, by decide, Or.inr ⟨"WalledIn", in_Tw (List.mem_of_getElem? (i := 221) (by decide +kernel)) rfl⟩⟩
theorem fl_X11_116 : Fld RX11 116 1 1 RX1 TX1 5 := ⟨ck1, by decide, Or.inr ⟨"WalledIn", in_Tw (List.mem_of_getElem? (i := 225) (by decide +kernel)) rfl⟩⟩
theorem fl_X11_119 : Fld RX11 119 1 2 RX1 TX1 5 := ⟨ck1, by decide, Or.inr ⟨"WalledIn", in_Tw (List.mem_of_getElem? (i := 227) (by decide +kernel)) rfl⟩⟩
theorem fl_X11_129 : Fld RX11 129 9 4 RX9 TX9 8 := ⟨ck9, by decide, Or.inr ⟨"WalledIn", in_Tw (List.mem_of_getElem? (i := 363) (by decide +kernel)) rfl⟩⟩
theorem fl_X11_136 : Fld RX11 136 6 6 RX6 TX6 10 := ⟨ck6, by decide, Or.inr ⟨"WalledIn", in_Tw (List.mem_of_getElem? (i := 323) (by decide +kernel)) rfl⟩⟩
theorem fl_X11_143 : Fld RX11 143 4 9 RX4 TX4 17 := ⟨ck4, by decide, Or.inr ⟨"WalledIn", in_Tw (List.mem_of_getElem? (i := 402) (by decide +kernel)) rfl⟩⟩
theorem fl_X11_146 : Fld RX11 146 4 10 RX4 TX4 17 := ⟨ck4, by decide, Or.inr ⟨"WalledIn", in_Tw (List.mem_of_getElem? (i := 404) (by decide +kernel)) rfl⟩⟩
theorem fl_X11_149 : Fld RX11 149 6 5 RX6 TX6 10 := ⟨ck6, by decide, Or.inr ⟨"WalledIn", in_Tw (List.mem_of_getElem? (i := 321) (by decide +kernel)) rfl⟩⟩
theorem fl_X11_160 : Fld RX11 160 6 7 RX6 TX6 10 := ⟨ck6, by decide, Or.inr ⟨"WalledIn", in_Tw (List.mem_of_getElem? (i := 325) (by decide +kernel)) rfl⟩⟩
theorem fl_X11_177 : Fld RX11 177 6 9 RX6 TX6 10 := ⟨ck6, by decide, Or.inr ⟨"WalledIn", in_Tw (List.mem_of_getElem? (i := 330) (by decide +kernel)) rfl⟩⟩
theorem fl_X11_187 : Fld RX11 187 6 3 RX6 TX6 10 := ⟨ck6, by decide, Or.inr ⟨"WalledIn", in_Tw (List.mem_of_getElem? (i := 318) (by decide +kernel)) rfl⟩⟩
theorem fl_X11_204 : Fld RX11 204 10 4 RX10 TX10 5 := ⟨ck10, by decide, Or.inr ⟨"WalledIn", in_Tw (List.mem_of_getElem? (i := 295) (by decide +kernel)) rfl⟩⟩
theorem fl_X11_213 : Fld RX11 213 7 2 RX7 TX7 3 := ⟨ck7, by decide, Or.inr ⟨"WalledIn", in_Tw (List.mem_of_getElem? (i := 271) (by decide +kernel)) rfl⟩⟩
theorem fl_X11_222 : Fld RX11 222 3 5 RX3 TX3 11 := ⟨ck3, by decide, Or.inr ⟨"WalledIn", in_Tw (List.mem_of_getElem? (i := 474) (by decide +kernel)) rfl⟩⟩
theorem fl_X11_223 : Fld RX11 223 3 6 RX3 TX3 11 := ⟨ck3, by decide, Or.inr ⟨"WalledIn", in_Tw (List.mem_of_getElem? (i := 476) (by decide +kernel)) rfl⟩⟩
theorem fl_X11_226 : Fld RX11 226 3 2 RX3 TX3 11 := ⟨ck3, by decide, Or.inr ⟨"WalledIn", in_Tw (List.mem_of_getElem? (i := 470) (by decide +kernel)) rfl⟩⟩
theorem fl_X11_229 : Fld RX11 229 3 7 RX3 TX3 11 := ⟨ck3, by decide, Or.inr ⟨"WalledIn", in_Tw (List.mem_of_getElem? (i := 478) (by decide +kernel)) rfl⟩⟩
theorem fl_X11_233 : Fld RX11 233 6 2 RX6 TX6 10 := ⟨ck6, by decide, Or.inr ⟨"WalledIn", in_Tw (List.mem_of_getElem? (i := 316) (by decide +kernel)) rfl⟩⟩
theorem fl_X11_237 : Fld RX11 237 5 2 RX5 TX5 3 := ⟨ck5, by decide, Or.inr ⟨"WalledIn", in_Tw (List.mem_of_getElem? (i := 254) (by decide +kernel)) rfl⟩⟩
theorem fl_X11_248 : Fld RX11 248 3 8 RX3 TX3 11 := ⟨ck3, by decide, Or.inr ⟨"WalledIn", in_Tw (List.mem_of_getElem? (i := 480) (by decide +kernel)) rfl⟩⟩
theorem fl_X11_251 : Fld RX11 251 3 9 RX3 TX3 11 := ⟨ck3, by decide, Or.inr ⟨"WalledIn", in_Tw (List.mem_of_getElem? (i := 482) (by decide +kernel)) rfl⟩⟩
theorem fl_X11_254 : Fld RX11 254 3 10 RX3 TX3 11 := ⟨ck3, by decide, Or.inr ⟨"WalledIn", in_Tw (List.mem_of_getElem? (i := 484) (by decide +kernel)) rfl⟩⟩
theorem fk_X0_9 : Cond.fieldLink RX0 9 (TX0 0).1 (TX0 0).2.1 (TX0 0).2.2.1 ∈ Tw := in_Tw (List.mem_of_getElem? (i := 514) (by decide +kernel)) rfl
theorem fl_X0_9 : Fld RX0 9 0 0 RX0 TX0 2 := ⟨ck0, by decide, Or.inl fk_X0_9⟩
theorem fk_X0_15 : Cond.fieldLink RX0 15 (TX0 1).1 (TX0 1).2.1 (TX0 1).2.2.1 ∈ Tw := in_Tw (List.mem_of_getElem? (i := 515) (by decide +kernel)) rfl
theorem fl_X0_15 : Fld RX0 15 0 1 RX0 TX0 2 := ⟨ck0, by decide, Or.inl fk_X0_15⟩
theorem fl_X0_18 : Fld RX0 18 1 4 RX1 TX1 5 := ⟨ck1, by decide, Or.inr ⟨"WalledIn", in_Tw (List.mem_of_getElem? (i := 230) (by decide +kernel)) rfl⟩⟩
theorem fl_X0_30 : Fld RX0 30 1 1 RX1 TX1 5 := ⟨ck1, by decide, Or.inr ⟨"WalledIn", in_Tw (List.mem_of_getElem? (i := 223) (by decide +kernel)) rfl⟩⟩
theorem fk_X1_9 : Cond.fieldLink RX1 9 (TX1 0).1 (TX1 0).2.1 (TX1 0).2.2.1 ∈ Tw := in_Tw (List.mem_of_getElem? (i := 219) (by decide +kernel)) rfl
theorem fl_X1_9 : Fld RX1 9 1 0 RX1 TX1 5 := ⟨ck1, by decide, Or.inl fk_X1_9⟩
theorem fk_X1_15 : Cond.fieldLink RX1 15 (TX1 1).1 (TX1 1).2.1 (TX1 1).2.2.1 ∈ Tw := in_Tw (List.mem_of_getElem? (i := 222) (by decide +kernel)) rfl
theorem fl_X1_15 : Fld RX1 15 1 1 RX1 TX1 5 := ⟨ck1, by decide, Or.inl fk_X1_15⟩
theorem fk_X1_18 : Cond.fieldLink RX1 18 (TX1 2).1 (TX1 2).2.1 (TX1 2).2.2.1 ∈ Tw := in_Tw (List.mem_of_getElem? (i := 226) (by decide +kernel)) rfl
theorem fl_X1_18 : Fld RX1 18 1 2 RX1 TX1 5 := ⟨ck1, by decide, Or.inl fk_X1_18⟩
theorem fk_X1_21 : Cond.fieldLink RX1 21 (TX1 3).1 (TX1 3).2.1 (TX1 3).2.2.1 ∈ Tw := in_Tw (List.mem_of_getElem? (i := 228) (by decide +kernel)) rfl
theorem fl_X1_21 : Fld RX1 21 1 3 RX1 TX1 5 := ⟨ck1, by decide, Or.inl fk_X1_21⟩
theorem fk_X1_24 : Cond.fieldLink RX1 24 (TX1 4).1 (TX1 4).2.1 (TX1 4).2.2.1 ∈ Tw := in_Tw (List.mem_of_getElem? (i := 229) (by decide +kernel)) rfl
theorem fl_X1_24 : Fld RX1 24 1 4 RX1 TX1 5 := ⟨ck1, by decide, Or.inl fk_X1_24⟩
theorem fk_X2_9 : Cond.fieldLink RX2 9 (TX2 0).1 (TX2 0).2.1 (TX2 0).2.2.1 ∈ Tw := in_Tw (List.mem_of_getElem? (i := 452) (by decide +kernel)) rfl
theorem fl_X2_9 : Fld RX2 9 2 0 RX2 TX2 2 := ⟨ck2, by decide, Or.inl fk_X2_9⟩
theorem fk_X2_15 : Cond.fieldLink RX2 15 (TX2 1).1 (TX2 1).2.1 (TX2 1).2.2.1 ∈ Tw := in_Tw (List.mem_of_getElem? (i := 453) (by decide +kernel)) rfl
theorem fl_X2_15 : Fld RX2 15 2 1 RX2 TX2 2 := ⟨ck2, by decide, Or.inl fk_X2_15⟩
theorem fl_X2_24 : Fld RX2 24 10 0 RX10 TX10 5 := ⟨ck10, by decide, Or.inr ⟨"WalledIn", in_Tw (List.mem_of_getElem? (i := 288) (by decide +kernel)) rfl⟩⟩
theorem fl_X2_29 : Fld RX2 29 6 0 RX6 TX6 10 := ⟨ck6, by decide, Or.inr ⟨"WalledIn", in_Tw (List.mem_of_getElem? (i := 310) (by decide +kernel)) rfl⟩⟩
theorem fl_X2_33 : Fld RX2 33 8 0 RX8 TX8 6 := ⟨ck8, by decide, Or.inr ⟨"WalledIn", in_Tw (List.mem_of_getElem? (i := 183) (by decide +kernel)) rfl⟩⟩
theorem fl_X2_38 : Fld RX2 38 8 1 RX8 TX8 6 := ⟨ck8, by decide, Or.inr ⟨"WalledIn", in_Tw (List.mem_of_getElem? (i := 186) (by decide +kernel)) rfl⟩⟩
theorem fl_X2_45 : Fld RX2 45 6 8 RX6 TX6 10 := ⟨ck6, by decide, Or.inr ⟨"WalledIn", in_Tw (List.mem_of_getElem? (i := 327) (by decide +kernel)) rfl⟩⟩
theorem fl_X2_66 : Fld RX2 66 10 1 RX10 TX10 5 := ⟨ck10, by decide, Or.inr ⟨"WalledIn", in_Tw (List.mem_of_getElem? (i := 290) (by decide +kernel)) rfl⟩⟩
theorem fl_X2_69 : Fld RX2 69 10 2 RX10 TX10 5 := ⟨ck10, by decide, Or.inr ⟨"WalledIn", in_Tw (List.mem_of_getElem? (i := 292) (by decide +kernel)) rfl⟩⟩
theorem fl_X2_72 : Fld RX2 72 8 2 RX8 TX8 6 := ⟨ck8, by decide, Or.inr ⟨"WalledIn", in_Tw (List.mem_of_getElem? (i := 191) (by decide +kernel)) rfl⟩⟩
theorem fk_X3_11 : Cond.fieldLink RX3 11 (TX3 0).1 (TX3 0).2.1 (TX3 0).2.2.1 ∈ Tw := in_Tw (List.mem_of_getElem? (i := 467) (by decide +kernel)) rfl
theorem fl_X3_11 : Fld RX3 11 3 0 RX3 TX3 11 := ⟨ck3, by decide, Or.inl fk_X3_11⟩
theorem fk_X3_15 : Cond.fieldLink RX3 15 (TX3 1).1 (TX3 1).2.1 (TX3 1).2.2.1 ∈ Tw := in_Tw (List.mem_of_getElem? (i := 468) (by decide +kernel)) rfl
theorem fl_X3_15 : Fld RX3 15 3 1 RX3 TX3 11 := ⟨ck3, by decide, Or.inl fk_X3_15⟩
theorem fk_X3_18 : Cond.fieldLink RX3 18 (TX3 2).1 (TX3 2).2.1 (TX3 2).2.2.1 ∈ Tw := in_Tw (List.mem_of_getElem? (i := 469) (by decide +kernel)) rfl
theorem fl_X3_18 : Fld RX3 18 3 2 RX3 TX3 11 := ⟨ck3, by decide, Or.inl fk_X3_18⟩
theorem fk_X3_24 : Cond.fieldLink RX3 24 (TX3 3).1 (TX3 3).2.1 (TX3 3).2.2.1 ∈ Tw := in_Tw (List.mem_of_getElem? (i := 471) (by decide +kernel)) rfl
theorem fl_X3_24 : Fld RX3 24 3 3 RX3 TX3 11 := ⟨ck3, by decide, Or.inl fk_X3_24⟩
theorem fk_X3_28 : Cond.fieldLink RX3 28 (TX3 4).1 (TX3 4).2.1 (TX3 4).2.2.1 ∈ Tw := in_Tw (List.mem_of_getElem? (i := 472) (by decide +kernel)) rfl
theorem fl_X3_28 : Fld RX3 28 3 4 RX3 TX3 11 := ⟨ck3, by decide, Or.inl fk_X3_28⟩
theorem fk_X3_32 : Cond.fieldLink RX3 32 (TX3 5).1 (TX3 5).2.1 (TX3 5).2.2.1 ∈ Tw := in_Tw (List.mem_of_getElem? (i := 473) (by decide +kernel)) rfl
theorem fl_X3_32 : Fld RX3 32 3 5 RX3 TX3 11 := ⟨ck3, by decide, Or.inl fk_X3_32⟩
theorem fk_X3_36 : Cond.fieldLink RX3 36 (TX3 6).1 (TX3 6).2.1 (TX3 6).2.2.1 ∈ Tw := in_Tw (List.mem_of_getElem? (i := 475) (by decide +kernel)) rfl
theorem fl_X3_36 : Fld RX3 36 3 6 RX3 TX3 11 := ⟨ck3, by decide, Or.inl fk_X3_36⟩
theorem fk_X3_39 : Cond.fieldLink RX3 39 (TX3 7).1 (TX3 7).2.1 (TX3 7).2.2.1 ∈ Tw := in_Tw (List.mem_of_getElem? (i := 477) (by decide +kernel)) rfl
theorem fl_X3_39 : Fld RX3 39 3 7 RX3 TX3 11 := ⟨ck3, by decide, Or.inl fk_X3_39⟩
theorem fk_X3_43 : Cond.fieldLink RX3 43 (TX3 8).1 (TX3 8).2.1 (TX3 8).2.2.1 ∈ Tw := in_Tw (List.mem_of_getElem? (i := 479) (by decide +kernel)) rfl
theorem fl_X3_43 : Fld RX3 43 3 8 RX3 TX3 11 := ⟨ck3, by decide, Or.inl fk_X3_43⟩
theorem fk_X3_46 : Cond.fieldLink RX3 46 (TX3 9).1 (TX3 9).2.1 (TX3 9).2.2.1 ∈ Tw := in_Tw (List.mem_of_getElem? (i := 481) (by decide +kernel)) rfl
theorem fl_X3_46 : Fld RX3 46 3 9 RX3 TX3 11 := ⟨ck3, by decide, Or.inl fk_X3_46⟩
theorem fk_X3_49 : Cond.fieldLink RX3 49 (TX3 10).1 (TX3 10).2.1 (TX3 10).2.2.1 ∈ Tw := in_Tw (List.mem_of_getElem? (i := 483) (by decide +kernel)) rfl
theorem fl_X3_49 : Fld RX3 49 3 10 RX3 TX3 11 := ⟨ck3, by decide, Or.inl fk_X3_49⟩
theorem fl_X3_58 : Fld RX3 58 6 0 RX6 TX6 10 := ⟨ck6, by decide, Or.inr ⟨"WalledIn", in_Tw (List.mem_of_getElem? (i := 311) (by decide +kernel)) rfl⟩⟩
theorem fl_X3_64 : Fld RX3 64 8 5 RX8 TX8 6 := ⟨ck8, by decide, Or.inr ⟨"WalledIn", in_Tw (List.mem_of_getElem? (i := 198) (by decide +kernel)) rfl⟩⟩
theorem fl_X3_99 : Fld RX3 99 6 2 RX6 TX6 10 := ⟨ck6, by decide, Or.inr ⟨"WalledIn", in_Tw (List.mem_of_getElem? (i := 315) (by decide +kernel)) rfl⟩⟩
theorem fl_X3_103 : Fld RX3 103 8 1 RX8 TX8 6 := ⟨ck8, by decide, Or.inr ⟨"WalledIn", in_Tw (List.mem_of_getElem? (i := 188) (by decide +kernel)) rfl⟩⟩
theorem fl_X3_140 : Fld RX3 140 5 2 RX5 TX5 3 := ⟨ck5, by decide, Or.inr ⟨"WalledIn", in_Tw (List.mem_of_getElem? (i := 253) (by decide +kernel)) rfl⟩⟩
theorem fk_X4_11 : Cond.fieldLink RX4 11 (TX4 0).1 (TX4 0).2.1 (TX4 0).2.2.1 ∈ Tw := in_Tw (List.mem_of_getElem? (i := 392) (by decide +kernel)) rfl
theorem fl_X4_11 : Fld RX4 11 4 0 RX4 TX4 17 := ⟨ck4, by decide, Or.inl fk_X4_11⟩
theorem fk_X4_17 : Cond.fieldLink RX4 17 (TX4 1).1 (TX4 1).2.1 (TX4 1).2.2.1 ∈ Tw := in_Tw (List.mem_of_getElem? (i := 393) (by decide +kernel)) rfl
theorem fl_X4_17 : Fld RX4 17 4 1 RX4 TX4 17 := ⟨ck4, by decide, Or.inl fk_X4_17⟩
theorem fk_X4_20 : Cond.fieldLink RX4 20 (TX4 2).1 (TX4 2).2.1 (TX4 2).2.2.1 ∈ Tw := in_Tw (List.mem_of_getElem? (i := 394) (by decide +kernel)) rfl
theorem fl_X4_20 : Fld RX4 20 4 2 RX4 TX4 17 := ⟨ck4, by decide, Or.inl fk_X4_20⟩
theorem nc_X4_23 : Cond.fieldLink RX4 23 "WalledIn" "NO_CODE" "[I" ∈ Tw ∨ ∃ host, Cond.fieldLinkNest RX4 23 "WalledIn" "NO_CODE" "[I" host ∈ Tw := Or.inr ⟨"WalledIn", in_Tw (List.mem_of_getElem? (i := 391) (by decide +kernel)) rfl⟩
theorem fk_X4_26 : Cond.fieldLink RX4 26 (TX4 3).1 (TX4 3).2.1 (TX4 3).2.2.1 ∈ Tw := in_Tw (List.mem_of_getElem? (i := 395) (by decide +kernel)) rfl
theorem fl_X4_26 : Fld RX4 26 4 3 RX4 TX4 17 := ⟨ck4, by decide, Or.inl fk_X4_26⟩
theorem fk_X4_29 : Cond.fieldLink RX4 29 (TX4 4).1 (TX4 4).2.1 (TX4 4).2.2.1 ∈ Tw := in_Tw (List.mem_of_getElem? (i := 396) (by decide +kernel)) rfl
theorem fl_X4_29 : Fld RX4 29 4 4 RX4 TX4 17 := ⟨ck4, by decide, Or.inl fk_X4_29⟩
theorem fk_X4_32 : Cond.fieldLink RX4 32 (TX4 5).1 (TX4 5).2.1 (TX4 5).2.2.1 ∈ Tw := in_Tw (List.mem_of_getElem? (i := 397) (by decide +kernel)) rfl
theorem fl_X4_32 : Fld RX4 32 4 5 RX4 TX4 17 := ⟨ck4, by decide, Or.inl fk_X4_32⟩
theorem fk_X4_35 : Cond.fieldLink RX4 35 (TX4 6).1 (TX4 6).2.1 (TX4 6).2.2.1 ∈ Tw := in_Tw (List.mem_of_getElem? (i := 398) (by decide +kernel)) rfl
theorem fl_X4_35 : Fld RX4 35 4 6 RX4 TX4 17 := ⟨ck4, by decide, Or.inl fk_X4_35⟩
theorem fk_X4_39 : Cond.fieldLink RX4 39 (TX4 7).1 (TX4 7).2.1 (TX4 7).2.2.1 ∈ Tw := in_Tw (List.mem_of_getElem? (i := 399) (by decide +kernel)) rfl
theorem fl_X4_39 : Fld RX4 39 4 7 RX4 TX4 17 := ⟨ck4, by decide, Or.inl fk_X4_39⟩
theorem fk_X4_42 : Cond.fieldLink RX4 42 (TX4 8).1 (TX4 8).2.1 (TX4 8).2.2.1 ∈ Tw := in_Tw (List.mem_of_getElem? (i := 400) (by decide +kernel)) rfl
theorem fl_X4_42 : Fld RX4 42 4 8 RX4 TX4 17 := ⟨ck4, by decide, Or.inl fk_X4_42⟩
theorem fk_X4_45 : Cond.fieldLink RX4 45 (TX4 9).1 (TX4 9).2.1 (TX4 9).2.2.1 ∈ Tw := in_Tw (List.mem_of_getElem? (i := 401) (by decide +kernel)) rfl
theorem fl_X4_45 : Fld RX4 45 4 9 RX4 TX4 17 := ⟨ck4, by decide, Or.inl fk_X4_45⟩
theorem fk_X4_48 : Cond.fieldLink RX4 48 (TX4 10).1 (TX4 10).2.1 (TX4 10).2.2.1 ∈ Tw := in_Tw (List.mem_of_getElem? (i := 403) (by decide +kernel)) rfl
theorem fl_X4_48 : Fld RX4 48 4 10 RX4 TX4 17 := ⟨ck4, by decide, Or.inl fk_X4_48⟩
theorem fk_X4_51 : Cond.fieldLink RX4 51 (TX4 11).1 (TX4 11).2.1 (TX4 11).2.2.1 ∈ Tw := in_Tw (List.mem_of_getElem? (i := 405) (by decide +kernel)) rfl
theorem fl_X4_51 : Fld RX4 51 4 11 RX4 TX4 17 := ⟨ck4, by decide, Or.inl fk_X4_51⟩
theorem fk_X4_54 : Cond.fieldLink RX4 54 (TX4 12).1 (TX4 12).2.1 (TX4 12).2.2.1 ∈ Tw := in_Tw (List.mem_of_getElem? (i := 406) (by decide +kernel)) rfl
theorem fl_X4_54 : Fld RX4 54 4 12 RX4 TX4 17 := ⟨ck4, by decide, Or.inl fk_X4_54⟩
theorem fk_X4_57 : Cond.fieldLink RX4 57 (TX4 13).1 (TX4 13).2.1 (TX4 13).2.2.1 ∈ Tw := in_Tw (List.mem_of_getElem? (i := 407) (by decide +kernel)) rfl
theorem fl_X4_57 : Fld RX4 57 4 13 RX4 TX4 17 := ⟨ck4, by decide, Or.inl fk_X4_57⟩
theorem fk_X4_60 : Cond.fieldLink RX4 60 (TX4 14).1 (TX4 14).2.1 (TX4 14).2.2.1 ∈ Tw := in_Tw (List.mem_of_getElem? (i := 408) (by decide +kernel)) rfl
theorem fl_X4_60 : Fld RX4 60 4 14 RX4 TX4 17 := ⟨ck4, by decide, Or.inl fk_X4_60⟩
theorem fk_X4_64 : Cond.fieldLink RX4 64 (TX4 15).1 (TX4 15).2.1 (TX4 15).2.2.1 ∈ Tw := in_Tw (List.mem_of_getElem? (i := 409) (by decide +kernel)) rfl
theorem fl_X4_64 : Fld RX4 64 4 15 RX4 TX4 17 := ⟨ck4, by decide, Or.inl fk_X4_64⟩
theorem fk_X4_67 : Cond.fieldLink RX4 67 (TX4 16).1 (TX4 16).2.1 (TX4 16).2.2.1 ∈ Tw := in_Tw (List.mem_of_getElem? (i := 410) (by decide +kernel)) rfl
theorem fl_X4_67 : Fld RX4 67 4 16 RX4 TX4 17 := ⟨ck4, by decide, Or.inl fk_X4_67⟩
theorem fk_X5_9 : Cond.fieldLink RX5 9 (TX5 0).1 (TX5 0).2.1 (TX5 0).2.2.1 ∈ Tw := in_Tw (List.mem_of_getElem? (i := 250) (by decide +kernel)) rfl
theorem fl_X5_9 : Fld RX5 9 5 0 RX5 TX5 3 := ⟨ck5, by decide, Or.inl fk_X5_9⟩
theorem fk_X5_15 : Cond.fieldLink RX5 15 (TX5 1).1 (TX5 1).2.1 (TX5 1).2.2.1 ∈ Tw := in_Tw (List.mem_of_getElem? (i := 251) (by decide +kernel)) rfl
theorem fl_X5_15 : Fld RX5 15 5 1 RX5 TX5 3 := ⟨ck5, by decide, Or.inl fk_X5_15⟩
theorem fk_X5_18 : Cond.fieldLink RX5 18 (TX5 2).1 (TX5 2).2.1 (TX5 2).2.2.1 ∈ Tw := in_Tw (List.mem_of_getElem? (i := 252) (by decide +kernel)) rfl
theorem fl_X5_18 : Fld RX5 18 5 2 RX5 TX5 3 := ⟨ck5, by decide, Or.inl fk_X5_18⟩
theorem fk_X6_12 : Cond.fieldLink RX6 12 (TX6 0).1 (TX6 0).2.1 (TX6 0).2.2.1 ∈ Tw := in_Tw (List.mem_of_getElem? (i := 308) (by decide +kernel)) rfl
theorem fl_X6_12 : Fld RX6 12 6 0 RX6 TX6 10 := ⟨ck6, by decide, Or.inl fk_X6_12⟩
theorem fk_X6_21 : Cond.fieldLink RX6 21 (TX6 1).1 (TX6 1).2.1 (TX6 1).2.2.1 ∈ Tw := in_Tw (List.mem_of_getElem? (i := 312) (by decide +kernel)) rfl
theorem fl_X6_21 : Fld RX6 21 6 1 RX6 TX6 10 := ⟨ck6, by decide, Or.inl fk_X6_21⟩
theorem fk_X6_28 : Cond.fieldLink RX6 28 (TX6 2).1 (TX6 2).2.1 (TX6 2).2.2.1 ∈ Tw := in_Tw (List.mem_of_getElem? (i := 314) (by decide +kernel)) rfl
theorem fl_X6_28 : Fld RX6 28 6 2 RX6 TX6 10 := ⟨ck6, by decide, Or.inl fk_X6_28⟩
theorem fk_X6_35 : Cond.fieldLink RX6 35 (TX6 3).1 (TX6 3).2.1 (TX6 3).2.2.1 ∈ Tw := in_Tw (List.mem_of_getElem? (i := 317) (by decide +kernel)) rfl
theorem fl_X6_35 : Fld RX6 35 6 3 RX6 TX6 10 := ⟨ck6, by decide, Or.inl fk_X6_35⟩
theorem nc_X6_41 : Cond.fieldLink RX6 41 "WalledIn" "NO_CODE" "[I" ∈ Tw ∨ ∃ host, Cond.fieldLinkNest RX6 41 "WalledIn" "NO_CODE" "[I" host ∈ Tw := Or.inr ⟨"WalledIn", in_Tw (List.mem_of_getElem? (i := 281) (by decide +kernel)) rfl⟩
theorem fk_X6_48 : Cond.fieldLink RX6 48 (TX6 4).1 (TX6 4).2.1 (TX6 4).2.2.1 ∈ Tw := in_Tw (List.mem_of_getElem? (i := 319) (by decide +kernel)) rfl
theorem fl_X6_48 : Fld RX6 48 6 4 RX6 TX6 10 := ⟨ck6, by decide, Or.inl fk_X6_48⟩
theorem fk_X6_52 : Cond.fieldLink RX6 52 (TX6 5).1 (TX6 5).2.1 (TX6 5).2.2.1 ∈ Tw := in_Tw (List.mem_of_getElem? (i := 320) (by decide +kernel)) rfl
theorem fl_X6_52 : Fld RX6 52 6 5 RX6 TX6 10 := ⟨ck6, by decide, Or.inl fk_X6_52⟩
theorem fk_X6_56 : Cond.fieldLink RX6 56 (TX6 6).1 (TX6 6).2.1 (TX6 6).2.2.1 ∈ Tw := in_Tw (List.mem_of_getElem? (i := 322) (by decide +kernel)) rfl
theorem fl_X6_56 : Fld RX6 56 6 6 RX6 TX6 10 := ⟨ck6, by decide, Or.inl fk_X6_56⟩
theorem fk_X6_60 : Cond.fieldLink RX6 60 (TX6 7).1 (TX6 7).2.1 (TX6 7).2.2.1 ∈ Tw := in_Tw (List.mem_of_getElem? (i := 324) (by decide +kernel)) rfl
theorem fl_X6_60 : Fld RX6 60 6 7 RX6 TX6 10 := ⟨ck6, by decide, Or.inl fk_X6_60⟩
theorem fk_X6_63 : Cond.fieldLink RX6 63 (TX6 8).1 (TX6 8).2.1 (TX6 8).2.2.1 ∈ Tw := in_Tw (List.mem_of_getElem? (i := 326) (by decide +kernel)) rfl
theorem fl_X6_63 : Fld RX6 63 6 8 RX6 TX6 10 := ⟨ck6, by decide, Or.inl fk_X6_63⟩
theorem fk_X6_66 : Cond.fieldLink RX6 66 (TX6 9).1 (TX6 9).2.1 (TX6 9).2.2.1 ∈ Tw := in_Tw (List.mem_of_getElem? (i := 329) (by decide +kernel)) rfl
theorem fl_X6_66 : Fld RX6 66 6 9 RX6 TX6 10 := ⟨ck6, by decide, Or.inl fk_X6_66⟩
theorem fk_X7_11 : Cond.fieldLink RX7 11 (TX7 0).1 (TX7 0).2.1 (TX7 0).2.2.1 ∈ Tw := in_Tw (List.mem_of_getElem? (i := 268) (by decide +kernel)) rfl
theorem fl_X7_11 : Fld RX7 11 7 0 RX7 TX7 3 := ⟨ck7, by decide, Or.inl fk_X7_11⟩
theorem fk_X7_15 : Cond.fieldLink RX7 15 (TX7 1).1 (TX7 1).2.1 (TX7 1).2.2.1 ∈ Tw := in_Tw (List.mem_of_getElem? (i := 269) (by decide +kernel)) rfl
theorem fl_X7_15 : Fld RX7 15 7 1 RX7 TX7 3 := ⟨ck7, by decide, Or.inl fk_X7_15⟩
theorem fk_X7_19 : Cond.fieldLink RX7 19 (TX7 2).1 (TX7 2).2.1 (TX7 2).2.2.1 ∈ Tw := in_Tw (List.mem_of_getElem? (i := 270) (by decide +kernel)) rfl
theorem fl_X7_19 : Fld RX7 19 7 2 RX7 TX7 3 := ⟨ck7, by decide, Or.inl fk_X7_19⟩
theorem fl_X7_22 : Fld RX7 22 1 4 RX1 TX1 5 := ⟨ck1, by decide, Or.inr ⟨"WalledIn", in_Tw (List.mem_of_getElem? (i := 231) (by decide +kernel)) rfl⟩⟩
theorem fl_X7_25 : Fld RX7 25 1 0 RX1 TX1 5 := ⟨ck1, by decide, Or.inr ⟨"WalledIn", in_Tw (List.mem_of_getElem? (i := 220) (by decide +kernel)) rfl⟩⟩
theorem fl_X7_34 : Fld RX7 34 1 1 RX1 TX1 5 := ⟨ck1, by decide, Or.inr ⟨"WalledIn", in_Tw (List.mem_of_getElem? (i := 224) (by decide +kernel)) rfl⟩⟩
theorem fk_X8_9 : Cond.fieldLink RX8 9 (TX8 0).1 (TX8 0).2.1 (TX8 0).2.2.1 ∈ Tw := in_Tw (List.mem_of_getElem? (i := 182) (by decide +kernel)) rfl
theorem fl_X8_9 : Fld RX8 9 8 0 RX8 TX8 6 := ⟨ck8, by decide, Or.inl fk_X8_9⟩
theorem fk_X8_15 : Cond.fieldLink RX8 15 (TX8 1).1 (TX8 1).2.1 (TX8 1).2.2.1 ∈ Tw := in_Tw (List.mem_of_getElem? (i := 185) (by decide +kernel)) rfl
theorem fl_X8_15 : Fld RX8 15 8 1 RX8 TX8 6 := ⟨ck8, by decide, Or.inl fk_X8_15⟩
theorem fk_X8_18 : Cond.fieldLink RX8 18 (TX8 2).1 (TX8 2).2.1 (TX8 2).2.2.1 ∈ Tw := in_Tw (List.mem_of_getElem? (i := 189) (by decide +kernel)) rfl
theorem fl_X8_18 : Fld RX8 18 8 2 RX8 TX8 6 := ⟨ck8, by decide, Or.inl fk_X8_18⟩
theorem fk_X8_21 : Cond.fieldLink RX8 21 (TX8 3).1 (TX8 3).2.1 (TX8 3).2.2.1 ∈ Tw := in_Tw (List.mem_of_getElem? (i := 192) (by decide +kernel)) rfl
theorem fl_X8_21 : Fld RX8 21 8 3 RX8 TX8 6 := ⟨ck8, by decide, Or.inl fk_X8_21⟩
theorem fk_X8_24 : Cond.fieldLink RX8 24 (TX8 4).1 (TX8 4).2.1 (TX8 4).2.2.1 ∈ Tw := in_Tw (List.mem_of_getElem? (i := 194) (by decide +kernel)) rfl
theorem fl_X8_24 : Fld RX8 24 8 4 RX8 TX8 6 := ⟨ck8, by decide, Or.inl fk_X8_24⟩
theorem fk_X8_27 : Cond.fieldLink RX8 27 (TX8 5).1 (TX8 5).2.1 (TX8 5).2.2.1 ∈ Tw := in_Tw (List.mem_of_getElem? (i := 196) (by decide +kernel)) rfl
theorem fl_X8_27 : Fld RX8 27 8 5 RX8 TX8 6 := ⟨ck8, by decide, Or.inl fk_X8_27⟩
theorem fk_X9_9 : Cond.fieldLink RX9 9 (TX9 0).1 (TX9 0).2.1 (TX9 0).2.2.1 ∈ Tw := in_Tw (List.mem_of_getElem? (i := 358) (by decide +kernel)) rfl
theorem fl_X9_9 : Fld RX9 9 9 0 RX9 TX9 8 := ⟨ck9, by decide, Or.inl fk_X9_9⟩
theorem fk_X9_15 : Cond.fieldLink RX9 15 (TX9 1).1 (TX9 1).2.1 (TX9 1).2.2.1 ∈ Tw := in_Tw (List.mem_of_getElem? (i := 359) (by decide +kernel)) rfl
theorem fl_X9_15 : Fld RX9 15 9 1 RX9 TX9 8 := ⟨ck9, by decide, Or.inl fk_X9_15⟩
theorem fk_X9_19 : Cond.fieldLink RX9 19 (TX9 2).1 (TX9 2).2.1 (TX9 2).2.2.1 ∈ Tw := in_Tw (List.mem_of_getElem? (i := 360) (by decide +kernel)) rfl
theorem fl_X9_19 : Fld RX9 19 9 2 RX9 TX9 8 := ⟨ck9, by decide, Or.inl fk_X9_19⟩
theorem fk_X9_22 : Cond.fieldLink RX9 22 (TX9 3).1 (TX9 3).2.1 (TX9 3).2.2.1 ∈ Tw := in_Tw (List.mem_of_getElem? (i := 361) (by decide +kernel)) rfl
theorem fl_X9_22 : Fld RX9 22 9 3 RX9 TX9 8 := ⟨ck9, by decide, Or.inl fk_X9_22⟩
theorem fk_X9_25 : Cond.fieldLink RX9 25 (TX9 4).1 (TX9 4).2.1 (TX9 4).2.2.1 ∈ Tw := in_Tw (List.mem_of_getElem? (i := 362) (by decide +kernel)) rfl
theorem fl_X9_25 : Fld RX9 25 9 4 RX9 TX9 8 := ⟨ck9, by decide, Or.inl fk_X9_25⟩
theorem fk_X9_29 : Cond.fieldLink RX9 29 (TX9 5).1 (TX9 5).2.1 (TX9 5).2.2.1 ∈ Tw := in_Tw (List.mem_of_getElem? (i := 364) (by decide +kernel)) rfl
theorem fl_X9_29 : Fld RX9 29 9 5 RX9 TX9 8 := ⟨ck9, by decide, Or.inl fk_X9_29⟩
theorem fk_X9_32 : Cond.fieldLink RX9 32 (TX9 6).1 (TX9 6).2.1 (TX9 6).2.2.1 ∈ Tw := in_Tw (List.mem_of_getElem? (i := 365) (by decide +kernel)) rfl
theorem fl_X9_32 : Fld RX9 32 9 6 RX9 TX9 8 := ⟨ck9, by decide, Or.inl fk_X9_32⟩
theorem fk_X9_35 : Cond.fieldLink RX9 35 (TX9 7).1 (TX9 7).2.1 (TX9 7).2.2.1 ∈ Tw := in_Tw (List.mem_of_getElem? (i := 366) (by decide +kernel)) rfl
theorem fl_X9_35 : Fld RX9 35 9 7 RX9 TX9 8 := ⟨ck9, by decide, Or.inl fk_X9_35⟩
theorem fk_X10_9 : Cond.fieldLink RX10 9 (TX10 0).1 (TX10 0).2.1 (TX10 0).2.2.1 ∈ Tw := in_Tw (List.mem_of_getElem? (i := 287) (by decide +kernel)) rfl
theorem fl_X10_9 : Fld RX10 9 10 0 RX10 TX10 5 := ⟨ck10, by decide, Or.inl fk_X10_9⟩
theorem fk_X10_15 : Cond.fieldLink RX10 15 (TX10 1).1 (TX10 1).2.1 (TX10 1).2.2.1 ∈ Tw := in_Tw (List.mem_of_getElem? (i := 289) (by decide +kernel)) rfl
theorem fl_X10_15 : Fld RX10 15 10 1 RX10 TX10 5 := ⟨ck10, by decide, Or.inl fk_X10_15⟩
theorem fk_X10_18 : Cond.fieldLink RX10 18 (TX10 2).1 (TX10 2).2.1 (TX10 2).2.2.1 ∈ Tw := in_Tw (List.mem_of_getElem? (i := 291) (by decide +kernel)) rfl
theorem fl_X10_18 : Fld RX10 18 10 2 RX10 TX10 5 := ⟨ck10, by decide, Or.inl fk_X10_18⟩
theorem fk_X10_21 : Cond.fieldLink RX10 21 (TX10 3).1 (TX10 3).2.1 (TX10 3).2.2.1 ∈ Tw := in_Tw (List.mem_of_getElem? (i := 293) (by decide +kernel)) rfl
theorem fl_X10_21 : Fld RX10 21 10 3 RX10 TX10 5 := ⟨ck10, by decide, Or.inl fk_X10_21⟩
theorem fk_X10_24 : Cond.fieldLink RX10 24 (TX10 4).1 (TX10 4).2.1 (TX10 4).2.2.1 ∈ Tw := in_Tw (List.mem_of_getElem? (i := 294) (by decide +kernel)) rfl
theorem fl_X10_24 : Fld RX10 24 10 4 RX10 TX10 5 := ⟨ck10, by decide, Or.inl fk_X10_24⟩
theorem fk_X12_7 : Cond.fieldLink RX12 7 (TX12 0).1 (TX12 0).2.1 (TX12 0).2.2.1 ∈ Tw := in_Tw (List.mem_of_getElem? (i := 1229) (by decide +kernel)) rfl
theorem fl_X12_7 : Fld RX12 7 12 0 RX12 TX12 32 := ⟨ck12, by decide, Or.inl fk_X12_7⟩
theorem fk_X12_13 : Cond.fieldLink RX12 13 (TX12 1).1 (TX12 1).2.1 (TX12 1).2.2.1 ∈ Tw := in_Tw (List.mem_of_getElem? (i := 1230) (by decide +kernel)) rfl
theorem fl_X12_13 : Fld RX12 13 12 1 RX12 TX12 32 := ⟨ck12, by decide, Or.inl fk_X12_13⟩
theorem fk_X12_16 : Cond.fieldLink RX12 16 (TX12 2).1 (TX12 2).2.1 (TX12 2).2.2.1 ∈ Tw := in_Tw (List.mem_of_getElem? (i := 1231) (by decide +kernel)) rfl
theorem fl_X12_16 : Fld RX12 16 12 2 RX12 TX12 32 := ⟨ck12, by decide, Or.inl fk_X12_16⟩
theorem fk_X12_19 : Cond.fieldLink RX12 19 (TX12 3).1 (TX12 3).2.1 (TX12 3).2.2.1 ∈ Tw := in_Tw (List.mem_of_getElem? (i := 1232) (by decide +kernel)) rfl
theorem fl_X12_19 : Fld RX12 19 12 3 RX12 TX12 32 := ⟨ck12, by decide, Or.inl fk_X12_19⟩
theorem fk_X12_22 : Cond.fieldLink RX12 22 (TX12 5).1 (TX12 5).2.1 (TX12 5).2.2.1 ∈ Tw := in_Tw (List.mem_of_getElem? (i := 1234) (by decide +kernel)) rfl
theorem fl_X12_22 : Fld RX12 22 12 5 RX12 TX12 32 := ⟨ck12, by decide, Or.inl fk_X12_22⟩
theorem fk_X12_26 : Cond.fieldLink RX12 26 (TX12 6).1 (TX12 6).2.1 (TX12 6).2.2.1 ∈ Tw := in_Tw (List.mem_of_getElem? (i := 1235) (by decide +kernel)) rfl
theorem fl_X12_26 : Fld RX12 26 12 6 RX12 TX12 32 := ⟨ck12, by decide, Or.inl fk_X12_26⟩
theorem fk_X12_29 : Cond.fieldLink RX12 29 (TX12 16).1 (TX12 16).2.1 (TX12 16).2.2.1 ∈ Tw := in_Tw (List.mem_of_getElem? (i := 1243) (by decide +kernel)) rfl
theorem fl_X12_29 : Fld RX12 29 12 16 RX12 TX12 32 := ⟨ck12, by decide, Or.inl fk_X12_29⟩
theorem fk_X12_32 : Cond.fieldLink RX12 32 (TX12 22).1 (TX12 22).2.1 (TX12 22).2.2.1 ∈ Tw := in_Tw (List.mem_of_getElem? (i := 1249) (by decide +kernel)) rfl
theorem fl_X12_32 : Fld RX12 32 12 22 RX12 TX12 32 := ⟨ck12, by decide, Or.inl fk_X12_32⟩
theorem fk_X12_35 : Cond.fieldLink RX12 35 (TX12 23).1 (TX12 23).2.1 (TX12 23).2.2.1 ∈ Tw := in_Tw (List.mem_of_getElem? (i := 1250) (by decide +kernel)) rfl
theorem fl_X12_35 : Fld RX12 35 12 23 RX12 TX12 32 := ⟨ck12, by decide, Or.inl fk_X12_35⟩
theorem fk_X12_39 : Cond.fieldLink RX12 39 (TX12 24).1 (TX12 24).2.1 (TX12 24).2.2.1 ∈ Tw := in_Tw (List.mem_of_getElem? (i := 1251) (by decide +kernel)) rfl
theorem fl_X12_39 : Fld RX12 39 12 24 RX12 TX12 32 := ⟨ck12, by decide, Or.inl fk_X12_39⟩
theorem fk_X12_43 : Cond.fieldLink RX12 43 (TX12 25).1 (TX12 25).2.1 (TX12 25).2.2.1 ∈ Tw := in_Tw (List.mem_of_getElem? (i := 1252) (by decide +kernel)) rfl
theorem fl_X12_43 : Fld RX12 43 12 25 RX12 TX12 32 := ⟨ck12, by decide, Or.inl fk_X12_43⟩
theorem fk_X12_46 : Cond.fieldLink RX12 46 (TX12 26).1 (TX12 26).2.1 (TX12 26).2.2.1 ∈ Tw := in_Tw (List.mem_of_getElem? (i := 1253) (by decide +kernel)) rfl
theorem fl_X12_46 : Fld RX12 46 12 26 RX12 TX12 32 := ⟨ck12, by decide, Or.inl fk_X12_46⟩
theorem fk_X12_49 : Cond.fieldLink RX12 49 (TX12 28).1 (TX12 28).2.1 (TX12 28).2.2.1 ∈ Tw := in_Tw (List.mem_of_getElem? (i := 1255) (by decide +kernel)) rfl
theorem fl_X12_49 : Fld RX12 49 12 28 RX12 TX12 32 := ⟨ck12, by decide, Or.inl fk_X12_49⟩
theorem fk_X12_52 : Cond.fieldLink RX12 52 (TX12 29).1 (TX12 29).2.1 (TX12 29).2.2.1 ∈ Tw := in_Tw (List.mem_of_getElem? (i := 1256) (by decide +kernel)) rfl
theorem fl_X12_52 : Fld RX12 52 12 29 RX12 TX12 32 := ⟨ck12, by decide, Or.inl fk_X12_52⟩
theorem fk_X12_55 : Cond.fieldLink RX12 55 (TX12 30).1 (TX12 30).2.1 (TX12 30).2.2.1 ∈ Tw := in_Tw (List.mem_of_getElem? (i := 1257) (by decide +kernel)) rfl
theorem fl_X12_55 : Fld RX12 55 12 30 RX12 TX12 32 := ⟨ck12, by decide, Or.inl fk_X12_55⟩
theorem fk_X12_88 : Cond.fieldLink RX12 88 (TX12 4).1 (TX12 4).2.1 (TX12 4).2.2.1 ∈ Tw := in_Tw (List.mem_of_getElem? (i := 1233) (by decide +kernel)) rfl
theorem fl_X12_88 : Fld RX12 88 12 4 RX12 TX12 32 := ⟨ck12, by decide, Or.inl fk_X12_88⟩
theorem fk_X12_95 : Cond.fieldLink RX12 95 (TX12 7).1 (TX12 7).2.1 (TX12 7).2.2.1 ∈ Tw := in_Tw (List.mem_of_getElem? (i := 1236) (by decide +kernel)) rfl
theorem fl_X12_95 : Fld RX12 95 12 7 RX12 TX12 32 := ⟨ck12, by decide, Or.inl fk_X12_95⟩
theorem fk_X12_101 : Cond.fieldLink RX12 101 (TX12 8).1 (TX12 8).2.1 (TX12 8).2.2.1 ∈ Tw := in_Tw (List.mem_of_getElem? (i := 1237) (by decide +kernel)) rfl
theorem fl_X12_101 : Fld RX12 101 12 8 RX12 TX12 32 := ⟨ck12, by decide, Or.inl fk_X12_101⟩
theorem fk_X12_104 : Cond.fieldLink RX12 104 (TX12 9).1 (TX12 9).2.1 (TX12 9).2.2.1 ∈ Tw := in_Tw (List.mem_of_getElem? (i := 1238) (by decide +kernel)) rfl
theorem fl_X12_104 : Fld RX12 104 12 9 RX12 TX12 32 := ⟨ck12, by decide, Or.inl fk_X12_104⟩
theorem fk_X12_110 : Cond.fieldLink RX12 110 (TX12 10).1 (TX12 10).2.1 (TX12 10).2.2.1 ∈ Tw := in_Tw (List.mem_of_getElem? (i := 1239) (by decide +kernel)) rfl
theorem fl_X12_110 : Fld RX12 110 12 10 RX12 TX12 32 := ⟨ck12, by decide, Or.inl fk_X12_110⟩
theorem fk_X12_117 : Cond.fieldLink RX12 117 (TX12 11).1 (TX12 11).2.1 (TX12 11).2.2.1 ∈ Tw := in_Tw (List.mem_of_getElem? (i := 1240) (by decide +kernel)) rfl
theorem fl_X12_117 : Fld RX12 117 12 11 RX12 TX12 32 := ⟨ck12, by decide, Or.inl fk_X12_117⟩
theorem fk_X12_129 : Cond.fieldLink RX12 129 (TX12 12).1 (TX12 12).2.1 (TX12 12).2.2.1 ∈ Tw := in_Tw (List.mem_of_getElem? (i := 1241) (by decide +kernel)) rfl
theorem fl_X12_129 : Fld RX12 129 12 12 RX12 TX12 32 := ⟨ck12, by decide, Or.inl fk_X12_129⟩
theorem fk_X12_132 : Cond.fieldLink RX12 132 (TX12 14).1 (TX12 14).2.1 (TX12 14).2.2.1 ∈ Tw := in_Tw (List.mem_of_getElem? (i := 1242) (by decide +kernel)) rfl
theorem fl_X12_132 : Fld RX12 132 12 14 RX12 TX12 32 := ⟨ck12, by decide, Or.inl fk_X12_132⟩
theorem fk_X12_135 : Cond.fieldLink RX12 135 (TX12 17).1 (TX12 17).2.1 (TX12 17).2.2.1 ∈ Tw := in_Tw (List.mem_of_getElem? (i := 1244) (by decide +kernel)) rfl
theorem fl_X12_135 : Fld RX12 135 12 17 RX12 TX12 32 := ⟨ck12, by decide, Or.inl fk_X12_135⟩
theorem fk_X12_138 : Cond.fieldLink RX12 138 (TX12 19).1 (TX12 19).2.1 (TX12 19).2.2.1 ∈ Tw := in_Tw (List.mem_of_getElem? (i := 1246) (by decide +kernel)) rfl
theorem fl_X12_138 : Fld RX12 138 12 19 RX12 TX12 32 := ⟨ck12, by decide, Or.inl fk_X12_138⟩
theorem fk_X12_142 : Cond.fieldLink RX12 142 (TX12 18).1 (TX12 18).2.1 (TX12 18).2.2.1 ∈ Tw := in_Tw (List.mem_of_getElem? (i := 1245) (by decide +kernel)) rfl
theorem fl_X12_142 : Fld RX12 142 12 18 RX12 TX12 32 := ⟨ck12, by decide, Or.inl fk_X12_142⟩
theorem fk_X12_157 : Cond.fieldLink RX12 157 (TX12 20).1 (TX12 20).2.1 (TX12 20).2.2.1 ∈ Tw := in_Tw (List.mem_of_getElem? (i := 1247) (by decide +kernel)) rfl
theorem fl_X12_157 : Fld RX12 157 12 20 RX12 TX12 32 := ⟨ck12, by decide, Or.inl fk_X12_157⟩
theorem fk_X12_215 : Cond.fieldLink RX12 215 (TX12 21).1 (TX12 21).2.1 (TX12 21).2.2.1 ∈ Tw := in_Tw (List.mem_of_getElem? (i := 1248) (by decide +kernel)) rfl
theorem fl_X12_215 : Fld RX12 215 12 21 RX12 TX12 32 := ⟨ck12, by decide, Or.inl fk_X12_215⟩
theorem fk_X12_305 : Cond.fieldLink RX12 305 (TX12 27).1 (TX12 27).2.1 (TX12 27).2.2.1 ∈ Tw := in_Tw (List.mem_of_getElem? (i := 1254) (by decide +kernel)) rfl
theorem fl_X12_305 : Fld RX12 305 12 27 RX12 TX12 32 := ⟨ck12, by decide, Or.inl fk_X12_305⟩
theorem fk_X12_324 : Cond.fieldLink RX12 324 (TX12 31).1 (TX12 31).2.1 (TX12 31).2.2.1 ∈ Tw := in_Tw (List.mem_of_getElem? (i := 1258) (by decide +kernel)) rfl
theorem fl_X12_324 : Fld RX12 324 12 31 RX12 TX12 32 := ⟨ck12, by decide, Or.inl fk_X12_324⟩
theorem cl_X11_9 : Cond.classLink RX11 9 RX6 ∈ Tw := in_Tw (List.mem_of_getElem? (i := 170) (by decide +kernel)) rfl
theorem cl_X11_19 : Cond.classLink RX11 19 RX9 ∈ Tw := in_Tw (List.mem_of_getElem? (i := 352) (by decide +kernel)) rfl
theorem cl_X11_26 : Cond.classLink RX11 26 RX4 ∈ Tw := in_Tw (List.mem_of_getElem? (i := 385) (by decide +kernel)) rfl
theorem cl_X11_33 : Cond.classLink RX11 33 RX2 ∈ Tw := in_Tw (List.mem_of_getElem? (i := 446) (by decide +kernel)) rfl
theorem cl_X11_40 : Cond.classLink RX11 40 RX3 ∈ Tw := in_Tw (List.mem_of_getElem? (i := 459) (by decide +kernel)) rfl
theorem cl_X11_47 : Cond.classLink RX11 47 RX0 ∈ Tw := in_Tw (List.mem_of_getElem? (i := 508) (by decide +kernel)) rfl
theorem cl_X3_21 : Cond.classLink RX3 21 RX2 ∈ Tw := in_Tw (List.mem_of_getElem? (i := 465) (by decide +kernel)) rfl
theorem cl_X4_9 : Cond.classLink RX4 9 RX10 ∈ Tw := in_Tw (List.mem_of_getElem? (i := 882) (by decide +kernel)) rfl
theorem cl_X6_9 : Cond.classLink RX6 9 RX8 ∈ Tw := in_Tw (List.mem_of_getElem? (i := 176) (by decide +kernel)) rfl
theorem cl_X6_18 : Cond.classLink RX6 18 RX1 ∈ Tw := in_Tw (List.mem_of_getElem? (i := 213) (by decide +kernel)) rfl
theorem cl_X6_25 : Cond.classLink RX6 25 RX5 ∈ Tw := in_Tw (List.mem_of_getElem? (i := 244) (by decide +kernel)) rfl
theorem cl_X6_32 : Cond.classLink RX6 32 RX7 ∈ Tw := in_Tw (List.mem_of_getElem? (i := 262) (by decide +kernel)) rfl
theorem cl_X6_39 : Cond.classLink RX6 39 RX10 ∈ Tw := in_Tw (List.mem_of_getElem? (i := 279) (by decide +kernel)) rfl
theorem cl_L_7 : Cond.classLink RL 7 RX11 ∈ Tw := in_Tw (List.mem_of_getElem? (i := 162) (by decide +kernel)) rfl
theorem cl_L_10 : Cond.classLink RL 10 RX12 ∈ Tw := in_Tw (List.mem_of_getElem? (i := 1220) (by decide +kernel)) rfl
theorem co_X11_243 : Cond.constantLong RX11 243 (zl (-1)) ∈ Tw := in_Tw (List.mem_of_getElem? (i := 1115) (by decide +kernel)) rfl
theorem co_X2_79 : Cond.constantLong RX2 79 (zl (-1000000)) ∈ Tw := in_Tw (List.mem_of_getElem? (i := 947) (by decide +kernel)) rfl
theorem co_X2_81 : Cond.constantLong RX2 81 (zl (1000000)) ∈ Tw := in_Tw (List.mem_of_getElem? (i := 948) (by decide +kernel)) rfl
theorem co_X3_130 : Cond.constant RX3 130 (z (1000000)) ∈ Tw := in_Tw (List.mem_of_getElem? (i := 1085) (by decide +kernel)) rfl
theorem co_X12_113 : Cond.constant RX12 113 (z (100000)) ∈ Tw := in_Tw (List.mem_of_getElem? (i := 1397) (by decide +kernel)) rfl
theorem co_X12_204 : Cond.constantLong RX12 204 (zl (28530)) ∈ Tw := in_Tw (List.mem_of_getElem? (i := 1490) (by decide +kernel)) rfl
theorem co_X12_210 : Cond.constantLong RX12 210 (zl (29807)) ∈ Tw := in_Tw (List.mem_of_getElem? (i := 1427) (by decide +kernel)) rfl
theorem co_X12_230 : Cond.constantLong RX12 230 (zl (1000000)) ∈ Tw := in_Tw (List.mem_of_getElem? (i := 1548) (by decide +kernel)) rfl
theorem co_X12_232 : Cond.constantLong RX12 232 (zl (-1000000)) ∈ Tw := in_Tw (List.mem_of_getElem? (i := 1549) (by decide +kernel)) rfl
theorem co_X12_311 : Cond.constant RX12 311 (z (100000000)) ∈ Tw := in_Tw (List.mem_of_getElem? (i := 1615) (by decide +kernel)) rfl
theorem co_X12_319 : Cond.constantLong RX12 319 (zl (-1)) ∈ Tw := in_Tw (List.mem_of_getElem? (i := 1636) (by decide +kernel)) rfl
theorem co_X12_327 : Cond.constantLong RX12 327 (zl (181)) ∈ Tw := in_Tw (List.mem_of_getElem? (i := 1665) (by decide +kernel)) rfl
theorem co_X12_329 : Cond.constantLong RX12 329 (zl (37)) ∈ Tw := in_Tw (List.mem_of_getElem? (i := 1666) (by decide +kernel)) rfl
theorem co_X12_331 : Cond.constantLong RX12 331 (zl (30091)) ∈ Tw := in_Tw (List.mem_of_getElem? (i := 1667) (by decide +kernel)) rfl
theorem co_J11_76 : Cond.constant RJ11 76 (z (56320)) ∈ Tw := in_Tw (List.mem_of_getElem? (i := 763) (by decide +kernel)) rfl
theorem co_J11_110 : Cond.constant RJ11 110 (z (55232)) ∈ Tw := in_Tw (List.mem_of_getElem? (i := 759) (by decide +kernel)) rfl
theorem co_J6_264 : Cond.constant RJ6 264 (z (65536)) ∈ Tw := in_Tw (List.mem_of_getElem? (i := 1147) (by decide +kernel)) rfl
theorem co_J6_265 : Cond.constant RJ6 265 (z (1431655765)) ∈ Tw := in_Tw (List.mem_of_getElem? (i := 567) (by decide +kernel)) rfl
theorem co_J6_266 : Cond.constant RJ6 266 (z (858993459)) ∈ Tw := in_Tw (List.mem_of_getElem? (i := 568) (by decide +kernel)) rfl
theorem co_J6_267 : Cond.constant RJ6 267 (z (252645135)) ∈ Tw := in_Tw (List.mem_of_getElem? (i := 569) (by decide +kernel)) rfl
theorem co_J2_227 : Cond.constant RJ2 227 (z (65536)) ∈ Tw := in_Tw (List.mem_of_getElem? (i := 734) (by decide +kernel)) rfl
theorem ar_int : Cond.arrayClass .int ∈ Tw := in_Tw (List.mem_of_getElem? (i := 212) (by decide +kernel)) rfl
theorem ar_byte : Cond.arrayClass .byte ∈ Tw := in_Tw (List.mem_of_getElem? (i := 384) (by decide +kernel)) rfl
theorem ar_long : Cond.arrayClass .long ∈ Tw := in_Tw (List.mem_of_getElem? (i := 1324) (by decide +kernel)) rfl
theorem ar_boolean : Cond.arrayClass .boolean ∈ Tw := in_Tw (List.mem_of_getElem? (i := 1325) (by decide +kernel)) rfl
theorem ar_over : Cond.arrayOver (.object RX10) ∈ Tw := in_Tw (List.mem_of_getElem? (i := 307) (by decide +kernel)) rfl
theorem oi_i : Cond.instanceMethod objectInit ∈ Tw := in_Tw (List.mem_of_getElem? (i := 168) (by decide +kernel)) rfl
theorem oi_c : Cond.code objectInit ⟨#[0xb1]⟩ 1 none ∈ Tw := in_Tw (List.mem_of_getElem? (i := 169) (by decide +kernel)) rfl
theorem ol_X11_3 : Cond.methodLink RX11 3 objectInit ∈ Tw := in_Tw (List.mem_of_getElem? (i := 167) (by decide +kernel)) rfl
theorem cd_X6_init : Cond.code yX6_init cX6_init 1 none ∈ Tw := in_Tw (List.mem_of_getElem? (i := 174) (by decide +kernel)) rfl
theorem nm_X6_init : Nms yX6_init 0 := ⟨by decide, by decide, by decide +kernel⟩
theorem im_X6_init : Cond.instanceMethod yX6_init ∈ Tw := in_Tw (List.mem_of_getElem? (i := 173) (by decide +kernel)) rfl
theorem cf_X11_11 : CfI RX11 11 yX6_init cX6_init 1 0 := ⟨rfl, im_X6_init, Or.inr ⟨"WalledIn", in_Tw (List.mem_of_getElem? (i := 172) (by decide +kernel)) rfl⟩, cd_X6_init, ini_X6, nm_X6_init⟩
theorem cd_X9_init : Cond.code yX9_init cX9_init 1 none ∈ Tw := in_Tw (List.mem_of_getElem? (i := 356) (by decide +kernel)) rfl
theorem nm_X9_init : Nms yX9_init 0 := ⟨by decide, by decide, by decide +kernel⟩
theorem im_X9_init : Cond.instanceMethod yX9_init ∈ Tw := in_Tw (List.mem_of_getElem? (i := 355) (by decide +kernel)) rfl
theorem cf_X11_21 : CfI RX11 21 yX9_init cX9_init 1 0 := ⟨rfl, im_X9_init, Or.inr ⟨"WalledIn", in_Tw (List.mem_of_getElem? (i := 354) (by decide +kernel)) rfl⟩, cd_X9_init, ini_X9, nm_X9_init⟩
theorem cd_X4_init : Cond.code yX4_init cX4_init 1 none ∈ Tw := in_Tw (List.mem_of_getElem? (i := 389) (by decide +kernel)) rfl
theorem nm_X4_init : Nms yX4_init 0 := ⟨by decide, by decide, by decide +kernel⟩
theorem im_X4_init : Cond.instanceMethod yX4_init ∈ Tw := in_Tw (List.mem_of_getElem? (i := 388) (by decide +kernel)) rfl
theorem cf_X11_28 : CfI RX11 28 yX4_init cX4_init 1 0 := ⟨rfl, im_X4_init, Or.inr ⟨"WalledIn", in_Tw (List.mem_of_getElem? (i := 387) (by decide +kernel)) rfl⟩, cd_X4_init, ini_X4, nm_X4_init⟩
theorem cd_X2_init : Cond.code yX2_init cX2_init 1 none ∈ Tw := in_Tw (List.mem_of_getElem? (i := 450) (by decide +kernel)) rfl
theorem nm_X2_init : Nms yX2_init 0 := ⟨by decide, by decide, by decide +kernel⟩
theorem im_X2_init : Cond.instanceMethod yX2_init ∈ Tw := in_Tw (List.mem_of_getElem? (i := 449) (by decide +kernel)) rfl
theorem cf_X11_35 : CfI RX11 35 yX2_init cX2_init 1 0 := ⟨rfl, im_X2_init, Or.inr ⟨"WalledIn", in_Tw (List.mem_of_getElem? (i := 448) (by decide +kernel)) rfl⟩, cd_X2_init, ini_X2, nm_X2_init⟩
theorem cd_X3_init : Cond.code yX3_init cX3_init 1 none ∈ Tw := in_Tw (List.mem_of_getElem? (i := 463) (by decide +kernel)) rfl
theorem nm_X3_init : Nms yX3_init 0 := ⟨by decide, by decide, by decide +kernel⟩
theorem im_X3_init : Cond.instanceMethod yX3_init ∈ Tw := in_Tw (List.mem_of_getElem? (i := 462) (by decide +kernel)) rfl
theorem cf_X11_42 : CfI RX11 42 yX3_init cX3_init 1 0 := ⟨rfl, im_X3_init, Or.inr ⟨"WalledIn", in_Tw (List.mem_of_getElem? (i := 461) (by decide +kernel)) rfl⟩, cd_X3_init, ini_X3, nm_X3_init⟩
theorem cd_X0_init : Cond.code yX0_init cX0_init 1 none ∈ Tw := in_Tw (List.mem_of_getElem? (i := 512) (by decide +kernel)) rfl
theorem nm_X0_init : Nms yX0_init 0 := ⟨by decide, by decide, by decide +kernel⟩
theorem im_X0_init : Cond.instanceMethod yX0_init ∈ Tw := in_Tw (List.mem_of_getElem? (i := 511) (by decide +kernel)) rfl
theorem cf_X11_49 : CfI RX11 49 yX0_init cX0_init 1 0 := ⟨rfl, im_X0_init, Or.inr ⟨"WalledIn", in_Tw (List.mem_of_getElem? (i := 510) (by decide +kernel)) rfl⟩, cd_X0_init, ini_X0, nm_X0_init⟩
theorem cd_X8_areTold : Cond.code yX8_areTold cX8_areTold 2 (some .boolean) ∈ Tw := in_Tw (List.mem_of_getElem? (i := 559) (by decide +kernel)) rfl
theorem nm_X8_areTold : Nms yX8_areTold 1 := ⟨by decide, by decide, by decide +kernel⟩
theorem im_X8_areTold : Cond.instanceMethod yX8_areTold ∈ Tw := in_Tw (List.mem_of_getElem? (i := 558) (by decide +kernel)) rfl
theorem se_X8_areTold : Cond.selects yX8_areTold.cls yX8_areTold yX8_areTold ∈ Tw := in_Tw (List.mem_of_getElem? (i := 0) (by decide +kernel)) rfl
theorem cf_X11_69 : CfV RX11 69 yX8_areTold cX8_areTold 2 (some .boolean) 1 := ⟨im_X8_areTold, se_X8_areTold, Or.inr ⟨"WalledIn", in_Tw (List.mem_of_getElem? (i := 556) (by decide +kernel)) rfl⟩, cd_X8_areTold, ini_X8, nm_X8_areTold⟩
theorem cd_J6_bitCount_0f7a4 : Cond.code yJ6_bitCount_0f7a4 cJ6_bitCount_0f7a4 1 (some .int) ∈ Tw := in_Tw (List.mem_of_getElem? (i := 566) (by decide +kernel)) rfl
theorem ini_J6 : Cond.initialized RJ6 ∈ Tw := in_Tw (List.mem_of_getElem? (i := 153) (by decide +kernel)) rfl
theorem nm_J6_bitCount_0f7a4 : Nms yJ6_bitCount_0f7a4 1 := ⟨by decide, by decide, by decide +kernel⟩
theorem st_J6_bitCount_0f7a4 : Cond.static yJ6_bitCount_0f7a4 ∈ Tw := in_Tw (List.mem_of_getElem? (i := 565) (by decide +kernel)) rfl
theorem cf_X11_75 : CfS RX11 75 yJ6_bitCount_0f7a4 cJ6_bitCount_0f7a4 1 (some .int) 1 := ⟨st_J6_bitCount_0f7a4, in_Tw (List.mem_of_getElem? (i := 564) (by decide +kernel)) rfl, cd_J6_bitCount_0f7a4, ini_J6, nm_J6_bitCount_0f7a4⟩
theorem cd_X3_forget : Cond.code yX3_forget cX3_forget 1 none ∈ Tw := in_Tw (List.mem_of_getElem? (i := 573) (by decide +kernel)) rfl
theorem nm_X3_forget : Nms yX3_forget 0 := ⟨by decide, by decide, by decide +kernel⟩
theorem im_X3_forget : Cond.instanceMethod yX3_forget ∈ Tw := in_Tw (List.mem_of_getElem? (i := 572) (by decide +kernel)) rfl
theorem se_X3_forget : Cond.selects yX3_forget.cls yX3_forget yX3_forget ∈ Tw := in_Tw (List.mem_of_getElem? (i := 2) (by decide +kernel)) rfl
theorem cf_X11_84 : CfV RX11 84 yX3_forget cX3_forget 1 none 0 := ⟨im_X3_forget, se_X3_forget, Or.inr ⟨"WalledIn", in_Tw (List.mem_of_getElem? (i := 570) (by decide +kernel)) rfl⟩, cd_X3_forget, ini_X3, nm_X3_forget⟩
theorem cd_X1_has : Cond.code yX1_has cX1_has 2 (some .boolean) ∈ Tw := in_Tw (List.mem_of_getElem? (i := 589) (by decide +kernel)) rfl
theorem nm_X1_has : Nms yX1_has 1 := ⟨by decide, by decide, by decide +kernel⟩
theorem im_X1_has : Cond.instanceMethod yX1_has ∈ Tw := in_Tw (List.mem_of_getElem? (i := 588) (by decide +kernel)) rfl
theorem se_X1_has : Cond.selects yX1_has.cls yX1_has yX1_has ∈ Tw := in_Tw (List.mem_of_getElem? (i := 3) (by decide +kernel)) rfl
theorem cf_X11_122 : CfV RX11 122 yX1_has cX1_has 2 (some .boolean) 1 := ⟨im_X1_has, se_X1_has, Or.inr ⟨"WalledIn", in_Tw (List.mem_of_getElem? (i := 586) (by decide +kernel)) rfl⟩, cd_X1_has, ini_X1, nm_X1_has⟩
theorem cd_X1_setNear : Cond.code yX1_setNear cX1_setNear 4 none ∈ Tw := in_Tw (List.mem_of_getElem? (i := 593) (by decide +kernel)) rfl
theorem nm_X1_setNear : Nms yX1_setNear 3 := ⟨by decide, by decide, by decide +kernel⟩
theorem im_X1_setNear : Cond.instanceMethod yX1_setNear ∈ Tw := in_Tw (List.mem_of_getElem? (i := 592) (by decide +kernel)) rfl
theorem se_X1_setNear : Cond.selects yX1_setNear.cls yX1_setNear yX1_setNear ∈ Tw := in_Tw (List.mem_of_getElem? (i := 4) (by decide +kernel)) rfl
theorem cf_X11_125 : CfV RX11 125 yX1_setNear cX1_setNear 4 none 3 := ⟨im_X1_setNear, se_X1_setNear, Or.inr ⟨"WalledIn", in_Tw (List.mem_of_getElem? (i := 590) (by decide +kernel)) rfl⟩, cd_X1_setNear, ini_X1, nm_X1_setNear⟩
theorem cd_X9_addFour : Cond.code yX9_addFour cX9_addFour 3 none ∈ Tw := in_Tw (List.mem_of_getElem? (i := 601) (by decide +kernel)) rfl
theorem nm_X9_addFour : Nms yX9_addFour 1 := ⟨by decide, by decide, by decide +kernel⟩
theorem im_X9_addFour : Cond.instanceMethod yX9_addFour ∈ Tw := in_Tw (List.mem_of_getElem? (i := 600) (by decide +kernel)) rfl
theorem se_X9_addFour : Cond.selects yX9_addFour.cls yX9_addFour yX9_addFour ∈ Tw := in_Tw (List.mem_of_getElem? (i := 5) (by decide +kernel)) rfl
theorem cf_X11_132 : CfV RX11 132 yX9_addFour cX9_addFour 3 none 1 := ⟨im_X9_addFour, se_X9_addFour, Or.inr ⟨"WalledIn", in_Tw (List.mem_of_getElem? (i := 598) (by decide +kernel)) rfl⟩, cd_X9_addFour, ini_X9, nm_X9_addFour⟩
theorem cd_X4_read : Cond.code yX4_read cX4_read 3 none ∈ Tw := in_Tw (List.mem_of_getElem? (i := 613) (by decide +kernel)) rfl
theorem nm_X4_read : Nms yX4_read 1 := ⟨by decide, by decide, by decide +kernel⟩
theorem im_X4_read : Cond.instanceMethod yX4_read ∈ Tw := in_Tw (List.mem_of_getElem? (i := 612) (by decide +kernel)) rfl
theorem se_X4_read : Cond.selects yX4_read.cls yX4_read yX4_read ∈ Tw := in_Tw (List.mem_of_getElem? (i := 6) (by decide +kernel)) rfl
theorem cf_X11_139 : CfV RX11 139 yX4_read cX4_read 3 none 1 := ⟨im_X4_read, se_X4_read, Or.inr ⟨"WalledIn", in_Tw (List.mem_of_getElem? (i := 610) (by decide +kernel)) rfl⟩, cd_X4_read, ini_X4, nm_X4_read⟩
theorem cd_X4_newText : Cond.code yX4_newText cX4_newText 1 (some (.object "WalledIn$Text")) ∈ Tw := in_Tw (List.mem_of_getElem? (i := 881) (by decide +kernel)) rfl
theorem nm_X4_newText : Nms yX4_newText 0 := ⟨by decide, by decide, by decide +kernel⟩
theorem im_X4_newText : Cond.instanceMethod yX4_newText ∈ Tw := in_Tw (List.mem_of_getElem? (i := 880) (by decide +kernel)) rfl
theorem se_X4_newText : Cond.selects yX4_newText.cls yX4_newText yX4_newText ∈ Tw := in_Tw (List.mem_of_getElem? (i := 42) (by decide +kernel)) rfl
theorem cf_X11_153 : CfV RX11 153 yX4_newText cX4_newText 1 (some (.object "WalledIn$Text")) 0 := ⟨im_X4_newText, se_X4_newText, Or.inr ⟨"WalledIn", in_Tw (List.mem_of_getElem? (i := 878) (by decide +kernel)) rfl⟩, cd_X4_newText, ini_X4, nm_X4_newText⟩
theorem cd_X6_hasText : Cond.code yX6_hasText cX6_hasText 2 (some .boolean) ∈ Tw := in_Tw (List.mem_of_getElem? (i := 895) (by decide +kernel)) rfl
theorem nm_X6_hasText : Nms yX6_hasText 1 := ⟨by decide, by decide, by decide +kernel⟩
theorem im_X6_hasText : Cond.instanceMethod yX6_hasText ∈ Tw := in_Tw (List.mem_of_getElem? (i := 894) (by decide +kernel)) rfl
theorem se_X6_hasText : Cond.selects yX6_hasText.cls yX6_hasText yX6_hasText ∈ Tw := in_Tw (List.mem_of_getElem? (i := 43) (by decide +kernel)) rfl
theorem cf_X11_157 : CfV RX11 157 yX6_hasText cX6_hasText 2 (some .boolean) 1 := ⟨im_X6_hasText, se_X6_hasText, Or.inr ⟨"WalledIn", in_Tw (List.mem_of_getElem? (i := 892) (by decide +kernel)) rfl⟩, cd_X6_hasText, ini_X6, nm_X6_hasText⟩
theorem cd_X8_has : Cond.code yX8_has cX8_has 2 (some .boolean) ∈ Tw := in_Tw (List.mem_of_getElem? (i := 903) (by decide +kernel)) rfl
theorem nm_X8_has : Nms yX8_has 1 := ⟨by decide, by decide, by decide +kernel⟩
theorem im_X8_has : Cond.instanceMethod yX8_has ∈ Tw := in_Tw (List.mem_of_getElem? (i := 902) (by decide +kernel)) rfl
theorem se_X8_has : Cond.selects yX8_has.cls yX8_has yX8_has ∈ Tw := in_Tw (List.mem_of_getElem? (i := 44) (by decide +kernel)) rfl
theorem cf_X11_163 : CfV RX11 163 yX8_has cX8_has 2 (some .boolean) 1 := ⟨im_X8_has, se_X8_has, Or.inr ⟨"WalledIn", in_Tw (List.mem_of_getElem? (i := 900) (by decide +kernel)) rfl⟩, cd_X8_has, ini_X8, nm_X8_has⟩
theorem cd_X6_isLaid : Cond.code yX6_isLaid cX6_isLaid 2 (some .boolean) ∈ Tw := in_Tw (List.mem_of_getElem? (i := 907) (by decide +kernel)) rfl
theorem nm_X6_isLaid : Nms yX6_isLaid 1 := ⟨by decide, by decide, by decide +kernel⟩
theorem im_X6_isLaid : Cond.instanceMethod yX6_isLaid ∈ Tw := in_Tw (List.mem_of_getElem? (i := 906) (by decide +kernel)) rfl
theorem se_X6_isLaid : Cond.selects yX6_isLaid.cls yX6_isLaid yX6_isLaid ∈ Tw := in_Tw (List.mem_of_getElem? (i := 45) (by decide +kernel)) rfl
theorem cf_X11_164 : CfV RX11 164 yX6_isLaid cX6_isLaid 2 (some .boolean) 1 := ⟨im_X6_isLaid, se_X6_isLaid, Or.inr ⟨"WalledIn", in_Tw (List.mem_of_getElem? (i := 904) (by decide +kernel)) rfl⟩, cd_X6_isLaid, ini_X6, nm_X6_isLaid⟩
theorem cd_X11_canBeLaid : Cond.code yX11_canBeLaid cX11_canBeLaid 2 (some .boolean) ∈ Tw := in_Tw (List.mem_of_getElem? (i := 911) (by decide +kernel)) rfl
theorem nm_X11_canBeLaid : Nms yX11_canBeLaid 1 := ⟨by decide, by decide, by decide +kernel⟩
theorem im_X11_canBeLaid : Cond.instanceMethod yX11_canBeLaid ∈ Tw := in_Tw (List.mem_of_getElem? (i := 910) (by decide +kernel)) rfl
theorem se_X11_canBeLaid : Cond.selects yX11_canBeLaid.cls yX11_canBeLaid yX11_canBeLaid ∈ Tw := in_Tw (List.mem_of_getElem? (i := 46) (by decide +kernel)) rfl
theorem cf_X11_167 : CfV RX11 167 yX11_canBeLaid cX11_canBeLaid 2 (some .boolean) 1 := ⟨im_X11_canBeLaid, se_X11_canBeLaid, Or.inl (in_Tw (List.mem_of_getElem? (i := 908) (by decide +kernel)) rfl), cd_X11_canBeLaid, ini_X11, nm_X11_canBeLaid⟩
theorem cd_X11_liftUponLaid : Cond.code yX11_liftUponLaid cX11_liftUponLaid 3 (some .int) ∈ Tw := in_Tw (List.mem_of_getElem? (i := 958) (by decide +kernel)) rfl
theorem nm_X11_liftUponLaid : Nms yX11_liftUponLaid 1 := ⟨by decide, by decide, by decide +kernel⟩
theorem im_X11_liftUponLaid : Cond.instanceMethod yX11_liftUponLaid ∈ Tw := in_Tw (List.mem_of_getElem? (i := 957) (by decide +kernel)) rfl
theorem se_X11_liftUponLaid : Cond.selects yX11_liftUponLaid.cls yX11_liftUponLaid yX11_liftUponLaid ∈ Tw := in_Tw (List.mem_of_getElem? (i := 55) (by decide +kernel)) rfl
theorem cf_X11_170 : CfV RX11 170 yX11_liftUponLaid cX11_liftUponLaid 3 (some .int) 1 := ⟨im_X11_liftUponLaid, se_X11_liftUponLaid, Or.inl (in_Tw (List.mem_of_getElem? (i := 955) (by decide +kernel)) rfl), cd_X11_liftUponLaid, ini_X11, nm_X11_liftUponLaid⟩
theorem cd_X2_quarriesOf : Cond.code yX2_quarriesOf cX2_quarriesOf 6 (some .int) ∈ Tw := in_Tw (List.mem_of_getElem? (i := 968) (by decide +kernel)) rfl
theorem nm_X2_quarriesOf : Nms yX2_quarriesOf 2 := ⟨by decide, by decide, by decide +kernel⟩
theorem im_X2_quarriesOf : Cond.instanceMethod yX2_quarriesOf ∈ Tw := in_Tw (List.mem_of_getElem? (i := 967) (by decide +kernel)) rfl
theorem se_X2_quarriesOf : Cond.selects yX2_quarriesOf.cls yX2_quarriesOf yX2_quarriesOf ∈ Tw := in_Tw (List.mem_of_getElem? (i := 57) (by decide +kernel)) rfl
theorem cf_X11_173 : CfV RX11 173 yX2_quarriesOf cX2_quarriesOf 6 (some .int) 2 := ⟨im_X2_quarriesOf, se_X2_quarriesOf, Or.inr ⟨"WalledIn", in_Tw (List.mem_of_getElem? (i := 965) (by decide +kernel)) rfl⟩, cd_X2_quarriesOf, ini_X2, nm_X2_quarriesOf⟩
theorem cd_X8_isBorne : Cond.code yX8_isBorne cX8_isBorne 3 (some .boolean) ∈ Tw := in_Tw (List.mem_of_getElem? (i := 915) (by decide +kernel)) rfl
theorem nm_X8_isBorne : Nms yX8_isBorne 2 := ⟨by decide, by decide, by decide +kernel⟩
theorem im_X8_isBorne : Cond.instanceMethod yX8_isBorne ∈ Tw := in_Tw (List.mem_of_getElem? (i := 914) (by decide +kernel)) rfl
theorem se_X8_isBorne : Cond.selects yX8_isBorne.cls yX8_isBorne yX8_isBorne ∈ Tw := in_Tw (List.mem_of_getElem? (i := 47) (by decide +kernel)) rfl
theorem cf_X11_180 : CfV RX11 180 yX8_isBorne cX8_isBorne 3 (some .boolean) 2 := ⟨im_X8_isBorne, se_X8_isBorne, Or.inr ⟨"WalledIn", in_Tw (List.mem_of_getElem? (i := 912) (by decide +kernel)) rfl⟩, cd_X8_isBorne, ini_X8, nm_X8_isBorne⟩
theorem cd_X8_isStanding : Cond.code yX8_isStanding cX8_isStanding 3 (some .boolean) ∈ Tw := in_Tw (List.mem_of_getElem? (i := 976) (by decide +kernel)) rfl
theorem nm_X8_isStanding : Nms yX8_isStanding 1 := ⟨by decide, by decide, by decide +kernel⟩
theorem im_X8_isStanding : Cond.instanceMethod yX8_isStanding ∈ Tw := in_Tw (List.mem_of_getElem? (i := 975) (by decide +kernel)) rfl
theorem se_X8_isStanding : Cond.selects yX8_isStanding.cls yX8_isStanding yX8_isStanding ∈ Tw := in_Tw (List.mem_of_getElem? (i := 58) (by decide +kernel)) rfl
theorem cf_X11_184 : CfV RX11 184 yX8_isStanding cX8_isStanding 3 (some .boolean) 1 := ⟨im_X8_isStanding, se_X8_isStanding, Or.inr ⟨"WalledIn", in_Tw (List.mem_of_getElem? (i := 973) (by decide +kernel)) rfl⟩, cd_X8_isStanding, ini_X8, nm_X8_isStanding⟩
theorem cd_X7_keep : Cond.code yX7_keep cX7_keep 4 none ∈ Tw := in_Tw (List.mem_of_getElem? (i := 985) (by decide +kernel)) rfl
theorem nm_X7_keep : Nms yX7_keep 2 := ⟨by decide, by decide, by decide +kernel⟩
theorem im_X7_keep : Cond.instanceMethod yX7_keep ∈ Tw := in_Tw (List.mem_of_getElem? (i := 984) (by decide +kernel)) rfl
theorem se_X7_keep : Cond.selects yX7_keep.cls yX7_keep yX7_keep ∈ Tw := in_Tw (List.mem_of_getElem? (i := 59) (by decide +kernel)) rfl
theorem cf_X11_191 : CfV RX11 191 yX7_keep cX7_keep 4 none 2 := ⟨im_X7_keep, se_X7_keep, Or.inr ⟨"WalledIn", in_Tw (List.mem_of_getElem? (i := 982) (by decide +kernel)) rfl⟩, cd_X7_keep, ini_X7, nm_X7_keep⟩
theorem cd_X1_canLend : Cond.code yX1_canLend cX1_canLend 3 (some .boolean) ∈ Tw := in_Tw (List.mem_of_getElem? (i := 998) (by decide +kernel)) rfl
theorem nm_X1_canLend : Nms yX1_canLend 2 := ⟨by decide, by decide, by decide +kernel⟩
theorem im_X1_canLend : Cond.instanceMethod yX1_canLend ∈ Tw := in_Tw (List.mem_of_getElem? (i := 997) (by decide +kernel)) rfl
theorem se_X1_canLend : Cond.selects yX1_canLend.cls yX1_canLend yX1_canLend ∈ Tw := in_Tw (List.mem_of_getElem? (i := 60) (by decide +kernel)) rfl
theorem cf_X11_197 : CfV RX11 197 yX1_canLend cX1_canLend 3 (some .boolean) 2 := ⟨im_X1_canLend, se_X1_canLend, Or.inr ⟨"WalledIn", in_Tw (List.mem_of_getElem? (i := 995) (by decide +kernel)) rfl⟩, cd_X1_canLend, ini_X1, nm_X1_canLend⟩
theorem cd_X1_moveOne : Cond.code yX1_moveOne cX1_moveOne 3 none ∈ Tw := in_Tw (List.mem_of_getElem? (i := 1003) (by decide +kernel)) rfl
theorem nm_X1_moveOne : Nms yX1_moveOne 2 := ⟨by decide, by decide, by decide +kernel⟩
theorem im_X1_moveOne : Cond.instanceMethod yX1_moveOne ∈ Tw := in_Tw (List.mem_of_getElem? (i := 1002) (by decide +kernel)) rfl
theorem se_X1_moveOne : Cond.selects yX1_moveOne.cls yX1_moveOne yX1_moveOne ∈ Tw := in_Tw (List.mem_of_getElem? (i := 61) (by decide +kernel)) rfl
theorem cf_X11_200 : CfV RX11 200 yX1_moveOne cX1_moveOne 3 none 2 := ⟨im_X1_moveOne, se_X1_moveOne, Or.inr ⟨"WalledIn", in_Tw (List.mem_of_getElem? (i := 1000) (by decide +kernel)) rfl⟩, cd_X1_moveOne, ini_X1, nm_X1_moveOne⟩
theorem cd_X11_isPlayed : Cond.code yX11_isPlayed cX11_isPlayed 4 (some .boolean) ∈ Tw := in_Tw (List.mem_of_getElem? (i := 1011) (by decide +kernel)) rfl
theorem nm_X11_isPlayed : Nms yX11_isPlayed 2 := ⟨by decide, by decide, by decide +kernel⟩
theorem im_X11_isPlayed : Cond.instanceMethod yX11_isPlayed ∈ Tw := in_Tw (List.mem_of_getElem? (i := 1010) (by decide +kernel)) rfl
theorem se_X11_isPlayed : Cond.selects yX11_isPlayed.cls yX11_isPlayed yX11_isPlayed ∈ Tw := in_Tw (List.mem_of_getElem? (i := 62) (by decide +kernel)) rfl
theorem cf_X11_209 : CfV RX11 209 yX11_isPlayed cX11_isPlayed 4 (some .boolean) 2 := ⟨im_X11_isPlayed, se_X11_isPlayed, Or.inl (in_Tw (List.mem_of_getElem? (i := 1008) (by decide +kernel)) rfl), cd_X11_isPlayed, ini_X11, nm_X11_isPlayed⟩
theorem cd_X7_takeLatest : Cond.code yX7_takeLatest cX7_takeLatest 4 (some .int) ∈ Tw := in_Tw (List.mem_of_getElem? (i := 1038) (by decide +kernel)) rfl
theorem nm_X7_takeLatest : Nms yX7_takeLatest 1 := ⟨by decide, by decide, by decide +kernel⟩
theorem im_X7_takeLatest : Cond.instanceMethod yX7_takeLatest ∈ Tw := in_Tw (List.mem_of_getElem? (i := 1037) (by decide +kernel)) rfl
theorem se_X7_takeLatest : Cond.selects yX7_takeLatest.cls yX7_takeLatest yX7_takeLatest ∈ Tw := in_Tw (List.mem_of_getElem? (i := 67) (by decide +kernel)) rfl
theorem cf_X11_214 : CfV RX11 214 yX7_takeLatest cX7_takeLatest 4 (some .int) 1 := ⟨im_X7_takeLatest, se_X7_takeLatest, Or.inr ⟨"WalledIn", in_Tw (List.mem_of_getElem? (i := 1035) (by decide +kernel)) rfl⟩, cd_X7_takeLatest, ini_X7, nm_X7_takeLatest⟩
theorem cd_X3_prepare : Cond.code yX3_prepare cX3_prepare 3 none ∈ Tw := in_Tw (List.mem_of_getElem? (i := 1047) (by decide +kernel)) rfl
theorem nm_X3_prepare : Nms yX3_prepare 1 := ⟨by decide, by decide, by decide +kernel⟩
theorem im_X3_prepare : Cond.instanceMethod yX3_prepare ∈ Tw := in_Tw (List.mem_of_getElem? (i := 1046) (by decide +kernel)) rfl
theorem se_X3_prepare : Cond.selects yX3_prepare.cls yX3_prepare yX3_prepare ∈ Tw := in_Tw (List.mem_of_getElem? (i := 68) (by decide +kernel)) rfl
theorem cf_X11_218 : CfV RX11 218 yX3_prepare cX3_prepare 3 none 1 := ⟨im_X3_prepare, se_X3_prepare, Or.inr ⟨"WalledIn", in_Tw (List.mem_of_getElem? (i := 1044) (by decide +kernel)) rfl⟩, cd_X3_prepare, ini_X3, nm_X3_prepare⟩
theorem cd_X5_add : Cond.code yX5_add cX5_add 3 none ∈ Tw := in_Tw (List.mem_of_getElem? (i := 1106) (by decide +kernel)) rfl
theorem nm_X5_add : Nms yX5_add 2 := ⟨by decide, by decide, by decide +kernel⟩
theorem im_X5_add : Cond.instanceMethod yX5_add ∈ Tw := in_Tw (List.mem_of_getElem? (i := 1105) (by decide +kernel)) rfl
theorem se_X5_add : Cond.selects yX5_add.cls yX5_add yX5_add ∈ Tw := in_Tw (List.mem_of_getElem? (i := 78) (by decide +kernel)) rfl
theorem cf_X11_240 : CfV RX11 240 yX5_add cX5_add 3 none 2 := ⟨im_X5_add, se_X5_add, Or.inr ⟨"WalledIn", in_Tw (List.mem_of_getElem? (i := 1103) (by decide +kernel)) rfl⟩, cd_X5_add, ini_X5, nm_X5_add⟩
theorem cd_X3_listen : Cond.code yX3_listen cX3_listen 5 none ∈ Tw := in_Tw (List.mem_of_getElem? (i := 1119) (by decide +kernel)) rfl
theorem nm_X3_listen : Nms yX3_listen 1 := ⟨by decide, by decide, by decide +kernel⟩
theorem im_X3_listen : Cond.instanceMethod yX3_listen ∈ Tw := in_Tw (List.mem_of_getElem? (i := 1118) (by decide +kernel)) rfl
theorem se_X3_listen : Cond.selects yX3_listen.cls yX3_listen yX3_listen ∈ Tw := in_Tw (List.mem_of_getElem? (i := 79) (by decide +kernel)) rfl
theorem cf_X11_245 : CfV RX11 245 yX3_listen cX3_listen 5 none 1 := ⟨im_X3_listen, se_X3_listen, Or.inr ⟨"WalledIn", in_Tw (List.mem_of_getElem? (i := 1116) (by decide +kernel)) rfl⟩, cd_X3_listen, ini_X3, nm_X3_listen⟩
theorem cd_X1_rowLength : Cond.code yX1_rowLength cX1_rowLength 6 (some .int) ∈ Tw := in_Tw (List.mem_of_getElem? (i := 1135) (by decide +kernel)) rfl
theorem nm_X1_rowLength : Nms yX1_rowLength 2 := ⟨by decide, by decide, by decide +kernel⟩
theorem im_X1_rowLength : Cond.instanceMethod yX1_rowLength ∈ Tw := in_Tw (List.mem_of_getElem? (i := 1134) (by decide +kernel)) rfl
theorem se_X1_rowLength : Cond.selects yX1_rowLength.cls yX1_rowLength yX1_rowLength ∈ Tw := in_Tw (List.mem_of_getElem? (i := 80) (by decide +kernel)) rfl
theorem cf_X11_257 : CfV RX11 257 yX1_rowLength cX1_rowLength 6 (some .int) 2 := ⟨im_X1_rowLength, se_X1_rowLength, Or.inr ⟨"WalledIn", in_Tw (List.mem_of_getElem? (i := 1132) (by decide +kernel)) rfl⟩, cd_X1_rowLength, ini_X1, nm_X1_rowLength⟩
theorem cd_X1_rowAt : Cond.code yX1_rowAt cX1_rowAt 6 (some .int) ∈ Tw := in_Tw (List.mem_of_getElem? (i := 1143) (by decide +kernel)) rfl
theorem nm_X1_rowAt : Nms yX1_rowAt 3 := ⟨by decide, by decide, by decide +kernel⟩
theorem im_X1_rowAt : Cond.instanceMethod yX1_rowAt ∈ Tw := in_Tw (List.mem_of_getElem? (i := 1142) (by decide +kernel)) rfl
theorem se_X1_rowAt : Cond.selects yX1_rowAt.cls yX1_rowAt yX1_rowAt ∈ Tw := in_Tw (List.mem_of_getElem? (i := 82) (by decide +kernel)) rfl
theorem cf_X11_261 : CfV RX11 261 yX1_rowAt cX1_rowAt 6 (some .int) 3 := ⟨im_X1_rowAt, se_X1_rowAt, Or.inr ⟨"WalledIn", in_Tw (List.mem_of_getElem? (i := 1140) (by decide +kernel)) rfl⟩, cd_X1_rowAt, ini_X1, nm_X1_rowAt⟩
theorem cd_X0_fewestReturns : Cond.code yX0_fewestReturns cX0_fewestReturns 5 (some .int) ∈ Tw := in_Tw (List.mem_of_getElem? (i := 1155) (by decide +kernel)) rfl
theorem nm_X0_fewestReturns : Nms yX0_fewestReturns 1 := ⟨by decide, by decide, by decide +kernel⟩
theorem im_X0_fewestReturns : Cond.instanceMethod yX0_fewestReturns ∈ Tw := in_Tw (List.mem_of_getElem? (i := 1154) (by decide +kernel)) rfl
theorem se_X0_fewestReturns : Cond.selects yX0_fewestReturns.cls yX0_fewestReturns yX0_fewestReturns ∈ Tw := in_Tw (List.mem_of_getElem? (i := 83) (by decide +kernel)) rfl
theorem cf_X11_265 : CfV RX11 265 yX0_fewestReturns cX0_fewestReturns 5 (some .int) 1 := ⟨im_X0_fewestReturns, se_X0_fewestReturns, Or.inr ⟨"WalledIn", in_Tw (List.mem_of_getElem? (i := 1152) (by decide +kernel)) rfl⟩, cd_X0_fewestReturns, ini_X0, nm_X0_fewestReturns⟩
theorem cd_X1_lendByDraws : Cond.code yX1_lendByDraws cX1_lendByDraws 9 (some .int) ∈ Tw := in_Tw (List.mem_of_getElem? (i := 1169) (by decide +kernel)) rfl
theorem nm_X1_lendByDraws : Nms yX1_lendByDraws 2 := ⟨by decide, by decide, by decide +kernel⟩
theorem im_X1_lendByDraws : Cond.instanceMethod yX1_lendByDraws ∈ Tw := in_Tw (List.mem_of_getElem? (i := 1168) (by decide +kernel)) rfl
theorem se_X1_lendByDraws : Cond.selects yX1_lendByDraws.cls yX1_lendByDraws yX1_lendByDraws ∈ Tw := in_Tw (List.mem_of_getElem? (i := 85) (by decide +kernel)) rfl
theorem cf_X11_268 : CfV RX11 268 yX1_lendByDraws cX1_lendByDraws 9 (some .int) 2 := ⟨im_X1_lendByDraws, se_X1_lendByDraws, Or.inr ⟨"WalledIn", in_Tw (List.mem_of_getElem? (i := 1166) (by decide +kernel)) rfl⟩, cd_X1_lendByDraws, ini_X1, nm_X1_lendByDraws⟩
theorem cd_X6_become : Cond.code yX6_become cX6_become 3 none ∈ Tw := in_Tw (List.mem_of_getElem? (i := 1188) (by decide +kernel)) rfl
theorem nm_X6_become : Nms yX6_become 1 := ⟨by decide, by decide, by decide +kernel⟩
theorem im_X6_become : Cond.instanceMethod yX6_become ∈ Tw := in_Tw (List.mem_of_getElem? (i := 1187) (by decide +kernel)) rfl
theorem se_X6_become : Cond.selects yX6_become.cls yX6_become yX6_become ∈ Tw := in_Tw (List.mem_of_getElem? (i := 88) (by decide +kernel)) rfl
theorem cf_X11_271 : CfV RX11 271 yX6_become cX6_become 3 none 1 := ⟨im_X6_become, se_X6_become, Or.inr ⟨"WalledIn", in_Tw (List.mem_of_getElem? (i := 1185) (by decide +kernel)) rfl⟩, cd_X6_become, ini_X6, nm_X6_become⟩
theorem cd_X11_aboutStone : Cond.code yX11_aboutStone cX11_aboutStone 2 (some .int) ∈ Tw := in_Tw (List.mem_of_getElem? (i := 1219) (by decide +kernel)) rfl
theorem nm_X11_aboutStone : Nms yX11_aboutStone 1 := ⟨by decide, by decide, by decide +kernel⟩
theorem im_X11_aboutStone : Cond.instanceMethod yX11_aboutStone ∈ Tw := in_Tw (List.mem_of_getElem? (i := 1218) (by decide +kernel)) rfl
theorem se_X11_aboutStone : Cond.selects yX11_aboutStone.cls yX11_aboutStone yX11_aboutStone ∈ Tw := in_Tw (List.mem_of_getElem? (i := 93) (by decide +kernel)) rfl
theorem cf_X11_274 : CfV RX11 274 yX11_aboutStone cX11_aboutStone 2 (some .int) 1 := ⟨im_X11_aboutStone, se_X11_aboutStone, Or.inl (in_Tw (List.mem_of_getElem? (i := 1216) (by decide +kernel)) rfl), cd_X11_aboutStone, ini_X11, nm_X11_aboutStone⟩
theorem cd_X8_topOf : Cond.code yX8_topOf cX8_topOf 4 (some .int) ∈ Tw := in_Tw (List.mem_of_getElem? (i := 920) (by decide +kernel)) rfl
theorem nm_X8_topOf : Nms yX8_topOf 1 := ⟨by decide, by decide, by decide +kernel⟩
theorem im_X8_topOf : Cond.instanceMethod yX8_topOf ∈ Tw := in_Tw (List.mem_of_getElem? (i := 919) (by decide +kernel)) rfl
theorem se_X8_topOf : Cond.selects yX8_topOf.cls yX8_topOf yX8_topOf ∈ Tw := in_Tw (List.mem_of_getElem? (i := 48) (by decide +kernel)) rfl
theorem cf_X11_277 : CfV RX11 277 yX8_topOf cX8_topOf 4 (some .int) 1 := ⟨im_X8_topOf, se_X8_topOf, Or.inr ⟨"WalledIn", in_Tw (List.mem_of_getElem? (i := 917) (by decide +kernel)) rfl⟩, cd_X8_topOf, ini_X8, nm_X8_topOf⟩
theorem cd_X2_isLet : Cond.code yX2_isLet cX2_isLet 6 (some .boolean) ∈ Tw := in_Tw (List.mem_of_getElem? (i := 925) (by decide +kernel)) rfl
theorem nm_X2_isLet : Nms yX2_isLet 4 := ⟨by decide, by decide, by decide +kernel⟩
theorem im_X2_isLet : Cond.instanceMethod yX2_isLet ∈ Tw := in_Tw (List.mem_of_getElem? (i := 924) (by decide +kernel)) rfl
theorem se_X2_isLet : Cond.selects yX2_isLet.cls yX2_isLet yX2_isLet ∈ Tw := in_Tw (List.mem_of_getElem? (i := 49) (by decide +kernel)) rfl
theorem cf_X11_280 : CfV RX11 280 yX2_isLet cX2_isLet 6 (some .boolean) 4 := ⟨im_X2_isLet, se_X2_isLet, Or.inr ⟨"WalledIn", in_Tw (List.mem_of_getElem? (i := 922) (by decide +kernel)) rfl⟩, cd_X2_isLet, ini_X2, nm_X2_isLet⟩
theorem cd_X2_liftOf : Cond.code yX2_liftOf cX2_liftOf 6 (some .int) ∈ Tw := in_Tw (List.mem_of_getElem? (i := 962) (by decide +kernel)) rfl
theorem nm_X2_liftOf : Nms yX2_liftOf 4 := ⟨by decide, by decide, by decide +kernel⟩
theorem im_X2_liftOf : Cond.instanceMethod yX2_liftOf ∈ Tw := in_Tw (List.mem_of_getElem? (i := 961) (by decide +kernel)) rfl
theorem se_X2_liftOf : Cond.selects yX2_liftOf.cls yX2_liftOf yX2_liftOf ∈ Tw := in_Tw (List.mem_of_getElem? (i := 56) (by decide +kernel)) rfl
theorem cf_X11_284 : CfV RX11 284 yX2_liftOf cX2_liftOf 6 (some .int) 4 := ⟨im_X2_liftOf, se_X2_liftOf, Or.inr ⟨"WalledIn", in_Tw (List.mem_of_getElem? (i := 959) (by decide +kernel)) rfl⟩, cd_X2_liftOf, ini_X2, nm_X2_liftOf⟩
theorem cd_X10_firstOf : Cond.code yX10_firstOf cX10_firstOf 2 (some .int) ∈ Tw := in_Tw (List.mem_of_getElem? (i := 1015) (by decide +kernel)) rfl
theorem nm_X10_firstOf : Nms yX10_firstOf 1 := ⟨by decide, by decide, by decide +kernel⟩
theorem im_X10_firstOf : Cond.instanceMethod yX10_firstOf ∈ Tw := in_Tw (List.mem_of_getElem? (i := 1014) (by decide +kernel)) rfl
theorem se_X10_firstOf : Cond.selects yX10_firstOf.cls yX10_firstOf yX10_firstOf ∈ Tw := in_Tw (List.mem_of_getElem? (i := 63) (by decide +kernel)) rfl
theorem cf_X11_288 : CfV RX11 288 yX10_firstOf cX10_firstOf 2 (some .int) 1 := ⟨im_X10_firstOf, se_X10_firstOf, Or.inr ⟨"WalledIn", in_Tw (List.mem_of_getElem? (i := 1012) (by decide +kernel)) rfl⟩, cd_X10_firstOf, ini_X10, nm_X10_firstOf⟩
theorem cd_X10_deedOf : Cond.code yX10_deedOf cX10_deedOf 2 (some .int) ∈ Tw := in_Tw (List.mem_of_getElem? (i := 1023) (by decide +kernel)) rfl
theorem nm_X10_deedOf : Nms yX10_deedOf 1 := ⟨by decide, by decide, by decide +kernel⟩
theorem im_X10_deedOf : Cond.instanceMethod yX10_deedOf ∈ Tw := in_Tw (List.mem_of_getElem? (i := 1022) (by decide +kernel)) rfl
theorem se_X10_deedOf : Cond.selects yX10_deedOf.cls yX10_deedOf yX10_deedOf ∈ Tw := in_Tw (List.mem_of_getElem? (i := 65) (by decide +kernel)) rfl
theorem cf_X11_291 : CfV RX11 291 yX10_deedOf cX10_deedOf 2 (some .int) 1 := ⟨im_X10_deedOf, se_X10_deedOf, Or.inr ⟨"WalledIn", in_Tw (List.mem_of_getElem? (i := 1020) (by decide +kernel)) rfl⟩, cd_X10_deedOf, ini_X10, nm_X10_deedOf⟩
theorem cd_X11_lay : Cond.code yX11_lay cX11_lay 3 (some .int) ∈ Tw := in_Tw (List.mem_of_getElem? (i := 981) (by decide +kernel)) rfl
theorem nm_X11_lay : Nms yX11_lay 1 := ⟨by decide, by decide, by decide +kernel⟩
theorem im_X11_lay : Cond.instanceMethod yX11_lay ∈ Tw := in_Tw (List.mem_of_getElem? (i := 979) (by decide +kernel)) rfl
theorem se_X11_lay : Cond.selects yX11_lay.cls yX11_lay yX11_lay ∈ Tw := in_Tw (List.mem_of_getElem? (i := 980) (by decide +kernel)) rfl
theorem cf_X11_294 : CfV RX11 294 yX11_lay cX11_lay 3 (some .int) 1 := ⟨im_X11_lay, se_X11_lay, Or.inl (in_Tw (List.mem_of_getElem? (i := 1024) (by decide +kernel)) rfl), cd_X11_lay, ini_X11, nm_X11_lay⟩
theorem cd_X11_out : Cond.code yX11_out cX11_out 3 (some .int) ∈ Tw := in_Tw (List.mem_of_getElem? (i := 990) (by decide +kernel)) rfl
theorem nm_X11_out : Nms yX11_out 1 := ⟨by decide, by decide, by decide +kernel⟩
theorem im_X11_out : Cond.instanceMethod yX11_out ∈ Tw := in_Tw (List.mem_of_getElem? (i := 988) (by decide +kernel)) rfl
theorem se_X11_out : Cond.selects yX11_out.cls yX11_out yX11_out ∈ Tw := in_Tw (List.mem_of_getElem? (i := 989) (by decide +kernel)) rfl
theorem cf_X11_297 : CfV RX11 297 yX11_out cX11_out 3 (some .int) 1 := ⟨im_X11_out, se_X11_out, Or.inl (in_Tw (List.mem_of_getElem? (i := 1025) (by decide +kernel)) rfl), cd_X11_out, ini_X11, nm_X11_out⟩
theorem cd_X10_secondOf : Cond.code yX10_secondOf cX10_secondOf 2 (some .int) ∈ Tw := in_Tw (List.mem_of_getElem? (i := 1029) (by decide +kernel)) rfl
theorem nm_X10_secondOf : Nms yX10_secondOf 1 := ⟨by decide, by decide, by decide +kernel⟩
theorem im_X10_secondOf : Cond.instanceMethod yX10_secondOf ∈ Tw := in_Tw (List.mem_of_getElem? (i := 1028) (by decide +kernel)) rfl
theorem se_X10_secondOf : Cond.selects yX10_secondOf.cls yX10_secondOf yX10_secondOf ∈ Tw := in_Tw (List.mem_of_getElem? (i := 66) (by decide +kernel)) rfl
theorem cf_X11_300 : CfV RX11 300 yX10_secondOf cX10_secondOf 2 (some .int) 1 := ⟨im_X10_secondOf, se_X10_secondOf, Or.inr ⟨"WalledIn", in_Tw (List.mem_of_getElem? (i := 1026) (by decide +kernel)) rfl⟩, cd_X10_secondOf, ini_X10, nm_X10_secondOf⟩
theorem cd_X11_lend : Cond.code yX11_lend cX11_lend 3 (some .int) ∈ Tw := in_Tw (List.mem_of_getElem? (i := 994) (by decide +kernel)) rfl
theorem nm_X11_lend : Nms yX11_lend 2 := ⟨by decide, by decide, by decide +kernel⟩
theorem im_X11_lend : Cond.instanceMethod yX11_lend ∈ Tw := in_Tw (List.mem_of_getElem? (i := 992) (by decide +kernel)) rfl
theorem se_X11_lend : Cond.selects yX11_lend.cls yX11_lend yX11_lend ∈ Tw := in_Tw (List.mem_of_getElem? (i := 993) (by decide +kernel)) rfl
theorem cf_X11_303 : CfV RX11 303 yX11_lend cX11_lend 3 (some .int) 2 := ⟨im_X11_lend, se_X11_lend, Or.inl (in_Tw (List.mem_of_getElem? (i := 1030) (by decide +kernel)) rfl), cd_X11_lend, ini_X11, nm_X11_lend⟩
theorem ol_X0_3 : Cond.methodLink RX0 3 objectInit ∈ Tw := in_Tw (List.mem_of_getElem? (i := 513) (by decide +kernel)) rfl
theorem cd_J6_numberOfTrailingZeros_0f7a4 : Cond.code yJ6_numberOfTrailingZeros_0f7a4 cJ6_numberOfTrailingZeros_0f7a4 2 (some .int) ∈ Tw := in_Tw (List.mem_of_getElem? (i := 1146) (by decide +kernel)) rfl
theorem nm_J6_numberOfTrailingZeros_0f7a4 : Nms yJ6_numberOfTrailingZeros_0f7a4 1 := ⟨by decide, by decide, by decide +kernel⟩
theorem st_J6_numberOfTrailingZeros_0f7a4 : Cond.static yJ6_numberOfTrailingZeros_0f7a4 ∈ Tw := in_Tw (List.mem_of_getElem? (i := 1145) (by decide +kernel)) rfl
theorem cf_X0_24 : CfS RX0 24 yJ6_numberOfTrailingZeros_0f7a4 cJ6_numberOfTrailingZeros_0f7a4 2 (some .int) 1 := ⟨st_J6_numberOfTrailingZeros_0f7a4, in_Tw (List.mem_of_getElem? (i := 1156) (by decide +kernel)) rfl, cd_J6_numberOfTrailingZeros_0f7a4, ini_J6, nm_J6_numberOfTrailingZeros_0f7a4⟩
theorem cd_X0_mostWithoutOne : Cond.code yX0_mostWithoutOne cX0_mostWithoutOne 5 (some .int) ∈ Tw := in_Tw (List.mem_of_getElem? (i := 1160) (by decide +kernel)) rfl
theorem nm_X0_mostWithoutOne : Nms yX0_mostWithoutOne 2 := ⟨by decide, by decide, by decide +kernel⟩
theorem im_X0_mostWithoutOne : Cond.instanceMethod yX0_mostWithoutOne ∈ Tw := in_Tw (List.mem_of_getElem? (i := 1159) (by decide +kernel)) rfl
theorem se_X0_mostWithoutOne : Cond.selects yX0_mostWithoutOne.cls yX0_mostWithoutOne yX0_mostWithoutOne ∈ Tw := in_Tw (List.mem_of_getElem? (i := 84) (by decide +kernel)) rfl
theorem cf_X0_33 : CfV RX0 33 yX0_mostWithoutOne cX0_mostWithoutOne 5 (some .int) 2 := ⟨im_X0_mostWithoutOne, se_X0_mostWithoutOne, Or.inl (in_Tw (List.mem_of_getElem? (i := 1157) (by decide +kernel)) rfl), cd_X0_mostWithoutOne, ini_X0, nm_X0_mostWithoutOne⟩
theorem cd_J9_max_7cf53 : Cond.code yJ9_max_7cf53 cJ9_max_7cf53 2 (some .int) ∈ Tw := in_Tw (List.mem_of_getElem? (i := 724) (by decide +kernel)) rfl
theorem ini_J9 : Cond.initialized RJ9 ∈ Tw := in_Tw (List.mem_of_getElem? (i := 158) (by decide +kernel)) rfl
theorem nm_J9_max_7cf53 : Nms yJ9_max_7cf53 2 := ⟨by decide, by decide, by decide +kernel⟩
theorem st_J9_max_7cf53 : Cond.static yJ9_max_7cf53 ∈ Tw := in_Tw (List.mem_of_getElem? (i := 723) (by decide +kernel)) rfl
theorem cf_X0_37 : CfS RX0 37 yJ9_max_7cf53 cJ9_max_7cf53 2 (some .int) 2 := ⟨st_J9_max_7cf53, in_Tw (List.mem_of_getElem? (i := 1161) (by decide +kernel)) rfl, cd_J9_max_7cf53, ini_J9, nm_J9_max_7cf53⟩
theorem ol_X1_3 : Cond.methodLink RX1 3 objectInit ∈ Tw := in_Tw (List.mem_of_getElem? (i := 218) (by decide +kernel)) rfl
theorem cf_X1_28 : CfV RX1 28 yX1_has cX1_has 2 (some .boolean) 1 := ⟨im_X1_has, se_X1_has, Or.inl (in_Tw (List.mem_of_getElem? (i := 999) (by decide +kernel)) rfl), cd_X1_has, ini_X1, nm_X1_has⟩
theorem cd_X1_lendersTo : Cond.code yX1_lendersTo cX1_lendersTo 4 (some .int) ∈ Tw := in_Tw (List.mem_of_getElem? (i := 1139) (by decide +kernel)) rfl
theorem nm_X1_lendersTo : Nms yX1_lendersTo 1 := ⟨by decide, by decide, by decide +kernel⟩
theorem im_X1_lendersTo : Cond.instanceMethod yX1_lendersTo ∈ Tw := in_Tw (List.mem_of_getElem? (i := 1138) (by decide +kernel)) rfl
theorem se_X1_lendersTo : Cond.selects yX1_lendersTo.cls yX1_lendersTo yX1_lendersTo ∈ Tw := in_Tw (List.mem_of_getElem? (i := 81) (by decide +kernel)) rfl
theorem cf_X1_32 : CfV RX1 32 yX1_lendersTo cX1_lendersTo 4 (some .int) 1 := ⟨im_X1_lendersTo, se_X1_lendersTo, Or.inl (in_Tw (List.mem_of_getElem? (i := 1136) (by decide +kernel)) rfl), cd_X1_lendersTo, ini_X1, nm_X1_lendersTo⟩
theorem cf_X1_36 : CfS RX1 36 yJ6_numberOfTrailingZeros_0f7a4 cJ6_numberOfTrailingZeros_0f7a4 2 (some .int) 1 := ⟨st_J6_numberOfTrailingZeros_0f7a4, in_Tw (List.mem_of_getElem? (i := 1144) (by decide +kernel)) rfl, cd_J6_numberOfTrailingZeros_0f7a4, ini_J6, nm_J6_numberOfTrailingZeros_0f7a4⟩
theorem cd_X1_nextDraw : Cond.code yX1_nextDraw cX1_nextDraw 2 (some .int) ∈ Tw := in_Tw (List.mem_of_getElem? (i := 1173) (by decide +kernel)) rfl
theorem nm_X1_nextDraw : Nms yX1_nextDraw 1 := ⟨by decide, by decide, by decide +kernel⟩
theorem im_X1_nextDraw : Cond.instanceMethod yX1_nextDraw ∈ Tw := in_Tw (List.mem_of_getElem? (i := 1172) (by decide +kernel)) rfl
theorem se_X1_nextDraw : Cond.selects yX1_nextDraw.cls yX1_nextDraw yX1_nextDraw ∈ Tw := in_Tw (List.mem_of_getElem? (i := 86) (by decide +kernel)) rfl
theorem cf_X1_41 : CfV RX1 41 yX1_nextDraw cX1_nextDraw 2 (some .int) 1 := ⟨im_X1_nextDraw, se_X1_nextDraw, Or.inl (in_Tw (List.mem_of_getElem? (i := 1170) (by decide +kernel)) rfl), cd_X1_nextDraw, ini_X1, nm_X1_nextDraw⟩
theorem cf_X1_44 : CfS RX1 44 yJ6_bitCount_0f7a4 cJ6_bitCount_0f7a4 1 (some .int) 1 := ⟨st_J6_bitCount_0f7a4, in_Tw (List.mem_of_getElem? (i := 1174) (by decide +kernel)) rfl, cd_J6_bitCount_0f7a4, ini_J6, nm_J6_bitCount_0f7a4⟩
theorem cd_X1_nearAt : Cond.code yX1_nearAt cX1_nearAt 5 (some .int) ∈ Tw := in_Tw (List.mem_of_getElem? (i := 1178) (by decide +kernel)) rfl
theorem nm_X1_nearAt : Nms yX1_nearAt 2 := ⟨by decide, by decide, by decide +kernel⟩
theorem im_X1_nearAt : Cond.instanceMethod yX1_nearAt ∈ Tw := in_Tw (List.mem_of_getElem? (i := 1177) (by decide +kernel)) rfl
theorem se_X1_nearAt : Cond.selects yX1_nearAt.cls yX1_nearAt yX1_nearAt ∈ Tw := in_Tw (List.mem_of_getElem? (i := 87) (by decide +kernel)) rfl
theorem cf_X1_47 : CfV RX1 47 yX1_nearAt cX1_nearAt 5 (some .int) 2 := ⟨im_X1_nearAt, se_X1_nearAt, Or.inl (in_Tw (List.mem_of_getElem? (i := 1175) (by decide +kernel)) rfl), cd_X1_nearAt, ini_X1, nm_X1_nearAt⟩
theorem cf_X1_51 : CfV RX1 51 yX1_canLend cX1_canLend 3 (some .boolean) 2 := ⟨im_X1_canLend, se_X1_canLend, Or.inl (in_Tw (List.mem_of_getElem? (i := 1179) (by decide +kernel)) rfl), cd_X1_canLend, ini_X1, nm_X1_canLend⟩
theorem cf_X1_55 : CfV RX1 55 yX1_moveOne cX1_moveOne 3 none 2 := ⟨im_X1_moveOne, se_X1_moveOne, Or.inl (in_Tw (List.mem_of_getElem? (i := 1180) (by decide +kernel)) rfl), cd_X1_moveOne, ini_X1, nm_X1_moveOne⟩
theorem ol_X2_3 : Cond.methodLink RX2 3 objectInit ∈ Tw := in_Tw (List.mem_of_getElem? (i := 451) (by decide +kernel)) rfl
theorem cd_X6_rule : Cond.code yX6_rule cX6_rule 1 (some (.object "WalledIn$Text")) ∈ Tw := in_Tw (List.mem_of_getElem? (i := 929) (by decide +kernel)) rfl
theorem nm_X6_rule : Nms yX6_rule 0 := ⟨by decide, by decide, by decide +kernel⟩
theorem im_X6_rule : Cond.instanceMethod yX6_rule ∈ Tw := in_Tw (List.mem_of_getElem? (i := 928) (by decide +kernel)) rfl
theorem se_X6_rule : Cond.selects yX6_rule.cls yX6_rule yX6_rule ∈ Tw := in_Tw (List.mem_of_getElem? (i := 50) (by decide +kernel)) rfl
theorem cf_X2_18 : CfV RX2 18 yX6_rule cX6_rule 1 (some (.object "WalledIn$Text")) 0 := ⟨im_X6_rule, se_X6_rule, Or.inr ⟨"WalledIn", in_Tw (List.mem_of_getElem? (i := 926) (by decide +kernel)) rfl⟩, cd_X6_rule, ini_X6, nm_X6_rule⟩
theorem cd_X2_setStone : Cond.code yX2_setStone cX2_setStone 3 none ∈ Tw := in_Tw (List.mem_of_getElem? (i := 934) (by decide +kernel)) rfl
theorem nm_X2_setStone : Nms yX2_setStone 2 := ⟨by decide, by decide, by decide +kernel⟩
theorem im_X2_setStone : Cond.instanceMethod yX2_setStone ∈ Tw := in_Tw (List.mem_of_getElem? (i := 933) (by decide +kernel)) rfl
theorem se_X2_setStone : Cond.selects yX2_setStone.cls yX2_setStone yX2_setStone ∈ Tw := in_Tw (List.mem_of_getElem? (i := 51) (by decide +kernel)) rfl
theorem cf_X2_41 : CfV RX2 41 yX2_setStone cX2_setStone 3 none 2 := ⟨im_X2_setStone, se_X2_setStone, Or.inl (in_Tw (List.mem_of_getElem? (i := 931) (by decide +kernel)) rfl), cd_X2_setStone, ini_X2, nm_X2_setStone⟩
theorem cd_X2_setPlace : Cond.code yX2_setPlace cX2_setPlace 4 none ∈ Tw := in_Tw (List.mem_of_getElem? (i := 938) (by decide +kernel)) rfl
theorem nm_X2_setPlace : Nms yX2_setPlace 3 := ⟨by decide, by decide, by decide +kernel⟩
theorem im_X2_setPlace : Cond.instanceMethod yX2_setPlace ∈ Tw := in_Tw (List.mem_of_getElem? (i := 937) (by decide +kernel)) rfl
theorem se_X2_setPlace : Cond.selects yX2_setPlace.cls yX2_setPlace yX2_setPlace ∈ Tw := in_Tw (List.mem_of_getElem? (i := 52) (by decide +kernel)) rfl
theorem cf_X2_49 : CfV RX2 49 yX2_setPlace cX2_setPlace 4 none 3 := ⟨im_X2_setPlace, se_X2_setPlace, Or.inl (in_Tw (List.mem_of_getElem? (i := 935) (by decide +kernel)) rfl), cd_X2_setPlace, ini_X2, nm_X2_setPlace⟩
theorem cd_X2_run : Cond.code yX2_run cX2_run 7 (some .int) ∈ Tw := in_Tw (List.mem_of_getElem? (i := 942) (by decide +kernel)) rfl
theorem nm_X2_run : Nms yX2_run 1 := ⟨by decide, by decide, by decide +kernel⟩
theorem im_X2_run : Cond.instanceMethod yX2_run ∈ Tw := in_Tw (List.mem_of_getElem? (i := 941) (by decide +kernel)) rfl
theorem se_X2_run : Cond.selects yX2_run.cls yX2_run yX2_run ∈ Tw := in_Tw (List.mem_of_getElem? (i := 53) (by decide +kernel)) rfl
theorem cf_X2_53 : CfV RX2 53 yX2_run cX2_run 7 (some .int) 1 := ⟨im_X2_run, se_X2_run, Or.inl (in_Tw (List.mem_of_getElem? (i := 939) (by decide +kernel)) rfl), cd_X2_run, ini_X2, nm_X2_run⟩
theorem cd_J9_min_7cf53 : Cond.code yJ9_min_7cf53 cJ9_min_7cf53 2 (some .int) ∈ Tw := in_Tw (List.mem_of_getElem? (i := 701) (by decide +kernel)) rfl
theorem nm_J9_min_7cf53 : Nms yJ9_min_7cf53 2 := ⟨by decide, by decide, by decide +kernel⟩
theorem st_J9_min_7cf53 : Cond.static yJ9_min_7cf53 ∈ Tw := in_Tw (List.mem_of_getElem? (i := 700) (by decide +kernel)) rfl
theorem cf_X2_57 : CfS RX2 57 yJ9_min_7cf53 cJ9_min_7cf53 2 (some .int) 2 := ⟨st_J9_min_7cf53, in_Tw (List.mem_of_getElem? (i := 963) (by decide +kernel)) rfl, cd_J9_min_7cf53, ini_J9, nm_J9_min_7cf53⟩
theorem cf_X2_63 : CfS RX2 63 yJ9_max_7cf53 cJ9_max_7cf53 2 (some .int) 2 := ⟨st_J9_max_7cf53, in_Tw (List.mem_of_getElem? (i := 964) (by decide +kernel)) rfl, cd_J9_max_7cf53, ini_J9, nm_J9_max_7cf53⟩
theorem cd_X2_outcome : Cond.code yX2_outcome cX2_outcome 6 (some .long) ∈ Tw := in_Tw (List.mem_of_getElem? (i := 946) (by decide +kernel)) rfl
theorem nm_X2_outcome : Nms yX2_outcome 3 := ⟨by decide, by decide, by decide +kernel⟩
theorem im_X2_outcome : Cond.instanceMethod yX2_outcome ∈ Tw := in_Tw (List.mem_of_getElem? (i := 945) (by decide +kernel)) rfl
theorem se_X2_outcome : Cond.selects yX2_outcome.cls yX2_outcome yX2_outcome ∈ Tw := in_Tw (List.mem_of_getElem? (i := 54) (by decide +kernel)) rfl
theorem cf_X2_75 : CfV RX2 75 yX2_outcome cX2_outcome 6 (some .long) 3 := ⟨im_X2_outcome, se_X2_outcome, Or.inl (in_Tw (List.mem_of_getElem? (i := 943) (by decide +kernel)) rfl), cd_X2_outcome, ini_X2, nm_X2_outcome⟩
theorem cd_J9_min_f86c9 : Cond.code yJ9_min_f86c9 cJ9_min_f86c9 4 (some .long) ∈ Tw := in_Tw (List.mem_of_getElem? (i := 951) (by decide +kernel)) rfl
theorem nm_J9_min_f86c9 : Nms yJ9_min_f86c9 2 := ⟨by decide, by decide, by decide +kernel⟩
theorem st_J9_min_f86c9 : Cond.static yJ9_min_f86c9 ∈ Tw := in_Tw (List.mem_of_getElem? (i := 950) (by decide +kernel)) rfl
theorem cf_X2_83 : CfS RX2 83 yJ9_min_f86c9 cJ9_min_f86c9 4 (some .long) 2 := ⟨st_J9_min_f86c9, in_Tw (List.mem_of_getElem? (i := 949) (by decide +kernel)) rfl, cd_J9_min_f86c9, ini_J9, nm_J9_min_f86c9⟩
theorem cd_J9_max_f86c9 : Cond.code yJ9_max_f86c9 cJ9_max_f86c9 4 (some .long) ∈ Tw := in_Tw (List.mem_of_getElem? (i := 954) (by decide +kernel)) rfl
theorem nm_J9_max_f86c9 : Nms yJ9_max_f86c9 2 := ⟨by decide, by decide, by decide +kernel⟩
theorem st_J9_max_f86c9 : Cond.static yJ9_max_f86c9 ∈ Tw := in_Tw (List.mem_of_getElem? (i := 953) (by decide +kernel)) rfl
theorem cf_X2_86 : CfS RX2 86 yJ9_max_f86c9 cJ9_max_f86c9 4 (some .long) 2 := ⟨st_J9_max_f86c9, in_Tw (List.mem_of_getElem? (i := 952) (by decide +kernel)) rfl, cd_J9_max_f86c9, ini_J9, nm_J9_max_f86c9⟩
theorem ol_X3_3 : Cond.methodLink RX3 3 objectInit ∈ Tw := in_Tw (List.mem_of_getElem? (i := 464) (by decide +kernel)) rfl
theorem cf_X3_23 : CfI RX3 23 yX2_init cX2_init 1 0 := ⟨rfl, im_X2_init, Or.inr ⟨"WalledIn", in_Tw (List.mem_of_getElem? (i := 466) (by decide +kernel)) rfl⟩, cd_X2_init, ini_X2, nm_X2_init⟩
theorem cd_J7_fill_53178 : Cond.code yJ7_fill_53178 cJ7_fill_53178 4 none ∈ Tw := in_Tw (List.mem_of_getElem? (i := 1050) (by decide +kernel)) rfl
theorem ini_J7 : Cond.initialized RJ7 ∈ Tw := in_Tw (List.mem_of_getElem? (i := 160) (by decide +kernel)) rfl
theorem nm_J7_fill_53178 : Nms yJ7_fill_53178 2 := ⟨by decide, by decide, by decide +kernel⟩
theorem st_J7_fill_53178 : Cond.static yJ7_fill_53178 ∈ Tw := in_Tw (List.mem_of_getElem? (i := 1049) (by decide +kernel)) rfl
theorem cf_X3_52 : CfS RX3 52 yJ7_fill_53178 cJ7_fill_53178 4 none 2 := ⟨st_J7_fill_53178, in_Tw (List.mem_of_getElem? (i := 1048) (by decide +kernel)) rfl, cd_J7_fill_53178, ini_J7, nm_J7_fill_53178⟩
theorem cd_X3_countWays : Cond.code yX3_countWays cX3_countWays 6 none ∈ Tw := in_Tw (List.mem_of_getElem? (i := 1054) (by decide +kernel)) rfl
theorem nm_X3_countWays : Nms yX3_countWays 3 := ⟨by decide, by decide, by decide +kernel⟩
theorem im_X3_countWays : Cond.instanceMethod yX3_countWays ∈ Tw := in_Tw (List.mem_of_getElem? (i := 1053) (by decide +kernel)) rfl
theorem se_X3_countWays : Cond.selects yX3_countWays.cls yX3_countWays yX3_countWays ∈ Tw := in_Tw (List.mem_of_getElem? (i := 69) (by decide +kernel)) rfl
theorem cf_X3_69 : CfV RX3 69 yX3_countWays cX3_countWays 6 none 3 := ⟨im_X3_countWays, se_X3_countWays, Or.inl (in_Tw (List.mem_of_getElem? (i := 1051) (by decide +kernel)) rfl), cd_X3_countWays, ini_X3, nm_X3_countWays⟩
theorem cd_X8_all : Cond.code yX8_all cX8_all 1 (some .int) ∈ Tw := in_Tw (List.mem_of_getElem? (i := 563) (by decide +kernel)) rfl
theorem nm_X8_all : Nms yX8_all 0 := ⟨by decide, by decide, by decide +kernel⟩
theorem im_X8_all : Cond.instanceMethod yX8_all ∈ Tw := in_Tw (List.mem_of_getElem? (i := 562) (by decide +kernel)) rfl
theorem se_X8_all : Cond.selects yX8_all.cls yX8_all yX8_all ∈ Tw := in_Tw (List.mem_of_getElem? (i := 1) (by decide +kernel)) rfl
theorem cf_X3_73 : CfV RX3 73 yX8_all cX8_all 1 (some .int) 0 := ⟨im_X8_all, se_X8_all, Or.inr ⟨"WalledIn", in_Tw (List.mem_of_getElem? (i := 1055) (by decide +kernel)) rfl⟩, cd_X8_all, ini_X8, nm_X8_all⟩
theorem cd_X3_lowestOfMost : Cond.code yX3_lowestOfMost cX3_lowestOfMost 4 (some .int) ∈ Tw := in_Tw (List.mem_of_getElem? (i := 1076) (by decide +kernel)) rfl
theorem nm_X3_lowestOfMost : Nms yX3_lowestOfMost 1 := ⟨by decide, by decide, by decide +kernel⟩
theorem im_X3_lowestOfMost : Cond.instanceMethod yX3_lowestOfMost ∈ Tw := in_Tw (List.mem_of_getElem? (i := 1075) (by decide +kernel)) rfl
theorem se_X3_lowestOfMost : Cond.selects yX3_lowestOfMost.cls yX3_lowestOfMost yX3_lowestOfMost ∈ Tw := in_Tw (List.mem_of_getElem? (i := 73) (by decide +kernel)) rfl
theorem cf_X3_77 : CfV RX3 77 yX3_lowestOfMost cX3_lowestOfMost 4 (some .int) 1 := ⟨im_X3_lowestOfMost, se_X3_lowestOfMost, Or.inl (in_Tw (List.mem_of_getElem? (i := 1073) (by decide +kernel)) rfl), cd_X3_lowestOfMost, ini_X3, nm_X3_lowestOfMost⟩
theorem cd_X3_measure : Cond.code yX3_measure cX3_measure 5 none ∈ Tw := in_Tw (List.mem_of_getElem? (i := 1080) (by decide +kernel)) rfl
theorem nm_X3_measure : Nms yX3_measure 2 := ⟨by decide, by decide, by decide +kernel⟩
theorem im_X3_measure : Cond.instanceMethod yX3_measure ∈ Tw := in_Tw (List.mem_of_getElem? (i := 1079) (by decide +kernel)) rfl
theorem se_X3_measure : Cond.selects yX3_measure.cls yX3_measure yX3_measure ∈ Tw := in_Tw (List.mem_of_getElem? (i := 74) (by decide +kernel)) rfl
theorem cf_X3_81 : CfV RX3 81 yX3_measure cX3_measure 5 none 2 := ⟨im_X3_measure, se_X3_measure, Or.inl (in_Tw (List.mem_of_getElem? (i := 1077) (by decide +kernel)) rfl), cd_X3_measure, ini_X3, nm_X3_measure⟩
theorem cd_X3_choose : Cond.code yX3_choose cX3_choose 6 none ∈ Tw := in_Tw (List.mem_of_getElem? (i := 1090) (by decide +kernel)) rfl
theorem nm_X3_choose : Nms yX3_choose 2 := ⟨by decide, by decide, by decide +kernel⟩
theorem im_X3_choose : Cond.instanceMethod yX3_choose ∈ Tw := in_Tw (List.mem_of_getElem? (i := 1089) (by decide +kernel)) rfl
theorem se_X3_choose : Cond.selects yX3_choose.cls yX3_choose yX3_choose ∈ Tw := in_Tw (List.mem_of_getElem? (i := 76) (by decide +kernel)) rfl
theorem cf_X3_85 : CfV RX3 85 yX3_choose cX3_choose 6 none 2 := ⟨im_X3_choose, se_X3_choose, Or.inl (in_Tw (List.mem_of_getElem? (i := 1087) (by decide +kernel)) rfl), cd_X3_choose, ini_X3, nm_X3_choose⟩
theorem cf_X3_88 : CfS RX3 88 yJ6_bitCount_0f7a4 cJ6_bitCount_0f7a4 1 (some .int) 1 := ⟨st_J6_bitCount_0f7a4, in_Tw (List.mem_of_getElem? (i := 1056) (by decide +kernel)) rfl, cd_J6_bitCount_0f7a4, ini_J6, nm_J6_bitCount_0f7a4⟩
theorem cd_X3_spread : Cond.code yX3_spread cX3_spread 9 none ∈ Tw := in_Tw (List.mem_of_getElem? (i := 1060) (by decide +kernel)) rfl
theorem nm_X3_spread : Nms yX3_spread 3 := ⟨by decide, by decide, by decide +kernel⟩
theorem im_X3_spread : Cond.instanceMethod yX3_spread ∈ Tw := in_Tw (List.mem_of_getElem? (i := 1059) (by decide +kernel)) rfl
theorem se_X3_spread : Cond.selects yX3_spread.cls yX3_spread yX3_spread ∈ Tw := in_Tw (List.mem_of_getElem? (i := 70) (by decide +kernel)) rfl
theorem cf_X3_93 : CfV RX3 93 yX3_spread cX3_spread 9 none 3 := ⟨im_X3_spread, se_X3_spread, Or.inl (in_Tw (List.mem_of_getElem? (i := 1057) (by decide +kernel)) rfl), cd_X3_spread, ini_X3, nm_X3_spread⟩
theorem cf_X3_96 : CfV RX3 96 yX8_topOf cX8_topOf 4 (some .int) 1 := ⟨im_X8_topOf, se_X8_topOf, Or.inr ⟨"WalledIn", in_Tw (List.mem_of_getElem? (i := 1061) (by decide +kernel)) rfl⟩, cd_X8_topOf, ini_X8, nm_X8_topOf⟩
theorem cd_X5_isFit : Cond.code yX5_isFit cX5_isFit 3 (some .boolean) ∈ Tw := in_Tw (List.mem_of_getElem? (i := 1065) (by decide +kernel)) rfl
theorem nm_X5_isFit : Nms yX5_isFit 2 := ⟨by decide, by decide, by decide +kernel⟩
theorem im_X5_isFit : Cond.instanceMethod yX5_isFit ∈ Tw := in_Tw (List.mem_of_getElem? (i := 1064) (by decide +kernel)) rfl
theorem se_X5_isFit : Cond.selects yX5_isFit.cls yX5_isFit yX5_isFit ∈ Tw := in_Tw (List.mem_of_getElem? (i := 71) (by decide +kernel)) rfl
theorem cf_X3_106 : CfV RX3 106 yX5_isFit cX5_isFit 3 (some .boolean) 2 := ⟨im_X5_isFit, se_X5_isFit, Or.inr ⟨"WalledIn", in_Tw (List.mem_of_getElem? (i := 1062) (by decide +kernel)) rfl⟩, cd_X5_isFit, ini_X5, nm_X5_isFit⟩
theorem cd_X3_liftUpon : Cond.code yX3_liftUpon cX3_liftUpon 8 (some .int) ∈ Tw := in_Tw (List.mem_of_getElem? (i := 1069) (by decide +kernel)) rfl
theorem nm_X3_liftUpon : Nms yX3_liftUpon 4 := ⟨by decide, by decide, by decide +kernel⟩
theorem im_X3_liftUpon : Cond.instanceMethod yX3_liftUpon ∈ Tw := in_Tw (List.mem_of_getElem? (i := 1068) (by decide +kernel)) rfl
theorem se_X3_liftUpon : Cond.selects yX3_liftUpon.cls yX3_liftUpon yX3_liftUpon ∈ Tw := in_Tw (List.mem_of_getElem? (i := 72) (by decide +kernel)) rfl
theorem cf_X3_112 : CfV RX3 112 yX3_liftUpon cX3_liftUpon 8 (some .int) 4 := ⟨im_X3_liftUpon, se_X3_liftUpon, Or.inl (in_Tw (List.mem_of_getElem? (i := 1066) (by decide +kernel)) rfl), cd_X3_liftUpon, ini_X3, nm_X3_liftUpon⟩
theorem cf_X3_116 : CfV RX3 116 yX8_isBorne cX8_isBorne 3 (some .boolean) 2 := ⟨im_X8_isBorne, se_X8_isBorne, Or.inr ⟨"WalledIn", in_Tw (List.mem_of_getElem? (i := 1070) (by decide +kernel)) rfl⟩, cd_X8_isBorne, ini_X8, nm_X8_isBorne⟩
theorem cf_X3_119 : CfV RX3 119 yX2_isLet cX2_isLet 6 (some .boolean) 4 := ⟨im_X2_isLet, se_X2_isLet, Or.inr ⟨"WalledIn", in_Tw (List.mem_of_getElem? (i := 1071) (by decide +kernel)) rfl⟩, cd_X2_isLet, ini_X2, nm_X2_isLet⟩
theorem cf_X3_123 : CfV RX3 123 yX2_liftOf cX2_liftOf 6 (some .int) 4 := ⟨im_X2_liftOf, se_X2_liftOf, Or.inr ⟨"WalledIn", in_Tw (List.mem_of_getElem? (i := 1072) (by decide +kernel)) rfl⟩, cd_X2_liftOf, ini_X2, nm_X2_liftOf⟩
theorem cd_X3_leastAhead : Cond.code yX3_leastAhead cX3_leastAhead 8 (some .int) ∈ Tw := in_Tw (List.mem_of_getElem? (i := 1084) (by decide +kernel)) rfl
theorem nm_X3_leastAhead : Nms yX3_leastAhead 3 := ⟨by decide, by decide, by decide +kernel⟩
theorem im_X3_leastAhead : Cond.instanceMethod yX3_leastAhead ∈ Tw := in_Tw (List.mem_of_getElem? (i := 1083) (by decide +kernel)) rfl
theorem se_X3_leastAhead : Cond.selects yX3_leastAhead.cls yX3_leastAhead yX3_leastAhead ∈ Tw := in_Tw (List.mem_of_getElem? (i := 75) (by decide +kernel)) rfl
theorem cf_X3_126 : CfV RX3 126 yX3_leastAhead cX3_leastAhead 8 (some .int) 3 := ⟨im_X3_leastAhead, se_X3_leastAhead, Or.inl (in_Tw (List.mem_of_getElem? (i := 1081) (by decide +kernel)) rfl), cd_X3_leastAhead, ini_X3, nm_X3_leastAhead⟩
theorem cf_X3_131 : CfS RX3 131 yJ9_min_7cf53 cJ9_min_7cf53 2 (some .int) 2 := ⟨st_J9_min_7cf53, in_Tw (List.mem_of_getElem? (i := 1086) (by decide +kernel)) rfl, cd_J9_min_7cf53, ini_J9, nm_J9_min_7cf53⟩
theorem cd_X3_firstOfLeast : Cond.code yX3_firstOfLeast cX3_firstOfLeast 7 (some .int) ∈ Tw := in_Tw (List.mem_of_getElem? (i := 1094) (by decide +kernel)) rfl
theorem nm_X3_firstOfLeast : Nms yX3_firstOfLeast 3 := ⟨by decide, by decide, by decide +kernel⟩
theorem im_X3_firstOfLeast : Cond.instanceMethod yX3_firstOfLeast ∈ Tw := in_Tw (List.mem_of_getElem? (i := 1093) (by decide +kernel)) rfl
theorem se_X3_firstOfLeast : Cond.selects yX3_firstOfLeast.cls yX3_firstOfLeast yX3_firstOfLeast ∈ Tw := in_Tw (List.mem_of_getElem? (i := 77) (by decide +kernel)) rfl
theorem cf_X3_137 : CfV RX3 137 yX3_firstOfLeast cX3_firstOfLeast 7 (some .int) 3 := ⟨im_X3_firstOfLeast, se_X3_firstOfLeast, Or.inl (in_Tw (List.mem_of_getElem? (i := 1091) (by decide +kernel)) rfl), cd_X3_firstOfLeast, ini_X3, nm_X3_firstOfLeast⟩
theorem ol_X4_3 : Cond.methodLink RX4 3 objectInit ∈ Tw := in_Tw (List.mem_of_getElem? (i := 390) (by decide +kernel)) rfl
theorem cd_X9_split : Cond.code yX9_split cX9_split 2 none ∈ Tw := in_Tw (List.mem_of_getElem? (i := 617) (by decide +kernel)) rfl
theorem nm_X9_split : Nms yX9_split 0 := ⟨by decide, by decide, by decide +kernel⟩
theorem im_X9_split : Cond.instanceMethod yX9_split ∈ Tw := in_Tw (List.mem_of_getElem? (i := 616) (by decide +kernel)) rfl
theorem se_X9_split : Cond.selects yX9_split.cls yX9_split yX9_split ∈ Tw := in_Tw (List.mem_of_getElem? (i := 7) (by decide +kernel)) rfl
theorem cf_X4_70 : CfV RX4 70 yX9_split cX9_split 2 none 0 := ⟨im_X9_split, se_X9_split, Or.inr ⟨"WalledIn", in_Tw (List.mem_of_getElem? (i := 614) (by decide +kernel)) rfl⟩, cd_X9_split, ini_X9, nm_X9_split⟩
theorem cd_X9_kind : Cond.code yX9_kind cX9_kind 1 (some .int) ∈ Tw := in_Tw (List.mem_of_getElem? (i := 767) (by decide +kernel)) rfl
theorem nm_X9_kind : Nms yX9_kind 0 := ⟨by decide, by decide, by decide +kernel⟩
theorem im_X9_kind : Cond.instanceMethod yX9_kind ∈ Tw := in_Tw (List.mem_of_getElem? (i := 766) (by decide +kernel)) rfl
theorem se_X9_kind : Cond.selects yX9_kind.cls yX9_kind yX9_kind ∈ Tw := in_Tw (List.mem_of_getElem? (i := 17) (by decide +kernel)) rfl
theorem cf_X4_75 : CfV RX4 75 yX9_kind cX9_kind 1 (some .int) 0 := ⟨im_X9_kind, se_X9_kind, Or.inr ⟨"WalledIn", in_Tw (List.mem_of_getElem? (i := 764) (by decide +kernel)) rfl⟩, cd_X9_kind, ini_X9, nm_X9_kind⟩
theorem cd_X4_readClause : Cond.code yX4_readClause cX4_readClause 2 none ∈ Tw := in_Tw (List.mem_of_getElem? (i := 771) (by decide +kernel)) rfl
theorem nm_X4_readClause : Nms yX4_readClause 1 := ⟨by decide, by decide, by decide +kernel⟩
theorem im_X4_readClause : Cond.instanceMethod yX4_readClause ∈ Tw := in_Tw (List.mem_of_getElem? (i := 770) (by decide +kernel)) rfl
theorem se_X4_readClause : Cond.selects yX4_readClause.cls yX4_readClause yX4_readClause ∈ Tw := in_Tw (List.mem_of_getElem? (i := 18) (by decide +kernel)) rfl
theorem cf_X4_79 : CfV RX4 79 yX4_readClause cX4_readClause 2 none 1 := ⟨im_X4_readClause, se_X4_readClause, Or.inl (in_Tw (List.mem_of_getElem? (i := 768) (by decide +kernel)) rfl), cd_X4_readClause, ini_X4, nm_X4_readClause⟩
theorem cd_J7_copyOf_59c91 : Cond.code yJ7_copyOf_59c91 cJ7_copyOf_59c91 3 (some (.array .int)) ∈ Tw := in_Tw (List.mem_of_getElem? (i := 850) (by decide +kernel)) rfl
theorem nm_J7_copyOf_59c91 : Nms yJ7_copyOf_59c91 2 := ⟨by decide, by decide, by decide +kernel⟩
theorem st_J7_copyOf_59c91 : Cond.static yJ7_copyOf_59c91 ∈ Tw := in_Tw (List.mem_of_getElem? (i := 849) (by decide +kernel)) rfl
theorem cf_X4_83 : CfS RX4 83 yJ7_copyOf_59c91 cJ7_copyOf_59c91 3 (some (.array .int)) 2 := ⟨st_J7_copyOf_59c91, in_Tw (List.mem_of_getElem? (i := 848) (by decide +kernel)) rfl, cd_J7_copyOf_59c91, ini_J7, nm_J7_copyOf_59c91⟩
theorem cd_X10_init : Cond.code yX10_init cX10_init 5 none ∈ Tw := in_Tw (List.mem_of_getElem? (i := 285) (by decide +kernel)) rfl
theorem nm_X10_init : Nms yX10_init 4 := ⟨by decide, by decide, by decide +kernel⟩
theorem im_X10_init : Cond.instanceMethod yX10_init ∈ Tw := in_Tw (List.mem_of_getElem? (i := 284) (by decide +kernel)) rfl
theorem cf_X4_89 : CfI RX4 89 yX10_init cX10_init 5 4 := ⟨rfl, im_X10_init, Or.inr ⟨"WalledIn", in_Tw (List.mem_of_getElem? (i := 883) (by decide +kernel)) rfl⟩, cd_X10_init, ini_X10, nm_X10_init⟩
theorem cd_X9_start : Cond.code yX9_start cX9_start 1 (some .int) ∈ Tw := in_Tw (List.mem_of_getElem? (i := 779) (by decide +kernel)) rfl
theorem nm_X9_start : Nms yX9_start 0 := ⟨by decide, by decide, by decide +kernel⟩
theorem im_X9_start : Cond.instanceMethod yX9_start ∈ Tw := in_Tw (List.mem_of_getElem? (i := 778) (by decide +kernel)) rfl
theorem se_X9_start : Cond.selects yX9_start.cls yX9_start yX9_start ∈ Tw := in_Tw (List.mem_of_getElem? (i := 20) (by decide +kernel)) rfl
theorem cf_X4_92 : CfV RX4 92 yX9_start cX9_start 1 (some .int) 0 := ⟨im_X9_start, se_X9_start, Or.inr ⟨"WalledIn", in_Tw (List.mem_of_getElem? (i := 776) (by decide +kernel)) rfl⟩, cd_X9_start, ini_X9, nm_X9_start⟩
theorem cd_X4_fail : Cond.code yX4_fail cX4_fail 3 none ∈ Tw := in_Tw (List.mem_of_getElem? (i := 775) (by decide +kernel)) rfl
theorem nm_X4_fail : Nms yX4_fail 2 := ⟨by decide, by decide, by decide +kernel⟩
theorem im_X4_fail : Cond.instanceMethod yX4_fail ∈ Tw := in_Tw (List.mem_of_getElem? (i := 774) (by decide +kernel)) rfl
theorem se_X4_fail : Cond.selects yX4_fail.cls yX4_fail yX4_fail ∈ Tw := in_Tw (List.mem_of_getElem? (i := 19) (by decide +kernel)) rfl
theorem cf_X4_95 : CfV RX4 95 yX4_fail cX4_fail 3 none 2 := ⟨im_X4_fail, se_X4_fail, Or.inl (in_Tw (List.mem_of_getElem? (i := 772) (by decide +kernel)) rfl), cd_X4_fail, ini_X4, nm_X4_fail⟩
theorem cd_X4_isTold : Cond.code yX4_isTold cX4_isTold 2 (some .boolean) ∈ Tw := in_Tw (List.mem_of_getElem? (i := 783) (by decide +kernel)) rfl
theorem nm_X4_isTold : Nms yX4_isTold 1 := ⟨by decide, by decide, by decide +kernel⟩
theorem im_X4_isTold : Cond.instanceMethod yX4_isTold ∈ Tw := in_Tw (List.mem_of_getElem? (i := 782) (by decide +kernel)) rfl
theorem se_X4_isTold : Cond.selects yX4_isTold.cls yX4_isTold yX4_isTold ∈ Tw := in_Tw (List.mem_of_getElem? (i := 21) (by decide +kernel)) rfl
theorem cf_X4_99 : CfV RX4 99 yX4_isTold cX4_isTold 2 (some .boolean) 1 := ⟨im_X4_isTold, se_X4_isTold, Or.inl (in_Tw (List.mem_of_getElem? (i := 780) (by decide +kernel)) rfl), cd_X4_isTold, ini_X4, nm_X4_isTold⟩
theorem cd_X9_advance : Cond.code yX9_advance cX9_advance 1 none ∈ Tw := in_Tw (List.mem_of_getElem? (i := 787) (by decide +kernel)) rfl
theorem nm_X9_advance : Nms yX9_advance 0 := ⟨by decide, by decide, by decide +kernel⟩
theorem im_X9_advance : Cond.instanceMethod yX9_advance ∈ Tw := in_Tw (List.mem_of_getElem? (i := 786) (by decide +kernel)) rfl
theorem se_X9_advance : Cond.selects yX9_advance.cls yX9_advance yX9_advance ∈ Tw := in_Tw (List.mem_of_getElem? (i := 22) (by decide +kernel)) rfl
theorem cf_X4_103 : CfV RX4 103 yX9_advance cX9_advance 1 none 0 := ⟨im_X9_advance, se_X9_advance, Or.inr ⟨"WalledIn", in_Tw (List.mem_of_getElem? (i := 784) (by decide +kernel)) rfl⟩, cd_X9_advance, ini_X9, nm_X9_advance⟩
theorem cd_X4_readLaw : Cond.code yX4_readLaw cX4_readLaw 4 none ∈ Tw := in_Tw (List.mem_of_getElem? (i := 791) (by decide +kernel)) rfl
theorem nm_X4_readLaw : Nms yX4_readLaw 1 := ⟨by decide, by decide, by decide +kernel⟩
theorem im_X4_readLaw : Cond.instanceMethod yX4_readLaw ∈ Tw := in_Tw (List.mem_of_getElem? (i := 790) (by decide +kernel)) rfl
theorem se_X4_readLaw : Cond.selects yX4_readLaw.cls yX4_readLaw yX4_readLaw ∈ Tw := in_Tw (List.mem_of_getElem? (i := 23) (by decide +kernel)) rfl
theorem cf_X4_106 : CfV RX4 106 yX4_readLaw cX4_readLaw 4 none 1 := ⟨im_X4_readLaw, se_X4_readLaw, Or.inl (in_Tw (List.mem_of_getElem? (i := 788) (by decide +kernel)) rfl), cd_X4_readLaw, ini_X4, nm_X4_readLaw⟩
theorem cd_X4_readDeed : Cond.code yX4_readDeed cX4_readDeed 5 none ∈ Tw := in_Tw (List.mem_of_getElem? (i := 869) (by decide +kernel)) rfl
theorem nm_X4_readDeed : Nms yX4_readDeed 1 := ⟨by decide, by decide, by decide +kernel⟩
theorem im_X4_readDeed : Cond.instanceMethod yX4_readDeed ∈ Tw := in_Tw (List.mem_of_getElem? (i := 868) (by decide +kernel)) rfl
theorem se_X4_readDeed : Cond.selects yX4_readDeed.cls yX4_readDeed yX4_readDeed ∈ Tw := in_Tw (List.mem_of_getElem? (i := 39) (by decide +kernel)) rfl
theorem cf_X4_109 : CfV RX4 109 yX4_readDeed cX4_readDeed 5 none 1 := ⟨im_X4_readDeed, se_X4_readDeed, Or.inl (in_Tw (List.mem_of_getElem? (i := 866) (by decide +kernel)) rfl), cd_X4_readDeed, ini_X4, nm_X4_readDeed⟩
theorem cd_X4_readNumber : Cond.code yX4_readNumber cX4_readNumber 4 (some .int) ∈ Tw := in_Tw (List.mem_of_getElem? (i := 873) (by decide +kernel)) rfl
theorem nm_X4_readNumber : Nms yX4_readNumber 2 := ⟨by decide, by decide, by decide +kernel⟩
theorem im_X4_readNumber : Cond.instanceMethod yX4_readNumber ∈ Tw := in_Tw (List.mem_of_getElem? (i := 872) (by decide +kernel)) rfl
theorem se_X4_readNumber : Cond.selects yX4_readNumber.cls yX4_readNumber yX4_readNumber ∈ Tw := in_Tw (List.mem_of_getElem? (i := 40) (by decide +kernel)) rfl
theorem cf_X4_112 : CfV RX4 112 yX4_readNumber cX4_readNumber 4 (some .int) 2 := ⟨im_X4_readNumber, se_X4_readNumber, Or.inl (in_Tw (List.mem_of_getElem? (i := 870) (by decide +kernel)) rfl), cd_X4_readNumber, ini_X4, nm_X4_readNumber⟩
theorem cd_X4_pass : Cond.code yX4_pass cX4_pass 3 none ∈ Tw := in_Tw (List.mem_of_getElem? (i := 877) (by decide +kernel)) rfl
theorem nm_X4_pass : Nms yX4_pass 2 := ⟨by decide, by decide, by decide +kernel⟩
theorem im_X4_pass : Cond.instanceMethod yX4_pass ∈ Tw := in_Tw (List.mem_of_getElem? (i := 876) (by decide +kernel)) rfl
theorem se_X4_pass : Cond.selects yX4_pass.cls yX4_pass yX4_pass ∈ Tw := in_Tw (List.mem_of_getElem? (i := 41) (by decide +kernel)) rfl
theorem cf_X4_116 : CfV RX4 116 yX4_pass cX4_pass 3 none 2 := ⟨im_X4_pass, se_X4_pass, Or.inl (in_Tw (List.mem_of_getElem? (i := 874) (by decide +kernel)) rfl), cd_X4_pass, ini_X4, nm_X4_pass⟩
theorem cd_X4_addClause : Cond.code yX4_addClause cX4_addClause 3 none ∈ Tw := in_Tw (List.mem_of_getElem? (i := 865) (by decide +kernel)) rfl
theorem nm_X4_addClause : Nms yX4_addClause 2 := ⟨by decide, by decide, by decide +kernel⟩
theorem im_X4_addClause : Cond.instanceMethod yX4_addClause ∈ Tw := in_Tw (List.mem_of_getElem? (i := 864) (by decide +kernel)) rfl
theorem se_X4_addClause : Cond.selects yX4_addClause.cls yX4_addClause yX4_addClause ∈ Tw := in_Tw (List.mem_of_getElem? (i := 38) (by decide +kernel)) rfl
theorem cf_X4_119 : CfV RX4 119 yX4_addClause cX4_addClause 3 none 2 := ⟨im_X4_addClause, se_X4_addClause, Or.inl (in_Tw (List.mem_of_getElem? (i := 862) (by decide +kernel)) rfl), cd_X4_addClause, ini_X4, nm_X4_addClause⟩
theorem cd_X9_number : Cond.code yX9_number cX9_number 1 (some .int) ∈ Tw := in_Tw (List.mem_of_getElem? (i := 811) (by decide +kernel)) rfl
theorem nm_X9_number : Nms yX9_number 0 := ⟨by decide, by decide, by decide +kernel⟩
theorem im_X9_number : Cond.instanceMethod yX9_number ∈ Tw := in_Tw (List.mem_of_getElem? (i := 810) (by decide +kernel)) rfl
theorem se_X9_number : Cond.selects yX9_number.cls yX9_number yX9_number ∈ Tw := in_Tw (List.mem_of_getElem? (i := 28) (by decide +kernel)) rfl
theorem cf_X4_123 : CfV RX4 123 yX9_number cX9_number 1 (some .int) 0 := ⟨im_X9_number, se_X9_number, Or.inr ⟨"WalledIn", in_Tw (List.mem_of_getElem? (i := 808) (by decide +kernel)) rfl⟩, cd_X9_number, ini_X9, nm_X9_number⟩
theorem cd_X4_isAtEnd : Cond.code yX4_isAtEnd cX4_isAtEnd 2 (some .boolean) ∈ Tw := in_Tw (List.mem_of_getElem? (i := 795) (by decide +kernel)) rfl
theorem nm_X4_isAtEnd : Nms yX4_isAtEnd 1 := ⟨by decide, by decide, by decide +kernel⟩
theorem im_X4_isAtEnd : Cond.instanceMethod yX4_isAtEnd ∈ Tw := in_Tw (List.mem_of_getElem? (i := 794) (by decide +kernel)) rfl
theorem se_X4_isAtEnd : Cond.selects yX4_isAtEnd.cls yX4_isAtEnd yX4_isAtEnd ∈ Tw := in_Tw (List.mem_of_getElem? (i := 24) (by decide +kernel)) rfl
theorem cf_X4_126 : CfV RX4 126 yX4_isAtEnd cX4_isAtEnd 2 (some .boolean) 1 := ⟨im_X4_isAtEnd, se_X4_isAtEnd, Or.inl (in_Tw (List.mem_of_getElem? (i := 792) (by decide +kernel)) rfl), cd_X4_isAtEnd, ini_X4, nm_X4_isAtEnd⟩
theorem cd_X4_takeOne : Cond.code yX4_takeOne cX4_takeOne 3 (some .int) ∈ Tw := in_Tw (List.mem_of_getElem? (i := 799) (by decide +kernel)) rfl
theorem nm_X4_takeOne : Nms yX4_takeOne 1 := ⟨by decide, by decide, by decide +kernel⟩
theorem im_X4_takeOne : Cond.instanceMethod yX4_takeOne ∈ Tw := in_Tw (List.mem_of_getElem? (i := 798) (by decide +kernel)) rfl
theorem se_X4_takeOne : Cond.selects yX4_takeOne.cls yX4_takeOne yX4_takeOne ∈ Tw := in_Tw (List.mem_of_getElem? (i := 25) (by decide +kernel)) rfl
theorem cf_X4_129 : CfV RX4 129 yX4_takeOne cX4_takeOne 3 (some .int) 1 := ⟨im_X4_takeOne, se_X4_takeOne, Or.inl (in_Tw (List.mem_of_getElem? (i := 796) (by decide +kernel)) rfl), cd_X4_takeOne, ini_X4, nm_X4_takeOne⟩
theorem cd_X4_takeSign : Cond.code yX4_takeSign cX4_takeSign 3 (some .int) ∈ Tw := in_Tw (List.mem_of_getElem? (i := 823) (by decide +kernel)) rfl
theorem nm_X4_takeSign : Nms yX4_takeSign 1 := ⟨by decide, by decide, by decide +kernel⟩
theorem im_X4_takeSign : Cond.instanceMethod yX4_takeSign ∈ Tw := in_Tw (List.mem_of_getElem? (i := 822) (by decide +kernel)) rfl
theorem se_X4_takeSign : Cond.selects yX4_takeSign.cls yX4_takeSign yX4_takeSign ∈ Tw := in_Tw (List.mem_of_getElem? (i := 31) (by decide +kernel)) rfl
theorem cf_X4_133 : CfV RX4 133 yX4_takeSign cX4_takeSign 3 (some .int) 1 := ⟨im_X4_takeSign, se_X4_takeSign, Or.inl (in_Tw (List.mem_of_getElem? (i := 820) (by decide +kernel)) rfl), cd_X4_takeSign, ini_X4, nm_X4_takeSign⟩
theorem cd_X4_settle : Cond.code yX4_settle cX4_settle 4 none ∈ Tw := in_Tw (List.mem_of_getElem? (i := 831) (by decide +kernel)) rfl
theorem nm_X4_settle : Nms yX4_settle 1 := ⟨by decide, by decide, by decide +kernel⟩
theorem im_X4_settle : Cond.instanceMethod yX4_settle ∈ Tw := in_Tw (List.mem_of_getElem? (i := 830) (by decide +kernel)) rfl
theorem se_X4_settle : Cond.selects yX4_settle.cls yX4_settle yX4_settle ∈ Tw := in_Tw (List.mem_of_getElem? (i := 33) (by decide +kernel)) rfl
theorem cf_X4_137 : CfV RX4 137 yX4_settle cX4_settle 4 none 1 := ⟨im_X4_settle, se_X4_settle, Or.inl (in_Tw (List.mem_of_getElem? (i := 828) (by decide +kernel)) rfl), cd_X4_settle, ini_X4, nm_X4_settle⟩
theorem cd_X4_keepLaw : Cond.code yX4_keepLaw cX4_keepLaw 2 none ∈ Tw := in_Tw (List.mem_of_getElem? (i := 847) (by decide +kernel)) rfl
theorem nm_X4_keepLaw : Nms yX4_keepLaw 0 := ⟨by decide, by decide, by decide +kernel⟩
theorem im_X4_keepLaw : Cond.instanceMethod yX4_keepLaw ∈ Tw := in_Tw (List.mem_of_getElem? (i := 846) (by decide +kernel)) rfl
theorem se_X4_keepLaw : Cond.selects yX4_keepLaw.cls yX4_keepLaw yX4_keepLaw ∈ Tw := in_Tw (List.mem_of_getElem? (i := 37) (by decide +kernel)) rfl
theorem cf_X4_141 : CfV RX4 141 yX4_keepLaw cX4_keepLaw 2 none 0 := ⟨im_X4_keepLaw, se_X4_keepLaw, Or.inl (in_Tw (List.mem_of_getElem? (i := 844) (by decide +kernel)) rfl), cd_X4_keepLaw, ini_X4, nm_X4_keepLaw⟩
theorem cd_X4_openOne : Cond.code yX4_openOne cX4_openOne 2 (some .int) ∈ Tw := in_Tw (List.mem_of_getElem? (i := 803) (by decide +kernel)) rfl
theorem nm_X4_openOne : Nms yX4_openOne 1 := ⟨by decide, by decide, by decide +kernel⟩
theorem im_X4_openOne : Cond.instanceMethod yX4_openOne ∈ Tw := in_Tw (List.mem_of_getElem? (i := 802) (by decide +kernel)) rfl
theorem se_X4_openOne : Cond.selects yX4_openOne.cls yX4_openOne yX4_openOne ∈ Tw := in_Tw (List.mem_of_getElem? (i := 26) (by decide +kernel)) rfl
theorem cf_X4_144 : CfV RX4 144 yX4_openOne cX4_openOne 2 (some .int) 1 := ⟨im_X4_openOne, se_X4_openOne, Or.inl (in_Tw (List.mem_of_getElem? (i := 800) (by decide +kernel)) rfl), cd_X4_openOne, ini_X4, nm_X4_openOne⟩
theorem cd_X4_addCode : Cond.code yX4_addCode cX4_addCode 2 none ∈ Tw := in_Tw (List.mem_of_getElem? (i := 815) (by decide +kernel)) rfl
theorem nm_X4_addCode : Nms yX4_addCode 1 := ⟨by decide, by decide, by decide +kernel⟩
theorem im_X4_addCode : Cond.instanceMethod yX4_addCode ∈ Tw := in_Tw (List.mem_of_getElem? (i := 814) (by decide +kernel)) rfl
theorem se_X4_addCode : Cond.selects yX4_addCode.cls yX4_addCode yX4_addCode ∈ Tw := in_Tw (List.mem_of_getElem? (i := 29) (by decide +kernel)) rfl
theorem cf_X4_147 : CfV RX4 147 yX4_addCode cX4_addCode 2 none 1 := ⟨im_X4_addCode, se_X4_addCode, Or.inl (in_Tw (List.mem_of_getElem? (i := 812) (by decide +kernel)) rfl), cd_X4_addCode, ini_X4, nm_X4_addCode⟩
theorem cd_X4_isOfClause : Cond.code yX4_isOfClause cX4_isOfClause 2 (some .boolean) ∈ Tw := in_Tw (List.mem_of_getElem? (i := 819) (by decide +kernel)) rfl
theorem nm_X4_isOfClause : Nms yX4_isOfClause 1 := ⟨by decide, by decide, by decide +kernel⟩
theorem im_X4_isOfClause : Cond.instanceMethod yX4_isOfClause ∈ Tw := in_Tw (List.mem_of_getElem? (i := 818) (by decide +kernel)) rfl
theorem se_X4_isOfClause : Cond.selects yX4_isOfClause.cls yX4_isOfClause yX4_isOfClause ∈ Tw := in_Tw (List.mem_of_getElem? (i := 30) (by decide +kernel)) rfl
theorem cf_X4_150 : CfV RX4 150 yX4_isOfClause cX4_isOfClause 2 (some .boolean) 1 := ⟨im_X4_isOfClause, se_X4_isOfClause, Or.inl (in_Tw (List.mem_of_getElem? (i := 816) (by decide +kernel)) rfl), cd_X4_isOfClause, ini_X4, nm_X4_isOfClause⟩
theorem cd_X4_putOff : Cond.code yX4_putOff cX4_putOff 2 none ∈ Tw := in_Tw (List.mem_of_getElem? (i := 807) (by decide +kernel)) rfl
theorem nm_X4_putOff : Nms yX4_putOff 1 := ⟨by decide, by decide, by decide +kernel⟩
theorem im_X4_putOff : Cond.instanceMethod yX4_putOff ∈ Tw := in_Tw (List.mem_of_getElem? (i := 806) (by decide +kernel)) rfl
theorem se_X4_putOff : Cond.selects yX4_putOff.cls yX4_putOff yX4_putOff ∈ Tw := in_Tw (List.mem_of_getElem? (i := 27) (by decide +kernel)) rfl
theorem cf_X4_153 : CfV RX4 153 yX4_putOff cX4_putOff 2 none 1 := ⟨im_X4_putOff, se_X4_putOff, Or.inl (in_Tw (List.mem_of_getElem? (i := 804) (by decide +kernel)) rfl), cd_X4_putOff, ini_X4, nm_X4_putOff⟩
theorem cd_X4_join : Cond.code yX4_join cX4_join 2 none ∈ Tw := in_Tw (List.mem_of_getElem? (i := 827) (by decide +kernel)) rfl
theorem nm_X4_join : Nms yX4_join 1 := ⟨by decide, by decide, by decide +kernel⟩
theorem im_X4_join : Cond.instanceMethod yX4_join ∈ Tw := in_Tw (List.mem_of_getElem? (i := 826) (by decide +kernel)) rfl
theorem se_X4_join : Cond.selects yX4_join.cls yX4_join yX4_join ∈ Tw := in_Tw (List.mem_of_getElem? (i := 32) (by decide +kernel)) rfl
theorem cf_X4_156 : CfV RX4 156 yX4_join cX4_join 2 none 1 := ⟨im_X4_join, se_X4_join, Or.inl (in_Tw (List.mem_of_getElem? (i := 824) (by decide +kernel)) rfl), cd_X4_join, ini_X4, nm_X4_join⟩
theorem cd_X4_endWait : Cond.code yX4_endWait cX4_endWait 2 none ∈ Tw := in_Tw (List.mem_of_getElem? (i := 839) (by decide +kernel)) rfl
theorem nm_X4_endWait : Nms yX4_endWait 0 := ⟨by decide, by decide, by decide +kernel⟩
theorem im_X4_endWait : Cond.instanceMethod yX4_endWait ∈ Tw := in_Tw (List.mem_of_getElem? (i := 838) (by decide +kernel)) rfl
theorem se_X4_endWait : Cond.selects yX4_endWait.cls yX4_endWait yX4_endWait ∈ Tw := in_Tw (List.mem_of_getElem? (i := 35) (by decide +kernel)) rfl
theorem cf_X4_159 : CfV RX4 159 yX4_endWait cX4_endWait 2 none 0 := ⟨im_X4_endWait, se_X4_endWait, Or.inl (in_Tw (List.mem_of_getElem? (i := 836) (by decide +kernel)) rfl), cd_X4_endWait, ini_X4, nm_X4_endWait⟩
theorem cd_X4_isComparison : Cond.code yX4_isComparison cX4_isComparison 2 (some .boolean) ∈ Tw := in_Tw (List.mem_of_getElem? (i := 843) (by decide +kernel)) rfl
theorem nm_X4_isComparison : Nms yX4_isComparison 1 := ⟨by decide, by decide, by decide +kernel⟩
theorem im_X4_isComparison : Cond.instanceMethod yX4_isComparison ∈ Tw := in_Tw (List.mem_of_getElem? (i := 842) (by decide +kernel)) rfl
theorem se_X4_isComparison : Cond.selects yX4_isComparison.cls yX4_isComparison yX4_isComparison ∈ Tw := in_Tw (List.mem_of_getElem? (i := 36) (by decide +kernel)) rfl
theorem cf_X4_162 : CfV RX4 162 yX4_isComparison cX4_isComparison 2 (some .boolean) 1 := ⟨im_X4_isComparison, se_X4_isComparison, Or.inl (in_Tw (List.mem_of_getElem? (i := 840) (by decide +kernel)) rfl), cd_X4_isComparison, ini_X4, nm_X4_isComparison⟩
theorem cd_X4_closeness : Cond.code yX4_closeness cX4_closeness 2 (some .int) ∈ Tw := in_Tw (List.mem_of_getElem? (i := 835) (by decide +kernel)) rfl
theorem nm_X4_closeness : Nms yX4_closeness 1 := ⟨by decide, by decide, by decide +kernel⟩
theorem im_X4_closeness : Cond.instanceMethod yX4_closeness ∈ Tw := in_Tw (List.mem_of_getElem? (i := 834) (by decide +kernel)) rfl
theorem se_X4_closeness : Cond.selects yX4_closeness.cls yX4_closeness yX4_closeness ∈ Tw := in_Tw (List.mem_of_getElem? (i := 34) (by decide +kernel)) rfl
theorem cf_X4_165 : CfV RX4 165 yX4_closeness cX4_closeness 2 (some .int) 1 := ⟨im_X4_closeness, se_X4_closeness, Or.inl (in_Tw (List.mem_of_getElem? (i := 832) (by decide +kernel)) rfl), cd_X4_closeness, ini_X4, nm_X4_closeness⟩
theorem ol_X5_3 : Cond.methodLink RX5 3 objectInit ∈ Tw := in_Tw (List.mem_of_getElem? (i := 249) (by decide +kernel)) rfl
theorem ol_X6_3 : Cond.methodLink RX6 3 objectInit ∈ Tw := in_Tw (List.mem_of_getElem? (i := 175) (by decide +kernel)) rfl
theorem cd_X8_init : Cond.code yX8_init cX8_init 1 none ∈ Tw := in_Tw (List.mem_of_getElem? (i := 180) (by decide +kernel)) rfl
theorem nm_X8_init : Nms yX8_init 0 := ⟨by decide, by decide, by decide +kernel⟩
theorem im_X8_init : Cond.instanceMethod yX8_init ∈ Tw := in_Tw (List.mem_of_getElem? (i := 179) (by decide +kernel)) rfl
theorem cf_X6_11 : CfI RX6 11 yX8_init cX8_init 1 0 := ⟨rfl, im_X8_init, Or.inr ⟨"WalledIn", in_Tw (List.mem_of_getElem? (i := 178) (by decide +kernel)) rfl⟩, cd_X8_init, ini_X8, nm_X8_init⟩
theorem cd_X1_init : Cond.code yX1_init cX1_init 1 none ∈ Tw := in_Tw (List.mem_of_getElem? (i := 217) (by decide +kernel)) rfl
theorem nm_X1_init : Nms yX1_init 0 := ⟨by decide, by decide, by decide +kernel⟩
theorem im_X1_init : Cond.instanceMethod yX1_init ∈ Tw := in_Tw (List.mem_of_getElem? (i := 216) (by decide +kernel)) rfl
theorem cf_X6_20 : CfI RX6 20 yX1_init cX1_init 1 0 := ⟨rfl, im_X1_init, Or.inr ⟨"WalledIn", in_Tw (List.mem_of_getElem? (i := 215) (by decide +kernel)) rfl⟩, cd_X1_init, ini_X1, nm_X1_init⟩
theorem cd_X5_init : Cond.code yX5_init cX5_init 1 none ∈ Tw := in_Tw (List.mem_of_getElem? (i := 248) (by decide +kernel)) rfl
theorem nm_X5_init : Nms yX5_init 0 := ⟨by decide, by decide, by decide +kernel⟩
theorem im_X5_init : Cond.instanceMethod yX5_init ∈ Tw := in_Tw (List.mem_of_getElem? (i := 247) (by decide +kernel)) rfl
theorem cf_X6_27 : CfI RX6 27 yX5_init cX5_init 1 0 := ⟨rfl, im_X5_init, Or.inr ⟨"WalledIn", in_Tw (List.mem_of_getElem? (i := 246) (by decide +kernel)) rfl⟩, cd_X5_init, ini_X5, nm_X5_init⟩
theorem cd_X7_init : Cond.code yX7_init cX7_init 1 none ∈ Tw := in_Tw (List.mem_of_getElem? (i := 266) (by decide +kernel)) rfl
theorem nm_X7_init : Nms yX7_init 0 := ⟨by decide, by decide, by decide +kernel⟩
theorem im_X7_init : Cond.instanceMethod yX7_init ∈ Tw := in_Tw (List.mem_of_getElem? (i := 265) (by decide +kernel)) rfl
theorem cf_X6_34 : CfI RX6 34 yX7_init cX7_init 1 0 := ⟨rfl, im_X7_init, Or.inr ⟨"WalledIn", in_Tw (List.mem_of_getElem? (i := 264) (by decide +kernel)) rfl⟩, cd_X7_init, ini_X7, nm_X7_init⟩
theorem cf_X6_45 : CfI RX6 45 yX10_init cX10_init 5 4 := ⟨rfl, im_X10_init, Or.inr ⟨"WalledIn", in_Tw (List.mem_of_getElem? (i := 283) (by decide +kernel)) rfl⟩, cd_X10_init, ini_X10, nm_X10_init⟩
theorem cf_X6_69 : CfV RX6 69 yX6_hasText cX6_hasText 2 (some .boolean) 1 := ⟨im_X6_hasText, se_X6_hasText, Or.inl (in_Tw (List.mem_of_getElem? (i := 930) (by decide +kernel)) rfl), cd_X6_hasText, ini_X6, nm_X6_hasText⟩
theorem cd_X8_takeAll : Cond.code yX8_takeAll cX8_takeAll 2 none ∈ Tw := in_Tw (List.mem_of_getElem? (i := 1192) (by decide +kernel)) rfl
theorem nm_X8_takeAll : Nms yX8_takeAll 1 := ⟨by decide, by decide, by decide +kernel⟩
theorem im_X8_takeAll : Cond.instanceMethod yX8_takeAll ∈ Tw := in_Tw (List.mem_of_getElem? (i := 1191) (by decide +kernel)) rfl
theorem se_X8_takeAll : Cond.selects yX8_takeAll.cls yX8_takeAll yX8_takeAll ∈ Tw := in_Tw (List.mem_of_getElem? (i := 89) (by decide +kernel)) rfl
theorem cf_X6_73 : CfV RX6 73 yX8_takeAll cX8_takeAll 2 none 1 := ⟨im_X8_takeAll, se_X8_takeAll, Or.inr ⟨"WalledIn", in_Tw (List.mem_of_getElem? (i := 1189) (by decide +kernel)) rfl⟩, cd_X8_takeAll, ini_X8, nm_X8_takeAll⟩
theorem cd_X1_takeAll : Cond.code yX1_takeAll cX1_takeAll 2 none ∈ Tw := in_Tw (List.mem_of_getElem? (i := 1197) (by decide +kernel)) rfl
theorem nm_X1_takeAll : Nms yX1_takeAll 1 := ⟨by decide, by decide, by decide +kernel⟩
theorem im_X1_takeAll : Cond.instanceMethod yX1_takeAll ∈ Tw := in_Tw (List.mem_of_getElem? (i := 1196) (by decide +kernel)) rfl
theorem se_X1_takeAll : Cond.selects yX1_takeAll.cls yX1_takeAll yX1_takeAll ∈ Tw := in_Tw (List.mem_of_getElem? (i := 90) (by decide +kernel)) rfl
theorem cf_X6_77 : CfV RX6 77 yX1_takeAll cX1_takeAll 2 none 1 := ⟨im_X1_takeAll, se_X1_takeAll, Or.inr ⟨"WalledIn", in_Tw (List.mem_of_getElem? (i := 1194) (by decide +kernel)) rfl⟩, cd_X1_takeAll, ini_X1, nm_X1_takeAll⟩
theorem cd_X5_takeAll : Cond.code yX5_takeAll cX5_takeAll 2 none ∈ Tw := in_Tw (List.mem_of_getElem? (i := 1202) (by decide +kernel)) rfl
theorem nm_X5_takeAll : Nms yX5_takeAll 1 := ⟨by decide, by decide, by decide +kernel⟩
theorem im_X5_takeAll : Cond.instanceMethod yX5_takeAll ∈ Tw := in_Tw (List.mem_of_getElem? (i := 1201) (by decide +kernel)) rfl
theorem se_X5_takeAll : Cond.selects yX5_takeAll.cls yX5_takeAll yX5_takeAll ∈ Tw := in_Tw (List.mem_of_getElem? (i := 91) (by decide +kernel)) rfl
theorem cf_X6_80 : CfV RX6 80 yX5_takeAll cX5_takeAll 2 none 1 := ⟨im_X5_takeAll, se_X5_takeAll, Or.inr ⟨"WalledIn", in_Tw (List.mem_of_getElem? (i := 1199) (by decide +kernel)) rfl⟩, cd_X5_takeAll, ini_X5, nm_X5_takeAll⟩
theorem cd_X7_takeAll : Cond.code yX7_takeAll cX7_takeAll 2 none ∈ Tw := in_Tw (List.mem_of_getElem? (i := 1207) (by decide +kernel)) rfl
theorem nm_X7_takeAll : Nms yX7_takeAll 1 := ⟨by decide, by decide, by decide +kernel⟩
theorem im_X7_takeAll : Cond.instanceMethod yX7_takeAll ∈ Tw := in_Tw (List.mem_of_getElem? (i := 1206) (by decide +kernel)) rfl
theorem se_X7_takeAll : Cond.selects yX7_takeAll.cls yX7_takeAll yX7_takeAll ∈ Tw := in_Tw (List.mem_of_getElem? (i := 92) (by decide +kernel)) rfl
theorem cf_X6_83 : CfV RX6 83 yX7_takeAll cX7_takeAll 2 none 1 := ⟨im_X7_takeAll, se_X7_takeAll, Or.inr ⟨"WalledIn", in_Tw (List.mem_of_getElem? (i := 1204) (by decide +kernel)) rfl⟩, cd_X7_takeAll, ini_X7, nm_X7_takeAll⟩
theorem ol_X7_5 : Cond.methodLink RX7 5 objectInit ∈ Tw := in_Tw (List.mem_of_getElem? (i := 267) (by decide +kernel)) rfl
theorem cf_X7_37 : CfS RX7 37 yJ9_min_7cf53 cJ9_min_7cf53 2 (some .int) 2 := ⟨st_J9_min_7cf53, in_Tw (List.mem_of_getElem? (i := 1039) (by decide +kernel)) rfl, cd_J9_min_7cf53, ini_J9, nm_J9_min_7cf53⟩
theorem ol_X8_3 : Cond.methodLink RX8 3 objectInit ∈ Tw := in_Tw (List.mem_of_getElem? (i := 181) (by decide +kernel)) rfl
theorem cf_X8_31 : CfV RX8 31 yX8_all cX8_all 1 (some .int) 0 := ⟨im_X8_all, se_X8_all, Or.inl (in_Tw (List.mem_of_getElem? (i := 560) (by decide +kernel)) rfl), cd_X8_all, ini_X8, nm_X8_all⟩
theorem cf_X8_35 : CfS RX8 35 yJ6_bitCount_0f7a4 cJ6_bitCount_0f7a4 1 (some .int) 1 := ⟨st_J6_bitCount_0f7a4, in_Tw (List.mem_of_getElem? (i := 916) (by decide +kernel)) rfl, cd_J6_bitCount_0f7a4, ini_J6, nm_J6_bitCount_0f7a4⟩
theorem cf_X8_41 : CfV RX8 41 yX8_isBorne cX8_isBorne 3 (some .boolean) 2 := ⟨im_X8_isBorne, se_X8_isBorne, Or.inl (in_Tw (List.mem_of_getElem? (i := 977) (by decide +kernel)) rfl), cd_X8_isBorne, ini_X8, nm_X8_isBorne⟩
theorem cf_X8_45 : CfS RX8 45 yJ9_max_7cf53 cJ9_max_7cf53 2 (some .int) 2 := ⟨st_J9_max_7cf53, in_Tw (List.mem_of_getElem? (i := 921) (by decide +kernel)) rfl, cd_J9_max_7cf53, ini_J9, nm_J9_max_7cf53⟩
theorem ol_X9_3 : Cond.methodLink RX9 3 objectInit ∈ Tw := in_Tw (List.mem_of_getElem? (i := 357) (by decide +kernel)) rfl
theorem cd_X9_skipBlanks : Cond.code yX9_skipBlanks cX9_skipBlanks 1 none ∈ Tw := in_Tw (List.mem_of_getElem? (i := 621) (by decide +kernel)) rfl
theorem nm_X9_skipBlanks : Nms yX9_skipBlanks 0 := ⟨by decide, by decide, by decide +kernel⟩
theorem im_X9_skipBlanks : Cond.instanceMethod yX9_skipBlanks ∈ Tw := in_Tw (List.mem_of_getElem? (i := 620) (by decide +kernel)) rfl
theorem se_X9_skipBlanks : Cond.selects yX9_skipBlanks.cls yX9_skipBlanks yX9_skipBlanks ∈ Tw := in_Tw (List.mem_of_getElem? (i := 8) (by decide +kernel)) rfl
theorem cf_X9_38 : CfV RX9 38 yX9_skipBlanks cX9_skipBlanks 1 none 0 := ⟨im_X9_skipBlanks, se_X9_skipBlanks, Or.inl (in_Tw (List.mem_of_getElem? (i := 618) (by decide +kernel)) rfl), cd_X9_skipBlanks, ini_X9, nm_X9_skipBlanks⟩
theorem cd_X9_byteAt : Cond.code yX9_byteAt cX9_byteAt 2 (some .int) ∈ Tw := in_Tw (List.mem_of_getElem? (i := 625) (by decide +kernel)) rfl
theorem nm_X9_byteAt : Nms yX9_byteAt 1 := ⟨by decide, by decide, by decide +kernel⟩
theorem im_X9_byteAt : Cond.instanceMethod yX9_byteAt ∈ Tw := in_Tw (List.mem_of_getElem? (i := 624) (by decide +kernel)) rfl
theorem se_X9_byteAt : Cond.selects yX9_byteAt.cls yX9_byteAt yX9_byteAt ∈ Tw := in_Tw (List.mem_of_getElem? (i := 9) (by decide +kernel)) rfl
theorem cf_X9_41 : CfV RX9 41 yX9_byteAt cX9_byteAt 2 (some .int) 1 := ⟨im_X9_byteAt, se_X9_byteAt, Or.inl (in_Tw (List.mem_of_getElem? (i := 622) (by decide +kernel)) rfl), cd_X9_byteAt, ini_X9, nm_X9_byteAt⟩
theorem cd_X9_takeToken : Cond.code yX9_takeToken cX9_takeToken 2 (some .int) ∈ Tw := in_Tw (List.mem_of_getElem? (i := 629) (by decide +kernel)) rfl
theorem nm_X9_takeToken : Nms yX9_takeToken 1 := ⟨by decide, by decide, by decide +kernel⟩
theorem im_X9_takeToken : Cond.instanceMethod yX9_takeToken ∈ Tw := in_Tw (List.mem_of_getElem? (i := 628) (by decide +kernel)) rfl
theorem se_X9_takeToken : Cond.selects yX9_takeToken.cls yX9_takeToken yX9_takeToken ∈ Tw := in_Tw (List.mem_of_getElem? (i := 10) (by decide +kernel)) rfl
theorem cf_X9_45 : CfV RX9 45 yX9_takeToken cX9_takeToken 2 (some .int) 1 := ⟨im_X9_takeToken, se_X9_takeToken, Or.inl (in_Tw (List.mem_of_getElem? (i := 626) (by decide +kernel)) rfl), cd_X9_takeToken, ini_X9, nm_X9_takeToken⟩
theorem cd_X9_isLetter : Cond.code yX9_isLetter cX9_isLetter 2 (some .boolean) ∈ Tw := in_Tw (List.mem_of_getElem? (i := 633) (by decide +kernel)) rfl
theorem nm_X9_isLetter : Nms yX9_isLetter 1 := ⟨by decide, by decide, by decide +kernel⟩
theorem im_X9_isLetter : Cond.instanceMethod yX9_isLetter ∈ Tw := in_Tw (List.mem_of_getElem? (i := 632) (by decide +kernel)) rfl
theorem se_X9_isLetter : Cond.selects yX9_isLetter.cls yX9_isLetter yX9_isLetter ∈ Tw := in_Tw (List.mem_of_getElem? (i := 11) (by decide +kernel)) rfl
theorem cf_X9_48 : CfV RX9 48 yX9_isLetter cX9_isLetter 2 (some .boolean) 1 := ⟨im_X9_isLetter, se_X9_isLetter, Or.inl (in_Tw (List.mem_of_getElem? (i := 630) (by decide +kernel)) rfl), cd_X9_isLetter, ini_X9, nm_X9_isLetter⟩
theorem cd_X9_takeWord : Cond.code yX9_takeWord cX9_takeWord 2 (some .int) ∈ Tw := in_Tw (List.mem_of_getElem? (i := 637) (by decide +kernel)) rfl
theorem nm_X9_takeWord : Nms yX9_takeWord 0 := ⟨by decide, by decide, by decide +kernel⟩
theorem im_X9_takeWord : Cond.instanceMethod yX9_takeWord ∈ Tw := in_Tw (List.mem_of_getElem? (i := 636) (by decide +kernel)) rfl
theorem se_X9_takeWord : Cond.selects yX9_takeWord.cls yX9_takeWord yX9_takeWord ∈ Tw := in_Tw (List.mem_of_getElem? (i := 12) (by decide +kernel)) rfl
theorem cf_X9_52 : CfV RX9 52 yX9_takeWord cX9_takeWord 2 (some .int) 0 := ⟨im_X9_takeWord, se_X9_takeWord, Or.inl (in_Tw (List.mem_of_getElem? (i := 634) (by decide +kernel)) rfl), cd_X9_takeWord, ini_X9, nm_X9_takeWord⟩
theorem cd_X9_isDigit : Cond.code yX9_isDigit cX9_isDigit 2 (some .boolean) ∈ Tw := in_Tw (List.mem_of_getElem? (i := 694) (by decide +kernel)) rfl
theorem nm_X9_isDigit : Nms yX9_isDigit 1 := ⟨by decide, by decide, by decide +kernel⟩
theorem im_X9_isDigit : Cond.instanceMethod yX9_isDigit ∈ Tw := in_Tw (List.mem_of_getElem? (i := 693) (by decide +kernel)) rfl
theorem se_X9_isDigit : Cond.selects yX9_isDigit.cls yX9_isDigit yX9_isDigit ∈ Tw := in_Tw (List.mem_of_getElem? (i := 14) (by decide +kernel)) rfl
theorem cf_X9_56 : CfV RX9 56 yX9_isDigit cX9_isDigit 2 (some .boolean) 1 := ⟨im_X9_isDigit, se_X9_isDigit, Or.inl (in_Tw (List.mem_of_getElem? (i := 691) (by decide +kernel)) rfl), cd_X9_isDigit, ini_X9, nm_X9_isDigit⟩
theorem cd_X9_takeDigits : Cond.code yX9_takeDigits cX9_takeDigits 2 (some .int) ∈ Tw := in_Tw (List.mem_of_getElem? (i := 698) (by decide +kernel)) rfl
theorem nm_X9_takeDigits : Nms yX9_takeDigits 0 := ⟨by decide, by decide, by decide +kernel⟩
theorem im_X9_takeDigits : Cond.instanceMethod yX9_takeDigits ∈ Tw := in_Tw (List.mem_of_getElem? (i := 697) (by decide +kernel)) rfl
theorem se_X9_takeDigits : Cond.selects yX9_takeDigits.cls yX9_takeDigits yX9_takeDigits ∈ Tw := in_Tw (List.mem_of_getElem? (i := 15) (by decide +kernel)) rfl
theorem cf_X9_59 : CfV RX9 59 yX9_takeDigits cX9_takeDigits 2 (some .int) 0 := ⟨im_X9_takeDigits, se_X9_takeDigits, Or.inl (in_Tw (List.mem_of_getElem? (i := 695) (by decide +kernel)) rfl), cd_X9_takeDigits, ini_X9, nm_X9_takeDigits⟩
theorem cd_X9_takeMark : Cond.code yX9_takeMark cX9_takeMark 4 (some .int) ∈ Tw := in_Tw (List.mem_of_getElem? (i := 705) (by decide +kernel)) rfl
theorem nm_X9_takeMark : Nms yX9_takeMark 1 := ⟨by decide, by decide, by decide +kernel⟩
theorem im_X9_takeMark : Cond.instanceMethod yX9_takeMark ∈ Tw := in_Tw (List.mem_of_getElem? (i := 704) (by decide +kernel)) rfl
theorem se_X9_takeMark : Cond.selects yX9_takeMark.cls yX9_takeMark yX9_takeMark ∈ Tw := in_Tw (List.mem_of_getElem? (i := 16) (by decide +kernel)) rfl
theorem cf_X9_62 : CfV RX9 62 yX9_takeMark cX9_takeMark 4 (some .int) 1 := ⟨im_X9_takeMark, se_X9_takeMark, Or.inl (in_Tw (List.mem_of_getElem? (i := 702) (by decide +kernel)) rfl), cd_X9_takeMark, ini_X9, nm_X9_takeMark⟩
theorem cd_X9_wordFrom : Cond.code yX9_wordFrom cX9_wordFrom 8 (some .int) ∈ Tw := in_Tw (List.mem_of_getElem? (i := 641) (by decide +kernel)) rfl
theorem nm_X9_wordFrom : Nms yX9_wordFrom 2 := ⟨by decide, by decide, by decide +kernel⟩
theorem im_X9_wordFrom : Cond.instanceMethod yX9_wordFrom ∈ Tw := in_Tw (List.mem_of_getElem? (i := 640) (by decide +kernel)) rfl
theorem se_X9_wordFrom : Cond.selects yX9_wordFrom.cls yX9_wordFrom yX9_wordFrom ∈ Tw := in_Tw (List.mem_of_getElem? (i := 13) (by decide +kernel)) rfl
theorem cf_X9_65 : CfV RX9 65 yX9_wordFrom cX9_wordFrom 8 (some .int) 2 := ⟨im_X9_wordFrom, se_X9_wordFrom, Or.inl (in_Tw (List.mem_of_getElem? (i := 638) (by decide +kernel)) rfl), cd_X9_wordFrom, ini_X9, nm_X9_wordFrom⟩
theorem cd_J0_length_8abf5 : Cond.code yJ0_length_8abf5 cJ0_length_8abf5 1 (some .int) ∈ Tw := in_Tw (List.mem_of_getElem? (i := 646) (by decide +kernel)) rfl
theorem ini_J0 : Cond.initialized RJ0 ∈ Tw := in_Tw (List.mem_of_getElem? (i := 154) (by decide +kernel)) rfl
theorem nm_J0_length_8abf5 : Nms yJ0_length_8abf5 0 := ⟨by decide, by decide, by decide +kernel⟩
theorem im_J0_length_8abf5 : Cond.instanceMethod yJ0_length_8abf5 ∈ Tw := in_Tw (List.mem_of_getElem? (i := 644) (by decide +kernel)) rfl
theorem se_J0_length_8abf5 : Cond.selects yJ0_length_8abf5.cls yJ0_length_8abf5 yJ0_length_8abf5 ∈ Tw := in_Tw (List.mem_of_getElem? (i := 645) (by decide +kernel)) rfl
theorem cf_X9_71 : CfV RX9 71 yJ0_length_8abf5 cJ0_length_8abf5 1 (some .int) 0 := ⟨im_J0_length_8abf5, se_J0_length_8abf5, Or.inl (in_Tw (List.mem_of_getElem? (i := 643) (by decide +kernel)) rfl), cd_J0_length_8abf5, ini_J0, nm_J0_length_8abf5⟩
theorem cd_J0_charAt_5068e : Cond.code yJ0_charAt_5068e cJ0_charAt_5068e 2 (some .char) ∈ Tw := in_Tw (List.mem_of_getElem? (i := 656) (by decide +kernel)) rfl
theorem nm_J0_charAt_5068e : Nms yJ0_charAt_5068e 1 := ⟨by decide, by decide, by decide +kernel⟩
theorem im_J0_charAt_5068e : Cond.instanceMethod yJ0_charAt_5068e ∈ Tw := in_Tw (List.mem_of_getElem? (i := 654) (by decide +kernel)) rfl
theorem se_J0_charAt_5068e : Cond.selects yJ0_charAt_5068e.cls yJ0_charAt_5068e yJ0_charAt_5068e ∈ Tw := in_Tw (List.mem_of_getElem? (i := 655) (by decide +kernel)) rfl
theorem cf_X9_75 : CfV RX9 75 yJ0_charAt_5068e cJ0_charAt_5068e 2 (some .char) 1 := ⟨im_J0_charAt_5068e, se_J0_charAt_5068e, Or.inl (in_Tw (List.mem_of_getElem? (i := 653) (by decide +kernel)) rfl), cd_J0_charAt_5068e, ini_J0, nm_J0_charAt_5068e⟩
theorem cf_X9_79 : CfS RX9 79 yJ9_min_7cf53 cJ9_min_7cf53 2 (some .int) 2 := ⟨st_J9_min_7cf53, in_Tw (List.mem_of_getElem? (i := 699) (by decide +kernel)) rfl, cd_J9_min_7cf53, ini_J9, nm_J9_min_7cf53⟩
theorem cd_J0_indexOf_0f7a4 : Cond.code yJ0_indexOf_0f7a4 cJ0_indexOf_0f7a4 2 (some .int) ∈ Tw := in_Tw (List.mem_of_getElem? (i := 710) (by decide +kernel)) rfl
theorem nm_J0_indexOf_0f7a4 : Nms yJ0_indexOf_0f7a4 1 := ⟨by decide, by decide, by decide +kernel⟩
theorem im_J0_indexOf_0f7a4 : Cond.instanceMethod yJ0_indexOf_0f7a4 ∈ Tw := in_Tw (List.mem_of_getElem? (i := 708) (by decide +kernel)) rfl
theorem se_J0_indexOf_0f7a4 : Cond.selects yJ0_indexOf_0f7a4.cls yJ0_indexOf_0f7a4 yJ0_indexOf_0f7a4 ∈ Tw := in_Tw (List.mem_of_getElem? (i := 709) (by decide +kernel)) rfl
theorem cf_X9_86 : CfV RX9 86 yJ0_indexOf_0f7a4 cJ0_indexOf_0f7a4 2 (some .int) 1 := ⟨im_J0_indexOf_0f7a4, se_J0_indexOf_0f7a4, Or.inl (in_Tw (List.mem_of_getElem? (i := 707) (by decide +kernel)) rfl), cd_J0_indexOf_0f7a4, ini_J0, nm_J0_indexOf_0f7a4⟩
theorem ol_X10_3 : Cond.methodLink RX10 3 objectInit ∈ Tw := in_Tw (List.mem_of_getElem? (i := 286) (by decide +kernel)) rfl
theorem cd_X10_partOf : Cond.code yX10_partOf cX10_partOf 3 (some .int) ∈ Tw := in_Tw (List.mem_of_getElem? (i := 1019) (by decide +kernel)) rfl
theorem nm_X10_partOf : Nms yX10_partOf 2 := ⟨by decide, by decide, by decide +kernel⟩
theorem im_X10_partOf : Cond.instanceMethod yX10_partOf ∈ Tw := in_Tw (List.mem_of_getElem? (i := 1018) (by decide +kernel)) rfl
theorem se_X10_partOf : Cond.selects yX10_partOf.cls yX10_partOf yX10_partOf ∈ Tw := in_Tw (List.mem_of_getElem? (i := 64) (by decide +kernel)) rfl
theorem cf_X10_28 : CfV RX10 28 yX10_partOf cX10_partOf 3 (some .int) 2 := ⟨im_X10_partOf, se_X10_partOf, Or.inl (in_Tw (List.mem_of_getElem? (i := 1016) (by decide +kernel)) rfl), cd_X10_partOf, ini_X10, nm_X10_partOf⟩
theorem cd_X11_init : Cond.code yX11_init cX11_init 1 none ∈ Tw := in_Tw (List.mem_of_getElem? (i := 166) (by decide +kernel)) rfl
theorem nm_X11_init : Nms yX11_init 0 := ⟨by decide, by decide, by decide +kernel⟩
theorem im_X11_init : Cond.instanceMethod yX11_init ∈ Tw := in_Tw (List.mem_of_getElem? (i := 165) (by decide +kernel)) rfl
theorem cf_L_9 : CfI RL 9 yX11_init cX11_init 1 0 := ⟨rfl, im_X11_init, Or.inl (in_Tw (List.mem_of_getElem? (i := 164) (by decide +kernel)) rfl), cd_X11_init, ini_X11, nm_X11_init⟩
theorem cd_X12_init : Cond.code yX12_init cX12_init 1 none ∈ Tw := in_Tw (List.mem_of_getElem? (i := 1224) (by decide +kernel)) rfl
theorem nm_X12_init : Nms yX12_init 0 := ⟨by decide, by decide, by decide +kernel⟩
theorem im_X12_init : Cond.instanceMethod yX12_init ∈ Tw := in_Tw (List.mem_of_getElem? (i := 1223) (by decide +kernel)) rfl
theorem cf_L_12 : CfI RL 12 yX12_init cX12_init 1 0 := ⟨rfl, im_X12_init, Or.inl (in_Tw (List.mem_of_getElem? (i := 1222) (by decide +kernel)) rfl), cd_X12_init, ini_X12, nm_X12_init⟩
theorem cd_X11_stone : Cond.code yX11_stone cX11_stone 9 (some .int) ∈ Tw := in_Tw (List.mem_of_getElem? (i := 555) (by decide +kernel)) rfl
theorem nm_X11_stone : Nms yX11_stone 5 := ⟨by decide, by decide, by decide +kernel⟩
theorem im_X11_stone : Cond.instanceMethod yX11_stone ∈ Tw := in_Tw (List.mem_of_getElem? (i := 553) (by decide +kernel)) rfl
theorem se_X11_stone : Cond.selects yX11_stone.cls yX11_stone yX11_stone ∈ Tw := in_Tw (List.mem_of_getElem? (i := 554) (by decide +kernel)) rfl
theorem cf_L_13 : CfV RL 13 yX11_stone cX11_stone 9 (some .int) 5 := ⟨im_X11_stone, se_X11_stone, Or.inl (in_Tw (List.mem_of_getElem? (i := 552) (by decide +kernel)) rfl), cd_X11_stone, ini_X11, nm_X11_stone⟩
theorem cd_X12_stone : Cond.code yX12_stone cX12_stone 7 (some .int) ∈ Tw := in_Tw (List.mem_of_getElem? (i := 1329) (by decide +kernel)) rfl
theorem nm_X12_stone : Nms yX12_stone 5 := ⟨by decide, by decide, by decide +kernel⟩
theorem im_X12_stone : Cond.instanceMethod yX12_stone ∈ Tw := in_Tw (List.mem_of_getElem? (i := 1327) (by decide +kernel)) rfl
theorem se_X12_stone : Cond.selects yX12_stone.cls yX12_stone yX12_stone ∈ Tw := in_Tw (List.mem_of_getElem? (i := 1328) (by decide +kernel)) rfl
theorem cf_L_17 : CfV RL 17 yX12_stone cX12_stone 7 (some .int) 5 := ⟨im_X12_stone, se_X12_stone, Or.inl (in_Tw (List.mem_of_getElem? (i := 1326) (by decide +kernel)) rfl), cd_X12_stone, ini_X12, nm_X12_stone⟩
theorem cd_X11_hour : Cond.code yX11_hour cX11_hour 2 (some .boolean) ∈ Tw := in_Tw (List.mem_of_getElem? (i := 577) (by decide +kernel)) rfl
theorem nm_X11_hour : Nms yX11_hour 1 := ⟨by decide, by decide, by decide +kernel⟩
theorem im_X11_hour : Cond.instanceMethod yX11_hour ∈ Tw := in_Tw (List.mem_of_getElem? (i := 575) (by decide +kernel)) rfl
theorem se_X11_hour : Cond.selects yX11_hour.cls yX11_hour yX11_hour ∈ Tw := in_Tw (List.mem_of_getElem? (i := 576) (by decide +kernel)) rfl
theorem cf_L_18 : CfV RL 18 yX11_hour cX11_hour 2 (some .boolean) 1 := ⟨im_X11_hour, se_X11_hour, Or.inl (in_Tw (List.mem_of_getElem? (i := 574) (by decide +kernel)) rfl), cd_X11_hour, ini_X11, nm_X11_hour⟩
theorem cd_X12_hour : Cond.code yX12_hour cX12_hour 2 (some .boolean) ∈ Tw := in_Tw (List.mem_of_getElem? (i := 1346) (by decide +kernel)) rfl
theorem nm_X12_hour : Nms yX12_hour 1 := ⟨by decide, by decide, by decide +kernel⟩
theorem im_X12_hour : Cond.instanceMethod yX12_hour ∈ Tw := in_Tw (List.mem_of_getElem? (i := 1344) (by decide +kernel)) rfl
theorem se_X12_hour : Cond.selects yX12_hour.cls yX12_hour yX12_hour ∈ Tw := in_Tw (List.mem_of_getElem? (i := 1345) (by decide +kernel)) rfl
theorem cf_L_22 : CfV RL 22 yX12_hour cX12_hour 2 (some .boolean) 1 := ⟨im_X12_hour, se_X12_hour, Or.inl (in_Tw (List.mem_of_getElem? (i := 1343) (by decide +kernel)) rfl), cd_X12_hour, ini_X12, nm_X12_hour⟩
theorem cd_X11_house : Cond.code yX11_house cX11_house 4 (some .int) ∈ Tw := in_Tw (List.mem_of_getElem? (i := 581) (by decide +kernel)) rfl
theorem nm_X11_house : Nms yX11_house 1 := ⟨by decide, by decide, by decide +kernel⟩
theorem im_X11_house : Cond.instanceMethod yX11_house ∈ Tw := in_Tw (List.mem_of_getElem? (i := 579) (by decide +kernel)) rfl
theorem se_X11_house : Cond.selects yX11_house.cls yX11_house yX11_house ∈ Tw := in_Tw (List.mem_of_getElem? (i := 580) (by decide +kernel)) rfl
theorem cf_L_23 : CfV RL 23 yX11_house cX11_house 4 (some .int) 1 := ⟨im_X11_house, se_X11_house, Or.inl (in_Tw (List.mem_of_getElem? (i := 578) (by decide +kernel)) rfl), cd_X11_house, ini_X11, nm_X11_house⟩
theorem cd_X12_house : Cond.code yX12_house cX12_house 3 (some .int) ∈ Tw := in_Tw (List.mem_of_getElem? (i := 1350) (by decide +kernel)) rfl
theorem nm_X12_house : Nms yX12_house 1 := ⟨by decide, by decide, by decide +kernel⟩
theorem im_X12_house : Cond.instanceMethod yX12_house ∈ Tw := in_Tw (List.mem_of_getElem? (i := 1348) (by decide +kernel)) rfl
theorem se_X12_house : Cond.selects yX12_house.cls yX12_house yX12_house ∈ Tw := in_Tw (List.mem_of_getElem? (i := 1349) (by decide +kernel)) rfl
theorem cf_L_27 : CfV RL 27 yX12_house cX12_house 3 (some .int) 1 := ⟨im_X12_house, se_X12_house, Or.inl (in_Tw (List.mem_of_getElem? (i := 1347) (by decide +kernel)) rfl), cd_X12_house, ini_X12, nm_X12_house⟩
theorem cd_X11_touch : Cond.code yX11_touch cX11_touch 4 (some .boolean) ∈ Tw := in_Tw (List.mem_of_getElem? (i := 585) (by decide +kernel)) rfl
theorem nm_X11_touch : Nms yX11_touch 3 := ⟨by decide, by decide, by decide +kernel⟩
theorem im_X11_touch : Cond.instanceMethod yX11_touch ∈ Tw := in_Tw (List.mem_of_getElem? (i := 583) (by decide +kernel)) rfl
theorem se_X11_touch : Cond.selects yX11_touch.cls yX11_touch yX11_touch ∈ Tw := in_Tw (List.mem_of_getElem? (i := 584) (by decide +kernel)) rfl
theorem cf_L_28 : CfV RL 28 yX11_touch cX11_touch 4 (some .boolean) 3 := ⟨im_X11_touch, se_X11_touch, Or.inl (in_Tw (List.mem_of_getElem? (i := 582) (by decide +kernel)) rfl), cd_X11_touch, ini_X11, nm_X11_touch⟩
theorem cd_X12_touch : Cond.code yX12_touch cX12_touch 4 (some .boolean) ∈ Tw := in_Tw (List.mem_of_getElem? (i := 1357) (by decide +kernel)) rfl
theorem nm_X12_touch : Nms yX12_touch 3 := ⟨by decide, by decide, by decide +kernel⟩
theorem im_X12_touch : Cond.instanceMethod yX12_touch ∈ Tw := in_Tw (List.mem_of_getElem? (i := 1355) (by decide +kernel)) rfl
theorem se_X12_touch : Cond.selects yX12_touch.cls yX12_touch yX12_touch ∈ Tw := in_Tw (List.mem_of_getElem? (i := 1356) (by decide +kernel)) rfl
theorem cf_L_32 : CfV RL 32 yX12_touch cX12_touch 4 (some .boolean) 3 := ⟨im_X12_touch, se_X12_touch, Or.inl (in_Tw (List.mem_of_getElem? (i := 1354) (by decide +kernel)) rfl), cd_X12_touch, ini_X12, nm_X12_touch⟩
theorem cd_X11_feed : Cond.code yX11_feed cX11_feed 6 (some .int) ∈ Tw := in_Tw (List.mem_of_getElem? (i := 597) (by decide +kernel)) rfl
theorem nm_X11_feed : Nms yX11_feed 5 := ⟨by decide, by decide, by decide +kernel⟩
theorem im_X11_feed : Cond.instanceMethod yX11_feed ∈ Tw := in_Tw (List.mem_of_getElem? (i := 595) (by decide +kernel)) rfl
theorem se_X11_feed : Cond.selects yX11_feed.cls yX11_feed yX11_feed ∈ Tw := in_Tw (List.mem_of_getElem? (i := 596) (by decide +kernel)) rfl
theorem cf_L_33 : CfV RL 33 yX11_feed cX11_feed 6 (some .int) 5 := ⟨im_X11_feed, se_X11_feed, Or.inl (in_Tw (List.mem_of_getElem? (i := 594) (by decide +kernel)) rfl), cd_X11_feed, ini_X11, nm_X11_feed⟩
theorem cd_X12_feed : Cond.code yX12_feed cX12_feed 6 (some .int) ∈ Tw := in_Tw (List.mem_of_getElem? (i := 1369) (by decide +kernel)) rfl
theorem nm_X12_feed : Nms yX12_feed 5 := ⟨by decide, by decide, by decide +kernel⟩
theorem im_X12_feed : Cond.instanceMethod yX12_feed ∈ Tw := in_Tw (List.mem_of_getElem? (i := 1367) (by decide +kernel)) rfl
theorem se_X12_feed : Cond.selects yX12_feed.cls yX12_feed yX12_feed ∈ Tw := in_Tw (List.mem_of_getElem? (i := 1368) (by decide +kernel)) rfl
theorem cf_L_36 : CfV RL 36 yX12_feed cX12_feed 6 (some .int) 5 := ⟨im_X12_feed, se_X12_feed, Or.inl (in_Tw (List.mem_of_getElem? (i := 1366) (by decide +kernel)) rfl), cd_X12_feed, ini_X12, nm_X12_feed⟩
theorem cd_X11_end : Cond.code yX11_end cX11_end 2 (some .int) ∈ Tw := in_Tw (List.mem_of_getElem? (i := 605) (by decide +kernel)) rfl
theorem nm_X11_end : Nms yX11_end 1 := ⟨by decide, by decide, by decide +kernel⟩
theorem im_X11_end : Cond.instanceMethod yX11_end ∈ Tw := in_Tw (List.mem_of_getElem? (i := 603) (by decide +kernel)) rfl
theorem se_X11_end : Cond.selects yX11_end.cls yX11_end yX11_end ∈ Tw := in_Tw (List.mem_of_getElem? (i := 604) (by decide +kernel)) rfl
theorem cf_L_37 : CfV RL 37 yX11_end cX11_end 2 (some .int) 1 := ⟨im_X11_end, se_X11_end, Or.inl (in_Tw (List.mem_of_getElem? (i := 602) (by decide +kernel)) rfl), cd_X11_end, ini_X11, nm_X11_end⟩
theorem cd_X12_end : Cond.code yX12_end cX12_end 2 (some .int) ∈ Tw := in_Tw (List.mem_of_getElem? (i := 1377) (by decide +kernel)) rfl
theorem nm_X12_end : Nms yX12_end 1 := ⟨by decide, by decide, by decide +kernel⟩
theorem im_X12_end : Cond.instanceMethod yX12_end ∈ Tw := in_Tw (List.mem_of_getElem? (i := 1375) (by decide +kernel)) rfl
theorem se_X12_end : Cond.selects yX12_end.cls yX12_end yX12_end ∈ Tw := in_Tw (List.mem_of_getElem? (i := 1376) (by decide +kernel)) rfl
theorem cf_L_40 : CfV RL 40 yX12_end cX12_end 2 (some .int) 1 := ⟨im_X12_end, se_X12_end, Or.inl (in_Tw (List.mem_of_getElem? (i := 1374) (by decide +kernel)) rfl), cd_X12_end, ini_X12, nm_X12_end⟩
theorem cd_X11_text : Cond.code yX11_text cX11_text 2 (some .int) ∈ Tw := in_Tw (List.mem_of_getElem? (i := 609) (by decide +kernel)) rfl
theorem nm_X11_text : Nms yX11_text 0 := ⟨by decide, by decide, by decide +kernel⟩
theorem im_X11_text : Cond.instanceMethod yX11_text ∈ Tw := in_Tw (List.mem_of_getElem? (i := 607) (by decide +kernel)) rfl
theorem se_X11_text : Cond.selects yX11_text.cls yX11_text yX11_text ∈ Tw := in_Tw (List.mem_of_getElem? (i := 608) (by decide +kernel)) rfl
theorem cf_L_41 : CfV RL 41 yX11_text cX11_text 2 (some .int) 0 := ⟨im_X11_text, se_X11_text, Or.inl (in_Tw (List.mem_of_getElem? (i := 606) (by decide +kernel)) rfl), cd_X11_text, ini_X11, nm_X11_text⟩
theorem cd_X12_text : Cond.code yX12_text cX12_text 1 (some .int) ∈ Tw := in_Tw (List.mem_of_getElem? (i := 1381) (by decide +kernel)) rfl
theorem nm_X12_text : Nms yX12_text 0 := ⟨by decide, by decide, by decide +kernel⟩
theorem im_X12_text : Cond.instanceMethod yX12_text ∈ Tw := in_Tw (List.mem_of_getElem? (i := 1379) (by decide +kernel)) rfl
theorem se_X12_text : Cond.selects yX12_text.cls yX12_text yX12_text ∈ Tw := in_Tw (List.mem_of_getElem? (i := 1380) (by decide +kernel)) rfl
theorem cf_L_45 : CfV RL 45 yX12_text cX12_text 1 (some .int) 0 := ⟨im_X12_text, se_X12_text, Or.inl (in_Tw (List.mem_of_getElem? (i := 1378) (by decide +kernel)) rfl), cd_X12_text, ini_X12, nm_X12_text⟩
theorem cd_X11_fault : Cond.code yX11_fault cX11_fault 2 (some .int) ∈ Tw := in_Tw (List.mem_of_getElem? (i := 887) (by decide +kernel)) rfl
theorem nm_X11_fault : Nms yX11_fault 1 := ⟨by decide, by decide, by decide +kernel⟩
theorem im_X11_fault : Cond.instanceMethod yX11_fault ∈ Tw := in_Tw (List.mem_of_getElem? (i := 885) (by decide +kernel)) rfl
theorem se_X11_fault : Cond.selects yX11_fault.cls yX11_fault yX11_fault ∈ Tw := in_Tw (List.mem_of_getElem? (i := 886) (by decide +kernel)) rfl
theorem cf_L_46 : CfV RL 46 yX11_fault cX11_fault 2 (some .int) 1 := ⟨im_X11_fault, se_X11_fault, Or.inl (in_Tw (List.mem_of_getElem? (i := 884) (by decide +kernel)) rfl), cd_X11_fault, ini_X11, nm_X11_fault⟩
theorem cd_X12_fault : Cond.code yX12_fault cX12_fault 2 (some .int) ∈ Tw := in_Tw (List.mem_of_getElem? (i := 1494) (by decide +kernel)) rfl
theorem nm_X12_fault : Nms yX12_fault 1 := ⟨by decide, by decide, by decide +kernel⟩
theorem im_X12_fault : Cond.instanceMethod yX12_fault ∈ Tw := in_Tw (List.mem_of_getElem? (i := 1492) (by decide +kernel)) rfl
theorem se_X12_fault : Cond.selects yX12_fault.cls yX12_fault yX12_fault ∈ Tw := in_Tw (List.mem_of_getElem? (i := 1493) (by decide +kernel)) rfl
theorem cf_L_49 : CfV RL 49 yX12_fault cX12_fault 2 (some .int) 1 := ⟨im_X12_fault, se_X12_fault, Or.inl (in_Tw (List.mem_of_getElem? (i := 1491) (by decide +kernel)) rfl), cd_X12_fault, ini_X12, nm_X12_fault⟩
theorem cd_X11_by : Cond.code yX11_by cX11_by 2 (some .boolean) ∈ Tw := in_Tw (List.mem_of_getElem? (i := 891) (by decide +kernel)) rfl
theorem nm_X11_by : Nms yX11_by 1 := ⟨by decide, by decide, by decide +kernel⟩
theorem im_X11_by : Cond.instanceMethod yX11_by ∈ Tw := in_Tw (List.mem_of_getElem? (i := 889) (by decide +kernel)) rfl
theorem se_X11_by : Cond.selects yX11_by.cls yX11_by yX11_by ∈ Tw := in_Tw (List.mem_of_getElem? (i := 890) (by decide +kernel)) rfl
theorem cf_L_50 : CfV RL 50 yX11_by cX11_by 2 (some .boolean) 1 := ⟨im_X11_by, se_X11_by, Or.inl (in_Tw (List.mem_of_getElem? (i := 888) (by decide +kernel)) rfl), cd_X11_by, ini_X11, nm_X11_by⟩
theorem cd_X12_by : Cond.code yX12_by cX12_by 2 (some .boolean) ∈ Tw := in_Tw (List.mem_of_getElem? (i := 1498) (by decide +kernel)) rfl
theorem nm_X12_by : Nms yX12_by 1 := ⟨by decide, by decide, by decide +kernel⟩
theorem im_X12_by : Cond.instanceMethod yX12_by ∈ Tw := in_Tw (List.mem_of_getElem? (i := 1496) (by decide +kernel)) rfl
theorem se_X12_by : Cond.selects yX12_by.cls yX12_by yX12_by ∈ Tw := in_Tw (List.mem_of_getElem? (i := 1497) (by decide +kernel)) rfl
theorem cf_L_53 : CfV RL 53 yX12_by cX12_by 2 (some .boolean) 1 := ⟨im_X12_by, se_X12_by, Or.inl (in_Tw (List.mem_of_getElem? (i := 1495) (by decide +kernel)) rfl), cd_X12_by, ini_X12, nm_X12_by⟩
theorem cd_X11_of : Cond.code yX11_of cX11_of 3 (some .int) ∈ Tw := in_Tw (List.mem_of_getElem? (i := 899) (by decide +kernel)) rfl
theorem nm_X11_of : Nms yX11_of 2 := ⟨by decide, by decide, by decide +kernel⟩
theorem im_X11_of : Cond.instanceMethod yX11_of ∈ Tw := in_Tw (List.mem_of_getElem? (i := 897) (by decide +kernel)) rfl
theorem se_X11_of : Cond.selects yX11_of.cls yX11_of yX11_of ∈ Tw := in_Tw (List.mem_of_getElem? (i := 898) (by decide +kernel)) rfl
theorem cf_L_54 : CfV RL 54 yX11_of cX11_of 3 (some .int) 2 := ⟨im_X11_of, se_X11_of, Or.inl (in_Tw (List.mem_of_getElem? (i := 896) (by decide +kernel)) rfl), cd_X11_of, ini_X11, nm_X11_of⟩
theorem cd_X12_of : Cond.code yX12_of cX12_of 4 (some .int) ∈ Tw := in_Tw (List.mem_of_getElem? (i := 1517) (by decide +kernel)) rfl
theorem nm_X12_of : Nms yX12_of 2 := ⟨by decide, by decide, by decide +kernel⟩
theorem im_X12_of : Cond.instanceMethod yX12_of ∈ Tw := in_Tw (List.mem_of_getElem? (i := 1515) (by decide +kernel)) rfl
theorem se_X12_of : Cond.selects yX12_of.cls yX12_of yX12_of ∈ Tw := in_Tw (List.mem_of_getElem? (i := 1516) (by decide +kernel)) rfl
theorem cf_L_58 : CfV RL 58 yX12_of cX12_of 4 (some .int) 2 := ⟨im_X12_of, se_X12_of, Or.inl (in_Tw (List.mem_of_getElem? (i := 1514) (by decide +kernel)) rfl), cd_X12_of, ini_X12, nm_X12_of⟩
theorem cd_X11_stands : Cond.code yX11_stands cX11_stands 2 (some .boolean) ∈ Tw := in_Tw (List.mem_of_getElem? (i := 972) (by decide +kernel)) rfl
theorem nm_X11_stands : Nms yX11_stands 1 := ⟨by decide, by decide, by decide +kernel⟩
theorem im_X11_stands : Cond.instanceMethod yX11_stands ∈ Tw := in_Tw (List.mem_of_getElem? (i := 970) (by decide +kernel)) rfl
theorem se_X11_stands : Cond.selects yX11_stands.cls yX11_stands yX11_stands ∈ Tw := in_Tw (List.mem_of_getElem? (i := 971) (by decide +kernel)) rfl
theorem cf_L_59 : CfV RL 59 yX11_stands cX11_stands 2 (some .boolean) 1 := ⟨im_X11_stands, se_X11_stands, Or.inl (in_Tw (List.mem_of_getElem? (i := 969) (by decide +kernel)) rfl), cd_X11_stands, ini_X11, nm_X11_stands⟩
theorem cd_X12_stands : Cond.code yX12_stands cX12_stands 2 (some .boolean) ∈ Tw := in_Tw (List.mem_of_getElem? (i := 1502) (by decide +kernel)) rfl
theorem nm_X12_stands : Nms yX12_stands 1 := ⟨by decide, by decide, by decide +kernel⟩
theorem im_X12_stands : Cond.instanceMethod yX12_stands ∈ Tw := in_Tw (List.mem_of_getElem? (i := 1500) (by decide +kernel)) rfl
theorem se_X12_stands : Cond.selects yX12_stands.cls yX12_stands yX12_stands ∈ Tw := in_Tw (List.mem_of_getElem? (i := 1501) (by decide +kernel)) rfl
theorem cf_L_62 : CfV RL 62 yX12_stands cX12_stands 2 (some .boolean) 1 := ⟨im_X12_stands, se_X12_stands, Or.inl (in_Tw (List.mem_of_getElem? (i := 1499) (by decide +kernel)) rfl), cd_X12_stands, ini_X12, nm_X12_stands⟩
theorem cf_L_63 : CfV RL 63 yX11_lay cX11_lay 3 (some .int) 1 := ⟨im_X11_lay, se_X11_lay, Or.inl (in_Tw (List.mem_of_getElem? (i := 978) (by decide +kernel)) rfl), cd_X11_lay, ini_X11, nm_X11_lay⟩
theorem cd_X12_lay : Cond.code yX12_lay cX12_lay 3 (some .int) ∈ Tw := in_Tw (List.mem_of_getElem? (i := 1571) (by decide +kernel)) rfl
theorem nm_X12_lay : Nms yX12_lay 1 := ⟨by decide, by decide, by decide +kernel⟩
theorem im_X12_lay : Cond.instanceMethod yX12_lay ∈ Tw := in_Tw (List.mem_of_getElem? (i := 1569) (by decide +kernel)) rfl
theorem se_X12_lay : Cond.selects yX12_lay.cls yX12_lay yX12_lay ∈ Tw := in_Tw (List.mem_of_getElem? (i := 1570) (by decide +kernel)) rfl
theorem cf_L_66 : CfV RL 66 yX12_lay cX12_lay 3 (some .int) 1 := ⟨im_X12_lay, se_X12_lay, Or.inl (in_Tw (List.mem_of_getElem? (i := 1568) (by decide +kernel)) rfl), cd_X12_lay, ini_X12, nm_X12_lay⟩
theorem cf_L_67 : CfV RL 67 yX11_out cX11_out 3 (some .int) 1 := ⟨im_X11_out, se_X11_out, Or.inl (in_Tw (List.mem_of_getElem? (i := 987) (by decide +kernel)) rfl), cd_X11_out, ini_X11, nm_X11_out⟩
theorem cd_X12_out : Cond.code yX12_out cX12_out 2 (some .int) ∈ Tw := in_Tw (List.mem_of_getElem? (i := 1579) (by decide +kernel)) rfl
theorem nm_X12_out : Nms yX12_out 1 := ⟨by decide, by decide, by decide +kernel⟩
theorem im_X12_out : Cond.instanceMethod yX12_out ∈ Tw := in_Tw (List.mem_of_getElem? (i := 1577) (by decide +kernel)) rfl
theorem se_X12_out : Cond.selects yX12_out.cls yX12_out yX12_out ∈ Tw := in_Tw (List.mem_of_getElem? (i := 1578) (by decide +kernel)) rfl
theorem cf_L_70 : CfV RL 70 yX12_out cX12_out 2 (some .int) 1 := ⟨im_X12_out, se_X12_out, Or.inl (in_Tw (List.mem_of_getElem? (i := 1576) (by decide +kernel)) rfl), cd_X12_out, ini_X12, nm_X12_out⟩
theorem cf_L_71 : CfV RL 71 yX11_lend cX11_lend 3 (some .int) 2 := ⟨im_X11_lend, se_X11_lend, Or.inl (in_Tw (List.mem_of_getElem? (i := 991) (by decide +kernel)) rfl), cd_X11_lend, ini_X11, nm_X11_lend⟩
theorem cd_X12_lend : Cond.code yX12_lend cX12_lend 3 (some .int) ∈ Tw := in_Tw (List.mem_of_getElem? (i := 1583) (by decide +kernel)) rfl
theorem nm_X12_lend : Nms yX12_lend 2 := ⟨by decide, by decide, by decide +kernel⟩
theorem im_X12_lend : Cond.instanceMethod yX12_lend ∈ Tw := in_Tw (List.mem_of_getElem? (i := 1581) (by decide +kernel)) rfl
theorem se_X12_lend : Cond.selects yX12_lend.cls yX12_lend yX12_lend ∈ Tw := in_Tw (List.mem_of_getElem? (i := 1582) (by decide +kernel)) rfl
theorem cf_L_74 : CfV RL 74 yX12_lend cX12_lend 3 (some .int) 2 := ⟨im_X12_lend, se_X12_lend, Or.inl (in_Tw (List.mem_of_getElem? (i := 1580) (by decide +kernel)) rfl), cd_X12_lend, ini_X12, nm_X12_lend⟩
theorem cd_X11_played : Cond.code yX11_played cX11_played 4 (some .int) ∈ Tw := in_Tw (List.mem_of_getElem? (i := 1007) (by decide +kernel)) rfl
theorem nm_X11_played : Nms yX11_played 1 := ⟨by decide, by decide, by decide +kernel⟩
theorem im_X11_played : Cond.instanceMethod yX11_played ∈ Tw := in_Tw (List.mem_of_getElem? (i := 1005) (by decide +kernel)) rfl
theorem se_X11_played : Cond.selects yX11_played.cls yX11_played yX11_played ∈ Tw := in_Tw (List.mem_of_getElem? (i := 1006) (by decide +kernel)) rfl
theorem cf_L_75 : CfV RL 75 yX11_played cX11_played 4 (some .int) 1 := ⟨im_X11_played, se_X11_played, Or.inl (in_Tw (List.mem_of_getElem? (i := 1004) (by decide +kernel)) rfl), cd_X11_played, ini_X11, nm_X11_played⟩
theorem cd_X12_played : Cond.code yX12_played cX12_played 3 (some .int) ∈ Tw := in_Tw (List.mem_of_getElem? (i := 1595) (by decide +kernel)) rfl
theorem nm_X12_played : Nms yX12_played 1 := ⟨by decide, by decide, by decide +kernel⟩
theorem im_X12_played : Cond.instanceMethod yX12_played ∈ Tw := in_Tw (List.mem_of_getElem? (i := 1593) (by decide +kernel)) rfl
theorem se_X12_played : Cond.selects yX12_played.cls yX12_played yX12_played ∈ Tw := in_Tw (List.mem_of_getElem? (i := 1594) (by decide +kernel)) rfl
theorem cf_L_78 : CfV RL 78 yX12_played cX12_played 3 (some .int) 1 := ⟨im_X12_played, se_X12_played, Or.inl (in_Tw (List.mem_of_getElem? (i := 1592) (by decide +kernel)) rfl), cd_X12_played, ini_X12, nm_X12_played⟩
theorem cd_X11_undo : Cond.code yX11_undo cX11_undo 1 (some .int) ∈ Tw := in_Tw (List.mem_of_getElem? (i := 1034) (by decide +kernel)) rfl
theorem nm_X11_undo : Nms yX11_undo 0 := ⟨by decide, by decide, by decide +kernel⟩
theorem im_X11_undo : Cond.instanceMethod yX11_undo ∈ Tw := in_Tw (List.mem_of_getElem? (i := 1032) (by decide +kernel)) rfl
theorem se_X11_undo : Cond.selects yX11_undo.cls yX11_undo yX11_undo ∈ Tw := in_Tw (List.mem_of_getElem? (i := 1033) (by decide +kernel)) rfl
theorem cf_L_79 : CfV RL 79 yX11_undo cX11_undo 1 (some .int) 0 := ⟨im_X11_undo, se_X11_undo, Or.inl (in_Tw (List.mem_of_getElem? (i := 1031) (by decide +kernel)) rfl), cd_X11_undo, ini_X11, nm_X11_undo⟩
theorem cd_X12_undo : Cond.code yX12_undo cX12_undo 3 (some .int) ∈ Tw := in_Tw (List.mem_of_getElem? (i := 1567) (by decide +kernel)) rfl
theorem nm_X12_undo : Nms yX12_undo 0 := ⟨by decide, by decide, by decide +kernel⟩
theorem im_X12_undo : Cond.instanceMethod yX12_undo ∈ Tw := in_Tw (List.mem_of_getElem? (i := 1565) (by decide +kernel)) rfl
theorem se_X12_undo : Cond.selects yX12_undo.cls yX12_undo yX12_undo ∈ Tw := in_Tw (List.mem_of_getElem? (i := 1566) (by decide +kernel)) rfl
theorem cf_L_82 : CfV RL 82 yX12_undo cX12_undo 3 (some .int) 0 := ⟨im_X12_undo, se_X12_undo, Or.inl (in_Tw (List.mem_of_getElem? (i := 1564) (by decide +kernel)) rfl), cd_X12_undo, ini_X12, nm_X12_undo⟩
theorem cd_X11_least : Cond.code yX11_least cX11_least 2 (some .int) ∈ Tw := in_Tw (List.mem_of_getElem? (i := 1043) (by decide +kernel)) rfl
theorem nm_X11_least : Nms yX11_least 1 := ⟨by decide, by decide, by decide +kernel⟩
theorem im_X11_least : Cond.instanceMethod yX11_least ∈ Tw := in_Tw (List.mem_of_getElem? (i := 1041) (by decide +kernel)) rfl
theorem se_X11_least : Cond.selects yX11_least.cls yX11_least yX11_least ∈ Tw := in_Tw (List.mem_of_getElem? (i := 1042) (by decide +kernel)) rfl
theorem cf_L_83 : CfV RL 83 yX11_least cX11_least 2 (some .int) 1 := ⟨im_X11_least, se_X11_least, Or.inl (in_Tw (List.mem_of_getElem? (i := 1040) (by decide +kernel)) rfl), cd_X11_least, ini_X11, nm_X11_least⟩
theorem cd_X12_least : Cond.code yX12_least cX12_least 5 (some .int) ∈ Tw := in_Tw (List.mem_of_getElem? (i := 1606) (by decide +kernel)) rfl
theorem nm_X12_least : Nms yX12_least 1 := ⟨by decide, by decide, by decide +kernel⟩
theorem im_X12_least : Cond.instanceMethod yX12_least ∈ Tw := in_Tw (List.mem_of_getElem? (i := 1604) (by decide +kernel)) rfl
theorem se_X12_least : Cond.selects yX12_least.cls yX12_least yX12_least ∈ Tw := in_Tw (List.mem_of_getElem? (i := 1605) (by decide +kernel)) rfl
theorem cf_L_86 : CfV RL 86 yX12_least cX12_least 5 (some .int) 1 := ⟨im_X12_least, se_X12_least, Or.inl (in_Tw (List.mem_of_getElem? (i := 1603) (by decide +kernel)) rfl), cd_X12_least, ini_X12, nm_X12_least⟩
theorem cd_X11_orders : Cond.code yX11_orders cX11_orders 1 (some .long) ∈ Tw := in_Tw (List.mem_of_getElem? (i := 1098) (by decide +kernel)) rfl
theorem nm_X11_orders : Nms yX11_orders 0 := ⟨by decide, by decide, by decide +kernel⟩
theorem im_X11_orders : Cond.instanceMethod yX11_orders ∈ Tw := in_Tw (List.mem_of_getElem? (i := 1096) (by decide +kernel)) rfl
theorem se_X11_orders : Cond.selects yX11_orders.cls yX11_orders yX11_orders ∈ Tw := in_Tw (List.mem_of_getElem? (i := 1097) (by decide +kernel)) rfl
theorem cf_L_87 : CfV RL 87 yX11_orders cX11_orders 1 (some .long) 0 := ⟨im_X11_orders, se_X11_orders, Or.inl (in_Tw (List.mem_of_getElem? (i := 1095) (by decide +kernel)) rfl), cd_X11_orders, ini_X11, nm_X11_orders⟩
theorem cd_X12_orders : Cond.code yX12_orders cX12_orders 1 (some .long) ∈ Tw := in_Tw (List.mem_of_getElem? (i := 1619) (by decide +kernel)) rfl
theorem nm_X12_orders : Nms yX12_orders 0 := ⟨by decide, by decide, by decide +kernel⟩
theorem im_X12_orders : Cond.instanceMethod yX12_orders ∈ Tw := in_Tw (List.mem_of_getElem? (i := 1617) (by decide +kernel)) rfl
theorem se_X12_orders : Cond.selects yX12_orders.cls yX12_orders yX12_orders ∈ Tw := in_Tw (List.mem_of_getElem? (i := 1618) (by decide +kernel)) rfl
theorem cf_L_91 : CfV RL 91 yX12_orders cX12_orders 1 (some .long) 0 := ⟨im_X12_orders, se_X12_orders, Or.inl (in_Tw (List.mem_of_getElem? (i := 1616) (by decide +kernel)) rfl), cd_X12_orders, ini_X12, nm_X12_orders⟩
theorem cd_X11_sound : Cond.code yX11_sound cX11_sound 3 (some .int) ∈ Tw := in_Tw (List.mem_of_getElem? (i := 1102) (by decide +kernel)) rfl
theorem nm_X11_sound : Nms yX11_sound 2 := ⟨by decide, by decide, by decide +kernel⟩
theorem im_X11_sound : Cond.instanceMethod yX11_sound ∈ Tw := in_Tw (List.mem_of_getElem? (i := 1100) (by decide +kernel)) rfl
theorem se_X11_sound : Cond.selects yX11_sound.cls yX11_sound yX11_sound ∈ Tw := in_Tw (List.mem_of_getElem? (i := 1101) (by decide +kernel)) rfl
theorem cf_L_92 : CfV RL 92 yX11_sound cX11_sound 3 (some .int) 2 := ⟨im_X11_sound, se_X11_sound, Or.inl (in_Tw (List.mem_of_getElem? (i := 1099) (by decide +kernel)) rfl), cd_X11_sound, ini_X11, nm_X11_sound⟩
theorem cd_X12_sound : Cond.code yX12_sound cX12_sound 3 (some .int) ∈ Tw := in_Tw (List.mem_of_getElem? (i := 1627) (by decide +kernel)) rfl
theorem nm_X12_sound : Nms yX12_sound 2 := ⟨by decide, by decide, by decide +kernel⟩
theorem im_X12_sound : Cond.instanceMethod yX12_sound ∈ Tw := in_Tw (List.mem_of_getElem? (i := 1625) (by decide +kernel)) rfl
theorem se_X12_sound : Cond.selects yX12_sound.cls yX12_sound yX12_sound ∈ Tw := in_Tw (List.mem_of_getElem? (i := 1626) (by decide +kernel)) rfl
theorem cf_L_95 : CfV RL 95 yX12_sound cX12_sound 3 (some .int) 2 := ⟨im_X12_sound, se_X12_sound, Or.inl (in_Tw (List.mem_of_getElem? (i := 1624) (by decide +kernel)) rfl), cd_X12_sound, ini_X12, nm_X12_sound⟩
theorem cd_X11_hush : Cond.code yX11_hush cX11_hush 2 (some .int) ∈ Tw := in_Tw (List.mem_of_getElem? (i := 1110) (by decide +kernel)) rfl
theorem nm_X11_hush : Nms yX11_hush 0 := ⟨by decide, by decide, by decide +kernel⟩
theorem im_X11_hush : Cond.instanceMethod yX11_hush ∈ Tw := in_Tw (List.mem_of_getElem? (i := 1108) (by decide +kernel)) rfl
theorem se_X11_hush : Cond.selects yX11_hush.cls yX11_hush yX11_hush ∈ Tw := in_Tw (List.mem_of_getElem? (i := 1109) (by decide +kernel)) rfl
theorem cf_L_96 : CfV RL 96 yX11_hush cX11_hush 2 (some .int) 0 := ⟨im_X11_hush, se_X11_hush, Or.inl (in_Tw (List.mem_of_getElem? (i := 1107) (by decide +kernel)) rfl), cd_X11_hush, ini_X11, nm_X11_hush⟩
theorem cd_X12_hush : Cond.code yX12_hush cX12_hush 2 (some .int) ∈ Tw := in_Tw (List.mem_of_getElem? (i := 1631) (by decide +kernel)) rfl
theorem nm_X12_hush : Nms yX12_hush 0 := ⟨by decide, by decide, by decide +kernel⟩
theorem im_X12_hush : Cond.instanceMethod yX12_hush ∈ Tw := in_Tw (List.mem_of_getElem? (i := 1629) (by decide +kernel)) rfl
theorem se_X12_hush : Cond.selects yX12_hush.cls yX12_hush yX12_hush ∈ Tw := in_Tw (List.mem_of_getElem? (i := 1630) (by decide +kernel)) rfl
theorem cf_L_99 : CfV RL 99 yX12_hush cX12_hush 2 (some .int) 0 := ⟨im_X12_hush, se_X12_hush, Or.inl (in_Tw (List.mem_of_getElem? (i := 1628) (by decide +kernel)) rfl), cd_X12_hush, ini_X12, nm_X12_hush⟩
theorem cd_X11_heard : Cond.code yX11_heard cX11_heard 2 (some .long) ∈ Tw := in_Tw (List.mem_of_getElem? (i := 1114) (by decide +kernel)) rfl
theorem nm_X11_heard : Nms yX11_heard 1 := ⟨by decide, by decide, by decide +kernel⟩
theorem im_X11_heard : Cond.instanceMethod yX11_heard ∈ Tw := in_Tw (List.mem_of_getElem? (i := 1112) (by decide +kernel)) rfl
theorem se_X11_heard : Cond.selects yX11_heard.cls yX11_heard yX11_heard ∈ Tw := in_Tw (List.mem_of_getElem? (i := 1113) (by decide +kernel)) rfl
theorem cf_L_100 : CfV RL 100 yX11_heard cX11_heard 2 (some .long) 1 := ⟨im_X11_heard, se_X11_heard, Or.inl (in_Tw (List.mem_of_getElem? (i := 1111) (by decide +kernel)) rfl), cd_X11_heard, ini_X11, nm_X11_heard⟩
theorem cd_X12_heard : Cond.code yX12_heard cX12_heard 7 (some .long) ∈ Tw := in_Tw (List.mem_of_getElem? (i := 1635) (by decide +kernel)) rfl
theorem nm_X12_heard : Nms yX12_heard 1 := ⟨by decide, by decide, by decide +kernel⟩
theorem im_X12_heard : Cond.instanceMethod yX12_heard ∈ Tw := in_Tw (List.mem_of_getElem? (i := 1633) (by decide +kernel)) rfl
theorem se_X12_heard : Cond.selects yX12_heard.cls yX12_heard yX12_heard ∈ Tw := in_Tw (List.mem_of_getElem? (i := 1634) (by decide +kernel)) rfl
theorem cf_L_104 : CfV RL 104 yX12_heard cX12_heard 7 (some .long) 1 := ⟨im_X12_heard, se_X12_heard, Or.inl (in_Tw (List.mem_of_getElem? (i := 1632) (by decide +kernel)) rfl), cd_X12_heard, ini_X12, nm_X12_heard⟩
theorem cd_X11_with : Cond.code yX11_with cX11_with 7 (some .int) ∈ Tw := in_Tw (List.mem_of_getElem? (i := 1123) (by decide +kernel)) rfl
theorem nm_X11_with : Nms yX11_with 1 := ⟨by decide, by decide, by decide +kernel⟩
theorem im_X11_with : Cond.instanceMethod yX11_with ∈ Tw := in_Tw (List.mem_of_getElem? (i := 1121) (by decide +kernel)) rfl
theorem se_X11_with : Cond.selects yX11_with.cls yX11_with yX11_with ∈ Tw := in_Tw (List.mem_of_getElem? (i := 1122) (by decide +kernel)) rfl
theorem cf_L_105 : CfV RL 105 yX11_with cX11_with 7 (some .int) 1 := ⟨im_X11_with, se_X11_with, Or.inl (in_Tw (List.mem_of_getElem? (i := 1120) (by decide +kernel)) rfl), cd_X11_with, ini_X11, nm_X11_with⟩
theorem cd_X12_with : Cond.code yX12_with cX12_with 4 (some .int) ∈ Tw := in_Tw (List.mem_of_getElem? (i := 1640) (by decide +kernel)) rfl
theorem nm_X12_with : Nms yX12_with 1 := ⟨by decide, by decide, by decide +kernel⟩
theorem im_X12_with : Cond.instanceMethod yX12_with ∈ Tw := in_Tw (List.mem_of_getElem? (i := 1638) (by decide +kernel)) rfl
theorem se_X12_with : Cond.selects yX12_with.cls yX12_with yX12_with ∈ Tw := in_Tw (List.mem_of_getElem? (i := 1639) (by decide +kernel)) rfl
theorem cf_L_108 : CfV RL 108 yX12_with cX12_with 4 (some .int) 1 := ⟨im_X12_with, se_X12_with, Or.inl (in_Tw (List.mem_of_getElem? (i := 1637) (by decide +kernel)) rfl), cd_X12_with, ini_X12, nm_X12_with⟩
theorem cd_X11_houseOf : Cond.code yX11_houseOf cX11_houseOf 3 (some .int) ∈ Tw := in_Tw (List.mem_of_getElem? (i := 1127) (by decide +kernel)) rfl
theorem nm_X11_houseOf : Nms yX11_houseOf 2 := ⟨by decide, by decide, by decide +kernel⟩
theorem im_X11_houseOf : Cond.instanceMethod yX11_houseOf ∈ Tw := in_Tw (List.mem_of_getElem? (i := 1125) (by decide +kernel)) rfl
theorem se_X11_houseOf : Cond.selects yX11_houseOf.cls yX11_houseOf yX11_houseOf ∈ Tw := in_Tw (List.mem_of_getElem? (i := 1126) (by decide +kernel)) rfl
theorem cf_L_109 : CfV RL 109 yX11_houseOf cX11_houseOf 3 (some .int) 2 := ⟨im_X11_houseOf, se_X11_houseOf, Or.inl (in_Tw (List.mem_of_getElem? (i := 1124) (by decide +kernel)) rfl), cd_X11_houseOf, ini_X11, nm_X11_houseOf⟩
theorem cd_X12_houseOf : Cond.code yX12_houseOf cX12_houseOf 3 (some .int) ∈ Tw := in_Tw (List.mem_of_getElem? (i := 1644) (by decide +kernel)) rfl
theorem nm_X12_houseOf : Nms yX12_houseOf 2 := ⟨by decide, by decide, by decide +kernel⟩
theorem im_X12_houseOf : Cond.instanceMethod yX12_houseOf ∈ Tw := in_Tw (List.mem_of_getElem? (i := 1642) (by decide +kernel)) rfl
theorem se_X12_houseOf : Cond.selects yX12_houseOf.cls yX12_houseOf yX12_houseOf ∈ Tw := in_Tw (List.mem_of_getElem? (i := 1643) (by decide +kernel)) rfl
theorem cf_L_112 : CfV RL 112 yX12_houseOf cX12_houseOf 3 (some .int) 2 := ⟨im_X12_houseOf, se_X12_houseOf, Or.inl (in_Tw (List.mem_of_getElem? (i := 1641) (by decide +kernel)) rfl), cd_X12_houseOf, ini_X12, nm_X12_houseOf⟩
theorem cd_X11_row : Cond.code yX11_row cX11_row 5 (some .int) ∈ Tw := in_Tw (List.mem_of_getElem? (i := 1131) (by decide +kernel)) rfl
theorem nm_X11_row : Nms yX11_row 3 := ⟨by decide, by decide, by decide +kernel⟩
theorem im_X11_row : Cond.instanceMethod yX11_row ∈ Tw := in_Tw (List.mem_of_getElem? (i := 1129) (by decide +kernel)) rfl
theorem se_X11_row : Cond.selects yX11_row.cls yX11_row yX11_row ∈ Tw := in_Tw (List.mem_of_getElem? (i := 1130) (by decide +kernel)) rfl
theorem cf_L_113 : CfV RL 113 yX11_row cX11_row 5 (some .int) 3 := ⟨im_X11_row, se_X11_row, Or.inl (in_Tw (List.mem_of_getElem? (i := 1128) (by decide +kernel)) rfl), cd_X11_row, ini_X11, nm_X11_row⟩
theorem cd_X12_row : Cond.code yX12_row cX12_row 7 (some .int) ∈ Tw := in_Tw (List.mem_of_getElem? (i := 1648) (by decide +kernel)) rfl
theorem nm_X12_row : Nms yX12_row 3 := ⟨by decide, by decide, by decide +kernel⟩
theorem im_X12_row : Cond.instanceMethod yX12_row ∈ Tw := in_Tw (List.mem_of_getElem? (i := 1646) (by decide +kernel)) rfl
theorem se_X12_row : Cond.selects yX12_row.cls yX12_row yX12_row ∈ Tw := in_Tw (List.mem_of_getElem? (i := 1647) (by decide +kernel)) rfl
theorem cf_L_117 : CfV RL 117 yX12_row cX12_row 7 (some .int) 3 := ⟨im_X12_row, se_X12_row, Or.inl (in_Tw (List.mem_of_getElem? (i := 1645) (by decide +kernel)) rfl), cd_X12_row, ini_X12, nm_X12_row⟩
theorem cd_X11_winter : Cond.code yX11_winter cX11_winter 1 (some .int) ∈ Tw := in_Tw (List.mem_of_getElem? (i := 1151) (by decide +kernel)) rfl
theorem nm_X11_winter : Nms yX11_winter 0 := ⟨by decide, by decide, by decide +kernel⟩
theorem im_X11_winter : Cond.instanceMethod yX11_winter ∈ Tw := in_Tw (List.mem_of_getElem? (i := 1149) (by decide +kernel)) rfl
theorem se_X11_winter : Cond.selects yX11_winter.cls yX11_winter yX11_winter ∈ Tw := in_Tw (List.mem_of_getElem? (i := 1150) (by decide +kernel)) rfl
theorem cf_L_118 : CfV RL 118 yX11_winter cX11_winter 1 (some .int) 0 := ⟨im_X11_winter, se_X11_winter, Or.inl (in_Tw (List.mem_of_getElem? (i := 1148) (by decide +kernel)) rfl), cd_X11_winter, ini_X11, nm_X11_winter⟩
theorem cd_X12_winter : Cond.code yX12_winter cX12_winter 6 (some .int) ∈ Tw := in_Tw (List.mem_of_getElem? (i := 1656) (by decide +kernel)) rfl
theorem nm_X12_winter : Nms yX12_winter 0 := ⟨by decide, by decide, by decide +kernel⟩
theorem im_X12_winter : Cond.instanceMethod yX12_winter ∈ Tw := in_Tw (List.mem_of_getElem? (i := 1654) (by decide +kernel)) rfl
theorem se_X12_winter : Cond.selects yX12_winter.cls yX12_winter yX12_winter ∈ Tw := in_Tw (List.mem_of_getElem? (i := 1655) (by decide +kernel)) rfl
theorem cf_L_121 : CfV RL 121 yX12_winter cX12_winter 6 (some .int) 0 := ⟨im_X12_winter, se_X12_winter, Or.inl (in_Tw (List.mem_of_getElem? (i := 1653) (by decide +kernel)) rfl), cd_X12_winter, ini_X12, nm_X12_winter⟩
theorem cd_X11_town : Cond.code yX11_town cX11_town 3 (some .int) ∈ Tw := in_Tw (List.mem_of_getElem? (i := 1165) (by decide +kernel)) rfl
theorem nm_X11_town : Nms yX11_town 2 := ⟨by decide, by decide, by decide +kernel⟩
theorem im_X11_town : Cond.instanceMethod yX11_town ∈ Tw := in_Tw (List.mem_of_getElem? (i := 1163) (by decide +kernel)) rfl
theorem se_X11_town : Cond.selects yX11_town.cls yX11_town yX11_town ∈ Tw := in_Tw (List.mem_of_getElem? (i := 1164) (by decide +kernel)) rfl
theorem cf_L_122 : CfV RL 122 yX11_town cX11_town 3 (some .int) 2 := ⟨im_X11_town, se_X11_town, Or.inl (in_Tw (List.mem_of_getElem? (i := 1162) (by decide +kernel)) rfl), cd_X11_town, ini_X11, nm_X11_town⟩
theorem cd_X12_town : Cond.code yX12_town cX12_town 9 (some .int) ∈ Tw := in_Tw (List.mem_of_getElem? (i := 1660) (by decide +kernel)) rfl
theorem nm_X12_town : Nms yX12_town 2 := ⟨by decide, by decide, by decide +kernel⟩
theorem im_X12_town : Cond.instanceMethod yX12_town ∈ Tw := in_Tw (List.mem_of_getElem? (i := 1658) (by decide +kernel)) rfl
theorem se_X12_town : Cond.selects yX12_town.cls yX12_town yX12_town ∈ Tw := in_Tw (List.mem_of_getElem? (i := 1659) (by decide +kernel)) rfl
theorem cf_L_125 : CfV RL 125 yX12_town cX12_town 9 (some .int) 2 := ⟨im_X12_town, se_X12_town, Or.inl (in_Tw (List.mem_of_getElem? (i := 1657) (by decide +kernel)) rfl), cd_X12_town, ini_X12, nm_X12_town⟩
theorem cd_X11_image : Cond.code yX11_image cX11_image 1 (some .int) ∈ Tw := in_Tw (List.mem_of_getElem? (i := 1184) (by decide +kernel)) rfl
theorem nm_X11_image : Nms yX11_image 0 := ⟨by decide, by decide, by decide +kernel⟩
theorem im_X11_image : Cond.instanceMethod yX11_image ∈ Tw := in_Tw (List.mem_of_getElem? (i := 1182) (by decide +kernel)) rfl
theorem se_X11_image : Cond.selects yX11_image.cls yX11_image yX11_image ∈ Tw := in_Tw (List.mem_of_getElem? (i := 1183) (by decide +kernel)) rfl
theorem cf_L_126 : CfV RL 126 yX11_image cX11_image 1 (some .int) 0 := ⟨im_X11_image, se_X11_image, Or.inl (in_Tw (List.mem_of_getElem? (i := 1181) (by decide +kernel)) rfl), cd_X11_image, ini_X11, nm_X11_image⟩
theorem cd_X12_image : Cond.code yX12_image cX12_image 1 (some .int) ∈ Tw := in_Tw (List.mem_of_getElem? (i := 1671) (by decide +kernel)) rfl
theorem nm_X12_image : Nms yX12_image 0 := ⟨by decide, by decide, by decide +kernel⟩
theorem im_X12_image : Cond.instanceMethod yX12_image ∈ Tw := in_Tw (List.mem_of_getElem? (i := 1669) (by decide +kernel)) rfl
theorem se_X12_image : Cond.selects yX12_image.cls yX12_image yX12_image ∈ Tw := in_Tw (List.mem_of_getElem? (i := 1670) (by decide +kernel)) rfl
theorem cf_L_129 : CfV RL 129 yX12_image cX12_image 1 (some .int) 0 := ⟨im_X12_image, se_X12_image, Or.inl (in_Tw (List.mem_of_getElem? (i := 1668) (by decide +kernel)) rfl), cd_X12_image, ini_X12, nm_X12_image⟩
theorem cd_X11_back : Cond.code yX11_back cX11_back 1 (some .int) ∈ Tw := in_Tw (List.mem_of_getElem? (i := 1211) (by decide +kernel)) rfl
theorem nm_X11_back : Nms yX11_back 0 := ⟨by decide, by decide, by decide +kernel⟩
theorem im_X11_back : Cond.instanceMethod yX11_back ∈ Tw := in_Tw (List.mem_of_getElem? (i := 1209) (by decide +kernel)) rfl
theorem se_X11_back : Cond.selects yX11_back.cls yX11_back yX11_back ∈ Tw := in_Tw (List.mem_of_getElem? (i := 1210) (by decide +kernel)) rfl
theorem cf_L_130 : CfV RL 130 yX11_back cX11_back 1 (some .int) 0 := ⟨im_X11_back, se_X11_back, Or.inl (in_Tw (List.mem_of_getElem? (i := 1208) (by decide +kernel)) rfl), cd_X11_back, ini_X11, nm_X11_back⟩
theorem cd_X12_back : Cond.code yX12_back cX12_back 1 (some .int) ∈ Tw := in_Tw (List.mem_of_getElem? (i := 1675) (by decide +kernel)) rfl
theorem nm_X12_back : Nms yX12_back 0 := ⟨by decide, by decide, by decide +kernel⟩
theorem im_X12_back : Cond.instanceMethod yX12_back ∈ Tw := in_Tw (List.mem_of_getElem? (i := 1673) (by decide +kernel)) rfl
theorem se_X12_back : Cond.selects yX12_back.cls yX12_back yX12_back ∈ Tw := in_Tw (List.mem_of_getElem? (i := 1674) (by decide +kernel)) rfl
theorem cf_L_133 : CfV RL 133 yX12_back cX12_back 1 (some .int) 0 := ⟨im_X12_back, se_X12_back, Or.inl (in_Tw (List.mem_of_getElem? (i := 1672) (by decide +kernel)) rfl), cd_X12_back, ini_X12, nm_X12_back⟩
theorem cd_X11_about : Cond.code yX11_about cX11_about 2 (some .int) ∈ Tw := in_Tw (List.mem_of_getElem? (i := 1215) (by decide +kernel)) rfl
theorem nm_X11_about : Nms yX11_about 1 := ⟨by decide, by decide, by decide +kernel⟩
theorem im_X11_about : Cond.instanceMethod yX11_about ∈ Tw := in_Tw (List.mem_of_getElem? (i := 1213) (by decide +kernel)) rfl
theorem se_X11_about : Cond.selects yX11_about.cls yX11_about yX11_about ∈ Tw := in_Tw (List.mem_of_getElem? (i := 1214) (by decide +kernel)) rfl
theorem cf_L_134 : CfV RL 134 yX11_about cX11_about 2 (some .int) 1 := ⟨im_X11_about, se_X11_about, Or.inl (in_Tw (List.mem_of_getElem? (i := 1212) (by decide +kernel)) rfl), cd_X11_about, ini_X11, nm_X11_about⟩
theorem cd_X12_about : Cond.code yX12_about cX12_about 2 (some .int) ∈ Tw := in_Tw (List.mem_of_getElem? (i := 1679) (by decide +kernel)) rfl
theorem nm_X12_about : Nms yX12_about 1 := ⟨by decide, by decide, by decide +kernel⟩
theorem im_X12_about : Cond.instanceMethod yX12_about ∈ Tw := in_Tw (List.mem_of_getElem? (i := 1677) (by decide +kernel)) rfl
theorem se_X12_about : Cond.selects yX12_about.cls yX12_about yX12_about ∈ Tw := in_Tw (List.mem_of_getElem? (i := 1678) (by decide +kernel)) rfl
theorem cf_L_137 : CfV RL 137 yX12_about cX12_about 2 (some .int) 1 := ⟨im_X12_about, se_X12_about, Or.inl (in_Tw (List.mem_of_getElem? (i := 1676) (by decide +kernel)) rfl), cd_X12_about, ini_X12, nm_X12_about⟩
theorem ol_X12_1 : Cond.methodLink RX12 1 objectInit ∈ Tw := in_Tw (List.mem_of_getElem? (i := 1225) (by decide +kernel)) rfl
theorem cd_X12_copy : Cond.code yX12_copy cX12_copy 3 none ∈ Tw := in_Tw (List.mem_of_getElem? (i := 1228) (by decide +kernel)) rfl
theorem nm_X12_copy : Nms yX12_copy 2 := ⟨by decide, by decide, by decide +kernel⟩
theorem st_X12_copy : Cond.static yX12_copy ∈ Tw := in_Tw (List.mem_of_getElem? (i := 1227) (by decide +kernel)) rfl
theorem cf_X12_58 : CfS RX12 58 yX12_copy cX12_copy 3 none 2 := ⟨st_X12_copy, in_Tw (List.mem_of_getElem? (i := 1226) (by decide +kernel)) rfl, cd_X12_copy, ini_X12, nm_X12_copy⟩
theorem cd_X12_isIn : Cond.code yX12_isIn cX12_isIn 3 (some .boolean) ∈ Tw := in_Tw (List.mem_of_getElem? (i := 1332) (by decide +kernel)) rfl
theorem nm_X12_isIn : Nms yX12_isIn 3 := ⟨by decide, by decide, by decide +kernel⟩
theorem st_X12_isIn : Cond.static yX12_isIn ∈ Tw := in_Tw (List.mem_of_getElem? (i := 1331) (by decide +kernel)) rfl
theorem cf_X12_62 : CfS RX12 62 yX12_isIn cX12_isIn 3 (some .boolean) 3 := ⟨st_X12_isIn, in_Tw (List.mem_of_getElem? (i := 1330) (by decide +kernel)) rfl, cd_X12_isIn, ini_X12, nm_X12_isIn⟩
theorem cd_X12_all : Cond.code yX12_all cX12_all 1 (some .int) ∈ Tw := in_Tw (List.mem_of_getElem? (i := 1336) (by decide +kernel)) rfl
theorem nm_X12_all : Nms yX12_all 0 := ⟨by decide, by decide, by decide +kernel⟩
theorem im_X12_all : Cond.instanceMethod yX12_all ∈ Tw := in_Tw (List.mem_of_getElem? (i := 1335) (by decide +kernel)) rfl
theorem se_X12_all : Cond.selects yX12_all.cls yX12_all yX12_all ∈ Tw := in_Tw (List.mem_of_getElem? (i := 94) (by decide +kernel)) rfl
theorem cf_X12_66 : CfV RX12 66 yX12_all cX12_all 1 (some .int) 0 := ⟨im_X12_all, se_X12_all, Or.inl (in_Tw (List.mem_of_getElem? (i := 1333) (by decide +kernel)) rfl), cd_X12_all, ini_X12, nm_X12_all⟩
theorem cd_X12_bits : Cond.code yX12_bits cX12_bits 3 (some .int) ∈ Tw := in_Tw (List.mem_of_getElem? (i := 1339) (by decide +kernel)) rfl
theorem nm_X12_bits : Nms yX12_bits 1 := ⟨by decide, by decide, by decide +kernel⟩
theorem st_X12_bits : Cond.static yX12_bits ∈ Tw := in_Tw (List.mem_of_getElem? (i := 1338) (by decide +kernel)) rfl
theorem cf_X12_70 : CfS RX12 70 yX12_bits cX12_bits 3 (some .int) 1 := ⟨st_X12_bits, in_Tw (List.mem_of_getElem? (i := 1337) (by decide +kernel)) rfl, cd_X12_bits, ini_X12, nm_X12_bits⟩
theorem cd_X12_stoneAt : Cond.code yX12_stoneAt cX12_stoneAt 1 (some .int) ∈ Tw := in_Tw (List.mem_of_getElem? (i := 1342) (by decide +kernel)) rfl
theorem nm_X12_stoneAt : Nms yX12_stoneAt 1 := ⟨by decide, by decide, by decide +kernel⟩
theorem st_X12_stoneAt : Cond.static yX12_stoneAt ∈ Tw := in_Tw (List.mem_of_getElem? (i := 1341) (by decide +kernel)) rfl
theorem cf_X12_74 : CfS RX12 74 yX12_stoneAt cX12_stoneAt 1 (some .int) 1 := ⟨st_X12_stoneAt, in_Tw (List.mem_of_getElem? (i := 1340) (by decide +kernel)) rfl, cd_X12_stoneAt, ini_X12, nm_X12_stoneAt⟩
theorem cd_X12_houseAt : Cond.code yX12_houseAt cX12_houseAt 1 (some .int) ∈ Tw := in_Tw (List.mem_of_getElem? (i := 1353) (by decide +kernel)) rfl
theorem nm_X12_houseAt : Nms yX12_houseAt 1 := ⟨by decide, by decide, by decide +kernel⟩
theorem st_X12_houseAt : Cond.static yX12_houseAt ∈ Tw := in_Tw (List.mem_of_getElem? (i := 1352) (by decide +kernel)) rfl
theorem cf_X12_77 : CfS RX12 77 yX12_houseAt cX12_houseAt 1 (some .int) 1 := ⟨st_X12_houseAt, in_Tw (List.mem_of_getElem? (i := 1351) (by decide +kernel)) rfl, cd_X12_houseAt, ini_X12, nm_X12_houseAt⟩
theorem cd_X12_isHouse : Cond.code yX12_isHouse cX12_isHouse 2 (some .boolean) ∈ Tw := in_Tw (List.mem_of_getElem? (i := 1361) (by decide +kernel)) rfl
theorem nm_X12_isHouse : Nms yX12_isHouse 1 := ⟨by decide, by decide, by decide +kernel⟩
theorem im_X12_isHouse : Cond.instanceMethod yX12_isHouse ∈ Tw := in_Tw (List.mem_of_getElem? (i := 1360) (by decide +kernel)) rfl
theorem se_X12_isHouse : Cond.selects yX12_isHouse.cls yX12_isHouse yX12_isHouse ∈ Tw := in_Tw (List.mem_of_getElem? (i := 95) (by decide +kernel)) rfl
theorem cf_X12_80 : CfV RX12 80 yX12_isHouse cX12_isHouse 2 (some .boolean) 1 := ⟨im_X12_isHouse, se_X12_isHouse, Or.inl (in_Tw (List.mem_of_getElem? (i := 1358) (by decide +kernel)) rfl), cd_X12_isHouse, ini_X12, nm_X12_isHouse⟩
theorem cd_X12_touches : Cond.code yX12_touches cX12_touches 5 none ∈ Tw := in_Tw (List.mem_of_getElem? (i := 1365) (by decide +kernel)) rfl
theorem nm_X12_touches : Nms yX12_touches 3 := ⟨by decide, by decide, by decide +kernel⟩
theorem im_X12_touches : Cond.instanceMethod yX12_touches ∈ Tw := in_Tw (List.mem_of_getElem? (i := 1364) (by decide +kernel)) rfl
theorem se_X12_touches : Cond.selects yX12_touches.cls yX12_touches yX12_touches ∈ Tw := in_Tw (List.mem_of_getElem? (i := 96) (by decide +kernel)) rfl
theorem cf_X12_84 : CfV RX12 84 yX12_touches cX12_touches 5 none 3 := ⟨im_X12_touches, se_X12_touches, Or.inl (in_Tw (List.mem_of_getElem? (i := 1362) (by decide +kernel)) rfl), cd_X12_touches, ini_X12, nm_X12_touches⟩
theorem cd_X12_four : Cond.code yX12_four cX12_four 3 none ∈ Tw := in_Tw (List.mem_of_getElem? (i := 1373) (by decide +kernel)) rfl
theorem nm_X12_four : Nms yX12_four 1 := ⟨by decide, by decide, by decide +kernel⟩
theorem im_X12_four : Cond.instanceMethod yX12_four ∈ Tw := in_Tw (List.mem_of_getElem? (i := 1372) (by decide +kernel)) rfl
theorem se_X12_four : Cond.selects yX12_four.cls yX12_four yX12_four ∈ Tw := in_Tw (List.mem_of_getElem? (i := 97) (by decide +kernel)) rfl
theorem cf_X12_91 : CfV RX12 91 yX12_four cX12_four 3 none 1 := ⟨im_X12_four, se_X12_four, Or.inl (in_Tw (List.mem_of_getElem? (i := 1370) (by decide +kernel)) rfl), cd_X12_four, ini_X12, nm_X12_four⟩
theorem cd_X12_byteAt : Cond.code yX12_byteAt cX12_byteAt 2 (some .int) ∈ Tw := in_Tw (List.mem_of_getElem? (i := 1393) (by decide +kernel)) rfl
theorem nm_X12_byteAt : Nms yX12_byteAt 1 := ⟨by decide, by decide, by decide +kernel⟩
theorem im_X12_byteAt : Cond.instanceMethod yX12_byteAt ∈ Tw := in_Tw (List.mem_of_getElem? (i := 1392) (by decide +kernel)) rfl
theorem se_X12_byteAt : Cond.selects yX12_byteAt.cls yX12_byteAt yX12_byteAt ∈ Tw := in_Tw (List.mem_of_getElem? (i := 100) (by decide +kernel)) rfl
theorem cf_X12_98 : CfV RX12 98 yX12_byteAt cX12_byteAt 2 (some .int) 1 := ⟨im_X12_byteAt, se_X12_byteAt, Or.inl (in_Tw (List.mem_of_getElem? (i := 1390) (by decide +kernel)) rfl), cd_X12_byteAt, ini_X12, nm_X12_byteAt⟩
theorem cd_X12_isDigit : Cond.code yX12_isDigit cX12_isDigit 1 (some .boolean) ∈ Tw := in_Tw (List.mem_of_getElem? (i := 1396) (by decide +kernel)) rfl
theorem nm_X12_isDigit : Nms yX12_isDigit 1 := ⟨by decide, by decide, by decide +kernel⟩
theorem st_X12_isDigit : Cond.static yX12_isDigit ∈ Tw := in_Tw (List.mem_of_getElem? (i := 1395) (by decide +kernel)) rfl
theorem cf_X12_107 : CfS RX12 107 yX12_isDigit cX12_isDigit 1 (some .boolean) 1 := ⟨st_X12_isDigit, in_Tw (List.mem_of_getElem? (i := 1394) (by decide +kernel)) rfl, cd_X12_isDigit, ini_X12, nm_X12_isDigit⟩
theorem cd_X12_isLetter : Cond.code yX12_isLetter cX12_isLetter 1 (some .boolean) ∈ Tw := in_Tw (List.mem_of_getElem? (i := 1400) (by decide +kernel)) rfl
theorem nm_X12_isLetter : Nms yX12_isLetter 1 := ⟨by decide, by decide, by decide +kernel⟩
theorem st_X12_isLetter : Cond.static yX12_isLetter ∈ Tw := in_Tw (List.mem_of_getElem? (i := 1399) (by decide +kernel)) rfl
theorem cf_X12_114 : CfS RX12 114 yX12_isLetter cX12_isLetter 1 (some .boolean) 1 := ⟨st_X12_isLetter, in_Tw (List.mem_of_getElem? (i := 1398) (by decide +kernel)) rfl, cd_X12_isLetter, ini_X12, nm_X12_isLetter⟩
theorem cd_X12_w3 : Cond.code yX12_w3 cX12_w3 3 (some .long) ∈ Tw := in_Tw (List.mem_of_getElem? (i := 1414) (by decide +kernel)) rfl
theorem nm_X12_w3 : Nms yX12_w3 3 := ⟨by decide, by decide, by decide +kernel⟩
theorem st_X12_w3 : Cond.static yX12_w3 ∈ Tw := in_Tw (List.mem_of_getElem? (i := 1413) (by decide +kernel)) rfl
theorem cf_X12_121 : CfS RX12 121 yX12_w3 cX12_w3 3 (some .long) 3 := ⟨st_X12_w3, in_Tw (List.mem_of_getElem? (i := 1412) (by decide +kernel)) rfl, cd_X12_w3, ini_X12, nm_X12_w3⟩
theorem cd_X12_w5 : Cond.code yX12_w5 cX12_w5 5 (some .long) ∈ Tw := in_Tw (List.mem_of_getElem? (i := 1470) (by decide +kernel)) rfl
theorem nm_X12_w5 : Nms yX12_w5 5 := ⟨by decide, by decide, by decide +kernel⟩
theorem st_X12_w5 : Cond.static yX12_w5 ∈ Tw := in_Tw (List.mem_of_getElem? (i := 1469) (by decide +kernel)) rfl
theorem cf_X12_125 : CfS RX12 125 yX12_w5 cX12_w5 5 (some .long) 5 := ⟨st_X12_w5, in_Tw (List.mem_of_getElem? (i := 1468) (by decide +kernel)) rfl, cd_X12_w5, ini_X12, nm_X12_w5⟩
theorem cd_X12_emit : Cond.code yX12_emit cX12_emit 3 none ∈ Tw := in_Tw (List.mem_of_getElem? (i := 1451) (by decide +kernel)) rfl
theorem nm_X12_emit : Nms yX12_emit 2 := ⟨by decide, by decide, by decide +kernel⟩
theorem im_X12_emit : Cond.instanceMethod yX12_emit ∈ Tw := in_Tw (List.mem_of_getElem? (i := 1450) (by decide +kernel)) rfl
theorem se_X12_emit : Cond.selects yX12_emit.cls yX12_emit yX12_emit ∈ Tw := in_Tw (List.mem_of_getElem? (i := 111) (by decide +kernel)) rfl
theorem cf_X12_145 : CfV RX12 145 yX12_emit cX12_emit 3 none 2 := ⟨im_X12_emit, se_X12_emit, Or.inl (in_Tw (List.mem_of_getElem? (i := 1448) (by decide +kernel)) rfl), cd_X12_emit, ini_X12, nm_X12_emit⟩
theorem cd_X12_w6 : Cond.code yX12_w6 cX12_w6 6 (some .long) ∈ Tw := in_Tw (List.mem_of_getElem? (i := 1473) (by decide +kernel)) rfl
theorem nm_X12_w6 : Nms yX12_w6 6 := ⟨by decide, by decide, by decide +kernel⟩
theorem st_X12_w6 : Cond.static yX12_w6 ∈ Tw := in_Tw (List.mem_of_getElem? (i := 1472) (by decide +kernel)) rfl
theorem cf_X12_149 : CfS RX12 149 yX12_w6 cX12_w6 6 (some .long) 6 := ⟨st_X12_w6, in_Tw (List.mem_of_getElem? (i := 1471) (by decide +kernel)) rfl, cd_X12_w6, ini_X12, nm_X12_w6⟩
theorem cd_X12_w4 : Cond.code yX12_w4 cX12_w4 4 (some .long) ∈ Tw := in_Tw (List.mem_of_getElem? (i := 1411) (by decide +kernel)) rfl
theorem nm_X12_w4 : Nms yX12_w4 4 := ⟨by decide, by decide, by decide +kernel⟩
theorem st_X12_w4 : Cond.static yX12_w4 ∈ Tw := in_Tw (List.mem_of_getElem? (i := 1410) (by decide +kernel)) rfl
theorem cf_X12_153 : CfS RX12 153 yX12_w4 cX12_w4 4 (some .long) 4 := ⟨st_X12_w4, in_Tw (List.mem_of_getElem? (i := 1409) (by decide +kernel)) rfl, cd_X12_w4, ini_X12, nm_X12_w4⟩
theorem cd_X12_nextToken : Cond.code yX12_nextToken cX12_nextToken 3 none ∈ Tw := in_Tw (List.mem_of_getElem? (i := 1389) (by decide +kernel)) rfl
theorem nm_X12_nextToken : Nms yX12_nextToken 0 := ⟨by decide, by decide, by decide +kernel⟩
theorem im_X12_nextToken : Cond.instanceMethod yX12_nextToken ∈ Tw := in_Tw (List.mem_of_getElem? (i := 1388) (by decide +kernel)) rfl
theorem se_X12_nextToken : Cond.selects yX12_nextToken.cls yX12_nextToken yX12_nextToken ∈ Tw := in_Tw (List.mem_of_getElem? (i := 99) (by decide +kernel)) rfl
theorem cf_X12_160 : CfV RX12 160 yX12_nextToken cX12_nextToken 3 none 0 := ⟨im_X12_nextToken, se_X12_nextToken, Or.inl (in_Tw (List.mem_of_getElem? (i := 1386) (by decide +kernel)) rfl), cd_X12_nextToken, ini_X12, nm_X12_nextToken⟩
theorem cd_X12_whole : Cond.code yX12_whole cX12_whole 1 none ∈ Tw := in_Tw (List.mem_of_getElem? (i := 1459) (by decide +kernel)) rfl
theorem nm_X12_whole : Nms yX12_whole 0 := ⟨by decide, by decide, by decide +kernel⟩
theorem im_X12_whole : Cond.instanceMethod yX12_whole ∈ Tw := in_Tw (List.mem_of_getElem? (i := 1458) (by decide +kernel)) rfl
theorem se_X12_whole : Cond.selects yX12_whole.cls yX12_whole yX12_whole ∈ Tw := in_Tw (List.mem_of_getElem? (i := 113) (by decide +kernel)) rfl
theorem cf_X12_163 : CfV RX12 163 yX12_whole cX12_whole 1 none 0 := ⟨im_X12_whole, se_X12_whole, Or.inl (in_Tw (List.mem_of_getElem? (i := 1456) (by decide +kernel)) rfl), cd_X12_whole, ini_X12, nm_X12_whole⟩
theorem cd_X12_nameOf : Cond.code yX12_nameOf cX12_nameOf 1 (some .int) ∈ Tw := in_Tw (List.mem_of_getElem? (i := 1467) (by decide +kernel)) rfl
theorem nm_X12_nameOf : Nms yX12_nameOf 0 := ⟨by decide, by decide, by decide +kernel⟩
theorem im_X12_nameOf : Cond.instanceMethod yX12_nameOf ∈ Tw := in_Tw (List.mem_of_getElem? (i := 1466) (by decide +kernel)) rfl
theorem se_X12_nameOf : Cond.selects yX12_nameOf.cls yX12_nameOf yX12_nameOf ∈ Tw := in_Tw (List.mem_of_getElem? (i := 115) (by decide +kernel)) rfl
theorem cf_X12_166 : CfV RX12 166 yX12_nameOf cX12_nameOf 1 (some .int) 0 := ⟨im_X12_nameOf, se_X12_nameOf, Or.inl (in_Tw (List.mem_of_getElem? (i := 1464) (by decide +kernel)) rfl), cd_X12_nameOf, ini_X12, nm_X12_nameOf⟩
theorem cd_X12_isBarred : Cond.code yX12_isBarred cX12_isBarred 2 (some .boolean) ∈ Tw := in_Tw (List.mem_of_getElem? (i := 1477) (by decide +kernel)) rfl
theorem nm_X12_isBarred : Nms yX12_isBarred 1 := ⟨by decide, by decide, by decide +kernel⟩
theorem im_X12_isBarred : Cond.instanceMethod yX12_isBarred ∈ Tw := in_Tw (List.mem_of_getElem? (i := 1476) (by decide +kernel)) rfl
theorem se_X12_isBarred : Cond.selects yX12_isBarred.cls yX12_isBarred yX12_isBarred ∈ Tw := in_Tw (List.mem_of_getElem? (i := 116) (by decide +kernel)) rfl
theorem cf_X12_169 : CfV RX12 169 yX12_isBarred cX12_isBarred 2 (some .boolean) 1 := ⟨im_X12_isBarred, se_X12_isBarred, Or.inl (in_Tw (List.mem_of_getElem? (i := 1474) (by decide +kernel)) rfl), cd_X12_isBarred, ini_X12, nm_X12_isBarred⟩
theorem cd_X12_push : Cond.code yX12_push cX12_push 2 none ∈ Tw := in_Tw (List.mem_of_getElem? (i := 1455) (by decide +kernel)) rfl
theorem nm_X12_push : Nms yX12_push 1 := ⟨by decide, by decide, by decide +kernel⟩
theorem im_X12_push : Cond.instanceMethod yX12_push ∈ Tw := in_Tw (List.mem_of_getElem? (i := 1454) (by decide +kernel)) rfl
theorem se_X12_push : Cond.selects yX12_push.cls yX12_push yX12_push ∈ Tw := in_Tw (List.mem_of_getElem? (i := 112) (by decide +kernel)) rfl
theorem cf_X12_172 : CfV RX12 172 yX12_push cX12_push 2 none 1 := ⟨im_X12_push, se_X12_push, Or.inl (in_Tw (List.mem_of_getElem? (i := 1452) (by decide +kernel)) rfl), cd_X12_push, ini_X12, nm_X12_push⟩
theorem cd_X12_hasParen : Cond.code yX12_hasParen cX12_hasParen 2 (some .boolean) ∈ Tw := in_Tw (List.mem_of_getElem? (i := 1439) (by decide +kernel)) rfl
theorem nm_X12_hasParen : Nms yX12_hasParen 0 := ⟨by decide, by decide, by decide +kernel⟩
theorem im_X12_hasParen : Cond.instanceMethod yX12_hasParen ∈ Tw := in_Tw (List.mem_of_getElem? (i := 1438) (by decide +kernel)) rfl
theorem se_X12_hasParen : Cond.selects yX12_hasParen.cls yX12_hasParen yX12_hasParen ∈ Tw := in_Tw (List.mem_of_getElem? (i := 108) (by decide +kernel)) rfl
theorem cf_X12_175 : CfV RX12 175 yX12_hasParen cX12_hasParen 2 (some .boolean) 0 := ⟨im_X12_hasParen, se_X12_hasParen, Or.inl (in_Tw (List.mem_of_getElem? (i := 1436) (by decide +kernel)) rfl), cd_X12_hasParen, ini_X12, nm_X12_hasParen⟩
theorem cd_X12_settle : Cond.code yX12_settle cX12_settle 2 none ∈ Tw := in_Tw (List.mem_of_getElem? (i := 1447) (by decide +kernel)) rfl
theorem nm_X12_settle : Nms yX12_settle 1 := ⟨by decide, by decide, by decide +kernel⟩
theorem im_X12_settle : Cond.instanceMethod yX12_settle ∈ Tw := in_Tw (List.mem_of_getElem? (i := 1446) (by decide +kernel)) rfl
theorem se_X12_settle : Cond.selects yX12_settle.cls yX12_settle yX12_settle ∈ Tw := in_Tw (List.mem_of_getElem? (i := 110) (by decide +kernel)) rfl
theorem cf_X12_179 : CfV RX12 179 yX12_settle cX12_settle 2 none 1 := ⟨im_X12_settle, se_X12_settle, Or.inl (in_Tw (List.mem_of_getElem? (i := 1444) (by decide +kernel)) rfl), cd_X12_settle, ini_X12, nm_X12_settle⟩
theorem cd_X12_goesOn : Cond.code yX12_goesOn cX12_goesOn 1 (some .boolean) ∈ Tw := in_Tw (List.mem_of_getElem? (i := 1435) (by decide +kernel)) rfl
theorem nm_X12_goesOn : Nms yX12_goesOn 0 := ⟨by decide, by decide, by decide +kernel⟩
theorem im_X12_goesOn : Cond.instanceMethod yX12_goesOn ∈ Tw := in_Tw (List.mem_of_getElem? (i := 1434) (by decide +kernel)) rfl
theorem se_X12_goesOn : Cond.selects yX12_goesOn.cls yX12_goesOn yX12_goesOn ∈ Tw := in_Tw (List.mem_of_getElem? (i := 107) (by decide +kernel)) rfl
theorem cf_X12_182 : CfV RX12 182 yX12_goesOn cX12_goesOn 1 (some .boolean) 0 := ⟨im_X12_goesOn, se_X12_goesOn, Or.inl (in_Tw (List.mem_of_getElem? (i := 1432) (by decide +kernel)) rfl), cd_X12_goesOn, ini_X12, nm_X12_goesOn⟩
theorem cd_X12_behindOne : Cond.code yX12_behindOne cX12_behindOne 2 (some .int) ∈ Tw := in_Tw (List.mem_of_getElem? (i := 1443) (by decide +kernel)) rfl
theorem nm_X12_behindOne : Nms yX12_behindOne 0 := ⟨by decide, by decide, by decide +kernel⟩
theorem im_X12_behindOne : Cond.instanceMethod yX12_behindOne ∈ Tw := in_Tw (List.mem_of_getElem? (i := 1442) (by decide +kernel)) rfl
theorem se_X12_behindOne : Cond.selects yX12_behindOne.cls yX12_behindOne yX12_behindOne ∈ Tw := in_Tw (List.mem_of_getElem? (i := 109) (by decide +kernel)) rfl
theorem cf_X12_185 : CfV RX12 185 yX12_behindOne cX12_behindOne 2 (some .int) 0 := ⟨im_X12_behindOne, se_X12_behindOne, Or.inl (in_Tw (List.mem_of_getElem? (i := 1440) (by decide +kernel)) rfl), cd_X12_behindOne, ini_X12, nm_X12_behindOne⟩
theorem cd_X12_beginOne : Cond.code yX12_beginOne cX12_beginOne 2 (some .int) ∈ Tw := in_Tw (List.mem_of_getElem? (i := 1463) (by decide +kernel)) rfl
theorem nm_X12_beginOne : Nms yX12_beginOne 0 := ⟨by decide, by decide, by decide +kernel⟩
theorem im_X12_beginOne : Cond.instanceMethod yX12_beginOne ∈ Tw := in_Tw (List.mem_of_getElem? (i := 1462) (by decide +kernel)) rfl
theorem se_X12_beginOne : Cond.selects yX12_beginOne.cls yX12_beginOne yX12_beginOne ∈ Tw := in_Tw (List.mem_of_getElem? (i := 114) (by decide +kernel)) rfl
theorem cf_X12_188 : CfV RX12 188 yX12_beginOne cX12_beginOne 2 (some .int) 0 := ⟨im_X12_beginOne, se_X12_beginOne, Or.inl (in_Tw (List.mem_of_getElem? (i := 1460) (by decide +kernel)) rfl), cd_X12_beginOne, ini_X12, nm_X12_beginOne⟩
theorem cd_X12_isWord : Cond.code yX12_isWord cX12_isWord 3 (some .boolean) ∈ Tw := in_Tw (List.mem_of_getElem? (i := 1418) (by decide +kernel)) rfl
theorem nm_X12_isWord : Nms yX12_isWord 1 := ⟨by decide, by decide, by decide +kernel⟩
theorem im_X12_isWord : Cond.instanceMethod yX12_isWord ∈ Tw := in_Tw (List.mem_of_getElem? (i := 1417) (by decide +kernel)) rfl
theorem se_X12_isWord : Cond.selects yX12_isWord.cls yX12_isWord yX12_isWord ∈ Tw := in_Tw (List.mem_of_getElem? (i := 103) (by decide +kernel)) rfl
theorem cf_X12_191 : CfV RX12 191 yX12_isWord cX12_isWord 3 (some .boolean) 1 := ⟨im_X12_isWord, se_X12_isWord, Or.inl (in_Tw (List.mem_of_getElem? (i := 1415) (by decide +kernel)) rfl), cd_X12_isWord, ini_X12, nm_X12_isWord⟩
theorem cd_X12_summed : Cond.code yX12_summed cX12_summed 2 (some .int) ∈ Tw := in_Tw (List.mem_of_getElem? (i := 1431) (by decide +kernel)) rfl
theorem nm_X12_summed : Nms yX12_summed 0 := ⟨by decide, by decide, by decide +kernel⟩
theorem im_X12_summed : Cond.instanceMethod yX12_summed ∈ Tw := in_Tw (List.mem_of_getElem? (i := 1430) (by decide +kernel)) rfl
theorem se_X12_summed : Cond.selects yX12_summed.cls yX12_summed yX12_summed ∈ Tw := in_Tw (List.mem_of_getElem? (i := 106) (by decide +kernel)) rfl
theorem cf_X12_195 : CfV RX12 195 yX12_summed cX12_summed 2 (some .int) 0 := ⟨im_X12_summed, se_X12_summed, Or.inl (in_Tw (List.mem_of_getElem? (i := 1428) (by decide +kernel)) rfl), cd_X12_summed, ini_X12, nm_X12_summed⟩
theorem cd_X12_compareOf : Cond.code yX12_compareOf cX12_compareOf 1 (some .int) ∈ Tw := in_Tw (List.mem_of_getElem? (i := 1489) (by decide +kernel)) rfl
theorem nm_X12_compareOf : Nms yX12_compareOf 0 := ⟨by decide, by decide, by decide +kernel⟩
theorem im_X12_compareOf : Cond.instanceMethod yX12_compareOf ∈ Tw := in_Tw (List.mem_of_getElem? (i := 1488) (by decide +kernel)) rfl
theorem se_X12_compareOf : Cond.selects yX12_compareOf.cls yX12_compareOf yX12_compareOf ∈ Tw := in_Tw (List.mem_of_getElem? (i := 119) (by decide +kernel)) rfl
theorem cf_X12_198 : CfV RX12 198 yX12_compareOf cX12_compareOf 1 (some .int) 0 := ⟨im_X12_compareOf, se_X12_compareOf, Or.inl (in_Tw (List.mem_of_getElem? (i := 1486) (by decide +kernel)) rfl), cd_X12_compareOf, ini_X12, nm_X12_compareOf⟩
theorem cd_X12_asks : Cond.code yX12_asks cX12_asks 5 (some .int) ∈ Tw := in_Tw (List.mem_of_getElem? (i := 1485) (by decide +kernel)) rfl
theorem nm_X12_asks : Nms yX12_asks 0 := ⟨by decide, by decide, by decide +kernel⟩
theorem im_X12_asks : Cond.instanceMethod yX12_asks ∈ Tw := in_Tw (List.mem_of_getElem? (i := 1484) (by decide +kernel)) rfl
theorem se_X12_asks : Cond.selects yX12_asks.cls yX12_asks yX12_asks ∈ Tw := in_Tw (List.mem_of_getElem? (i := 118) (by decide +kernel)) rfl
theorem cf_X12_201 : CfV RX12 201 yX12_asks cX12_asks 5 (some .int) 0 := ⟨im_X12_asks, se_X12_asks, Or.inl (in_Tw (List.mem_of_getElem? (i := 1482) (by decide +kernel)) rfl), cd_X12_asks, ini_X12, nm_X12_asks⟩
theorem cd_X12_figure : Cond.code yX12_figure cX12_figure 3 (some .int) ∈ Tw := in_Tw (List.mem_of_getElem? (i := 1426) (by decide +kernel)) rfl
theorem nm_X12_figure : Nms yX12_figure 2 := ⟨by decide, by decide, by decide +kernel⟩
theorem im_X12_figure : Cond.instanceMethod yX12_figure ∈ Tw := in_Tw (List.mem_of_getElem? (i := 1425) (by decide +kernel)) rfl
theorem se_X12_figure : Cond.selects yX12_figure.cls yX12_figure yX12_figure ∈ Tw := in_Tw (List.mem_of_getElem? (i := 105) (by decide +kernel)) rfl
theorem cf_X12_206 : CfV RX12 206 yX12_figure cX12_figure 3 (some .int) 2 := ⟨im_X12_figure, se_X12_figure, Or.inl (in_Tw (List.mem_of_getElem? (i := 1423) (by decide +kernel)) rfl), cd_X12_figure, ini_X12, nm_X12_figure⟩
theorem cd_X12_sortOf : Cond.code yX12_sortOf cX12_sortOf 1 (some .int) ∈ Tw := in_Tw (List.mem_of_getElem? (i := 1408) (by decide +kernel)) rfl
theorem nm_X12_sortOf : Nms yX12_sortOf 0 := ⟨by decide, by decide, by decide +kernel⟩
theorem im_X12_sortOf : Cond.instanceMethod yX12_sortOf ∈ Tw := in_Tw (List.mem_of_getElem? (i := 1407) (by decide +kernel)) rfl
theorem se_X12_sortOf : Cond.selects yX12_sortOf.cls yX12_sortOf yX12_sortOf ∈ Tw := in_Tw (List.mem_of_getElem? (i := 102) (by decide +kernel)) rfl
theorem cf_X12_212 : CfV RX12 212 yX12_sortOf cX12_sortOf 1 (some .int) 0 := ⟨im_X12_sortOf, se_X12_sortOf, Or.inl (in_Tw (List.mem_of_getElem? (i := 1405) (by decide +kernel)) rfl), cd_X12_sortOf, ini_X12, nm_X12_sortOf⟩
theorem cd_X12_lent : Cond.code yX12_lent cX12_lent 3 (some .int) ∈ Tw := in_Tw (List.mem_of_getElem? (i := 1422) (by decide +kernel)) rfl
theorem nm_X12_lent : Nms yX12_lent 1 := ⟨by decide, by decide, by decide +kernel⟩
theorem im_X12_lent : Cond.instanceMethod yX12_lent ∈ Tw := in_Tw (List.mem_of_getElem? (i := 1421) (by decide +kernel)) rfl
theorem se_X12_lent : Cond.selects yX12_lent.cls yX12_lent yX12_lent ∈ Tw := in_Tw (List.mem_of_getElem? (i := 104) (by decide +kernel)) rfl
theorem cf_X12_218 : CfV RX12 218 yX12_lent cX12_lent 3 (some .int) 1 := ⟨im_X12_lent, se_X12_lent, Or.inl (in_Tw (List.mem_of_getElem? (i := 1419) (by decide +kernel)) rfl), cd_X12_lent, ini_X12, nm_X12_lent⟩
theorem cd_X12_either : Cond.code yX12_either cX12_either 6 (some .int) ∈ Tw := in_Tw (List.mem_of_getElem? (i := 1481) (by decide +kernel)) rfl
theorem nm_X12_either : Nms yX12_either 0 := ⟨by decide, by decide, by decide +kernel⟩
theorem im_X12_either : Cond.instanceMethod yX12_either ∈ Tw := in_Tw (List.mem_of_getElem? (i := 1480) (by decide +kernel)) rfl
theorem se_X12_either : Cond.selects yX12_either.cls yX12_either yX12_either ∈ Tw := in_Tw (List.mem_of_getElem? (i := 117) (by decide +kernel)) rfl
theorem cf_X12_221 : CfV RX12 221 yX12_either cX12_either 6 (some .int) 0 := ⟨im_X12_either, se_X12_either, Or.inl (in_Tw (List.mem_of_getElem? (i := 1478) (by decide +kernel)) rfl), cd_X12_either, ini_X12, nm_X12_either⟩
theorem cd_X12_clause : Cond.code yX12_clause cX12_clause 6 (some .int) ∈ Tw := in_Tw (List.mem_of_getElem? (i := 1404) (by decide +kernel)) rfl
theorem nm_X12_clause : Nms yX12_clause 0 := ⟨by decide, by decide, by decide +kernel⟩
theorem im_X12_clause : Cond.instanceMethod yX12_clause ∈ Tw := in_Tw (List.mem_of_getElem? (i := 1403) (by decide +kernel)) rfl
theorem se_X12_clause : Cond.selects yX12_clause.cls yX12_clause yX12_clause ∈ Tw := in_Tw (List.mem_of_getElem? (i := 101) (by decide +kernel)) rfl
theorem cf_X12_224 : CfV RX12 224 yX12_clause cX12_clause 6 (some .int) 0 := ⟨im_X12_clause, se_X12_clause, Or.inl (in_Tw (List.mem_of_getElem? (i := 1401) (by decide +kernel)) rfl), cd_X12_clause, ini_X12, nm_X12_clause⟩
theorem cd_X12_readText : Cond.code yX12_readText cX12_readText 2 (some .int) ∈ Tw := in_Tw (List.mem_of_getElem? (i := 1385) (by decide +kernel)) rfl
theorem nm_X12_readText : Nms yX12_readText 0 := ⟨by decide, by decide, by decide +kernel⟩
theorem im_X12_readText : Cond.instanceMethod yX12_readText ∈ Tw := in_Tw (List.mem_of_getElem? (i := 1384) (by decide +kernel)) rfl
theorem se_X12_readText : Cond.selects yX12_readText.cls yX12_readText yX12_readText ∈ Tw := in_Tw (List.mem_of_getElem? (i := 98) (by decide +kernel)) rfl
theorem cf_X12_227 : CfV RX12 227 yX12_readText cX12_readText 2 (some .int) 0 := ⟨im_X12_readText, se_X12_readText, Or.inl (in_Tw (List.mem_of_getElem? (i := 1382) (by decide +kernel)) rfl), cd_X12_readText, ini_X12, nm_X12_readText⟩
theorem cd_X12_clip : Cond.code yX12_clip cX12_clip 2 (some .long) ∈ Tw := in_Tw (List.mem_of_getElem? (i := 1547) (by decide +kernel)) rfl
theorem nm_X12_clip : Nms yX12_clip 1 := ⟨by decide, by decide, by decide +kernel⟩
theorem st_X12_clip : Cond.static yX12_clip ∈ Tw := in_Tw (List.mem_of_getElem? (i := 1546) (by decide +kernel)) rfl
theorem cf_X12_234 : CfS RX12 234 yX12_clip cX12_clip 2 (some .long) 1 := ⟨st_X12_clip, in_Tw (List.mem_of_getElem? (i := 1545) (by decide +kernel)) rfl, cd_X12_clip, ini_X12, nm_X12_clip⟩
theorem cd_X12_two : Cond.code yX12_two cX12_two 5 (some .long) ∈ Tw := in_Tw (List.mem_of_getElem? (i := 1544) (by decide +kernel)) rfl
theorem nm_X12_two : Nms yX12_two 3 := ⟨by decide, by decide, by decide +kernel⟩
theorem st_X12_two : Cond.static yX12_two ∈ Tw := in_Tw (List.mem_of_getElem? (i := 1543) (by decide +kernel)) rfl
theorem cf_X12_238 : CfS RX12 238 yX12_two cX12_two 5 (some .long) 3 := ⟨st_X12_two, in_Tw (List.mem_of_getElem? (i := 1542) (by decide +kernel)) rfl, cd_X12_two, ini_X12, nm_X12_two⟩
theorem cd_X12_isAsked : Cond.code yX12_isAsked cX12_isAsked 5 (some .boolean) ∈ Tw := in_Tw (List.mem_of_getElem? (i := 1552) (by decide +kernel)) rfl
theorem nm_X12_isAsked : Nms yX12_isAsked 3 := ⟨by decide, by decide, by decide +kernel⟩
theorem st_X12_isAsked : Cond.static yX12_isAsked ∈ Tw := in_Tw (List.mem_of_getElem? (i := 1551) (by decide +kernel)) rfl
theorem cf_X12_242 : CfS RX12 242 yX12_isAsked cX12_isAsked 5 (some .boolean) 3 := ⟨st_X12_isAsked, in_Tw (List.mem_of_getElem? (i := 1550) (by decide +kernel)) rfl, cd_X12_isAsked, ini_X12, nm_X12_isAsked⟩
theorem cd_X12_name : Cond.code yX12_name cX12_name 3 none ∈ Tw := in_Tw (List.mem_of_getElem? (i := 1537) (by decide +kernel)) rfl
theorem nm_X12_name : Nms yX12_name 1 := ⟨by decide, by decide, by decide +kernel⟩
theorem im_X12_name : Cond.instanceMethod yX12_name ∈ Tw := in_Tw (List.mem_of_getElem? (i := 1536) (by decide +kernel)) rfl
theorem se_X12_name : Cond.selects yX12_name.cls yX12_name yX12_name ∈ Tw := in_Tw (List.mem_of_getElem? (i := 126) (by decide +kernel)) rfl
theorem cf_X12_246 : CfV RX12 246 yX12_name cX12_name 3 none 1 := ⟨im_X12_name, se_X12_name, Or.inl (in_Tw (List.mem_of_getElem? (i := 1534) (by decide +kernel)) rfl), cd_X12_name, ini_X12, nm_X12_name⟩
theorem cd_X12_has : Cond.code yX12_has cX12_has 2 (some .boolean) ∈ Tw := in_Tw (List.mem_of_getElem? (i := 1509) (by decide +kernel)) rfl
theorem nm_X12_has : Nms yX12_has 2 := ⟨by decide, by decide, by decide +kernel⟩
theorem st_X12_has : Cond.static yX12_has ∈ Tw := in_Tw (List.mem_of_getElem? (i := 1508) (by decide +kernel)) rfl
theorem cf_X12_249 : CfS RX12 249 yX12_has cX12_has 2 (some .boolean) 2 := ⟨st_X12_has, in_Tw (List.mem_of_getElem? (i := 1507) (by decide +kernel)) rfl, cd_X12_has, ini_X12, nm_X12_has⟩
theorem cd_X12_isBorne : Cond.code yX12_isBorne cX12_isBorne 3 (some .boolean) ∈ Tw := in_Tw (List.mem_of_getElem? (i := 1513) (by decide +kernel)) rfl
theorem nm_X12_isBorne : Nms yX12_isBorne 2 := ⟨by decide, by decide, by decide +kernel⟩
theorem im_X12_isBorne : Cond.instanceMethod yX12_isBorne ∈ Tw := in_Tw (List.mem_of_getElem? (i := 1512) (by decide +kernel)) rfl
theorem se_X12_isBorne : Cond.selects yX12_isBorne.cls yX12_isBorne yX12_isBorne ∈ Tw := in_Tw (List.mem_of_getElem? (i := 121) (by decide +kernel)) rfl
theorem cf_X12_253 : CfV RX12 253 yX12_isBorne cX12_isBorne 3 (some .boolean) 2 := ⟨im_X12_isBorne, se_X12_isBorne, Or.inl (in_Tw (List.mem_of_getElem? (i := 1510) (by decide +kernel)) rfl), cd_X12_isBorne, ini_X12, nm_X12_isBorne⟩
theorem cd_X12_standing : Cond.code yX12_standing cX12_standing 3 (some .boolean) ∈ Tw := in_Tw (List.mem_of_getElem? (i := 1506) (by decide +kernel)) rfl
theorem nm_X12_standing : Nms yX12_standing 1 := ⟨by decide, by decide, by decide +kernel⟩
theorem im_X12_standing : Cond.instanceMethod yX12_standing ∈ Tw := in_Tw (List.mem_of_getElem? (i := 1505) (by decide +kernel)) rfl
theorem se_X12_standing : Cond.selects yX12_standing.cls yX12_standing yX12_standing ∈ Tw := in_Tw (List.mem_of_getElem? (i := 120) (by decide +kernel)) rfl
theorem cf_X12_256 : CfV RX12 256 yX12_standing cX12_standing 3 (some .boolean) 1 := ⟨im_X12_standing, se_X12_standing, Or.inl (in_Tw (List.mem_of_getElem? (i := 1503) (by decide +kernel)) rfl), cd_X12_standing, ini_X12, nm_X12_standing⟩
theorem cd_X12_clauseOf : Cond.code yX12_clauseOf cX12_clauseOf 3 (some .int) ∈ Tw := in_Tw (List.mem_of_getElem? (i := 1529) (by decide +kernel)) rfl
theorem nm_X12_clauseOf : Nms yX12_clauseOf 1 := ⟨by decide, by decide, by decide +kernel⟩
theorem im_X12_clauseOf : Cond.instanceMethod yX12_clauseOf ∈ Tw := in_Tw (List.mem_of_getElem? (i := 1528) (by decide +kernel)) rfl
theorem se_X12_clauseOf : Cond.selects yX12_clauseOf.cls yX12_clauseOf yX12_clauseOf ∈ Tw := in_Tw (List.mem_of_getElem? (i := 124) (by decide +kernel)) rfl
theorem cf_X12_259 : CfV RX12 259 yX12_clauseOf cX12_clauseOf 3 (some .int) 1 := ⟨im_X12_clauseOf, se_X12_clauseOf, Or.inl (in_Tw (List.mem_of_getElem? (i := 1526) (by decide +kernel)) rfl), cd_X12_clauseOf, ini_X12, nm_X12_clauseOf⟩
theorem cd_X12_nameUpon : Cond.code yX12_nameUpon cX12_nameUpon 4 none ∈ Tw := in_Tw (List.mem_of_getElem? (i := 1533) (by decide +kernel)) rfl
theorem nm_X12_nameUpon : Nms yX12_nameUpon 2 := ⟨by decide, by decide, by decide +kernel⟩
theorem im_X12_nameUpon : Cond.instanceMethod yX12_nameUpon ∈ Tw := in_Tw (List.mem_of_getElem? (i := 1532) (by decide +kernel)) rfl
theorem se_X12_nameUpon : Cond.selects yX12_nameUpon.cls yX12_nameUpon yX12_nameUpon ∈ Tw := in_Tw (List.mem_of_getElem? (i := 125) (by decide +kernel)) rfl
theorem cf_X12_262 : CfV RX12 262 yX12_nameUpon cX12_nameUpon 4 none 2 := ⟨im_X12_nameUpon, se_X12_nameUpon, Or.inl (in_Tw (List.mem_of_getElem? (i := 1530) (by decide +kernel)) rfl), cd_X12_nameUpon, ini_X12, nm_X12_nameUpon⟩
theorem cd_X12_work : Cond.code yX12_work cX12_work 9 none ∈ Tw := in_Tw (List.mem_of_getElem? (i := 1541) (by decide +kernel)) rfl
theorem nm_X12_work : Nms yX12_work 1 := ⟨by decide, by decide, by decide +kernel⟩
theorem im_X12_work : Cond.instanceMethod yX12_work ∈ Tw := in_Tw (List.mem_of_getElem? (i := 1540) (by decide +kernel)) rfl
theorem se_X12_work : Cond.selects yX12_work.cls yX12_work yX12_work ∈ Tw := in_Tw (List.mem_of_getElem? (i := 127) (by decide +kernel)) rfl
theorem cf_X12_265 : CfV RX12 265 yX12_work cX12_work 9 none 1 := ⟨im_X12_work, se_X12_work, Or.inl (in_Tw (List.mem_of_getElem? (i := 1538) (by decide +kernel)) rfl), cd_X12_work, ini_X12, nm_X12_work⟩
theorem cd_X12_held : Cond.code yX12_held cX12_held 4 (some .int) ∈ Tw := in_Tw (List.mem_of_getElem? (i := 1559) (by decide +kernel)) rfl
theorem nm_X12_held : Nms yX12_held 3 := ⟨by decide, by decide, by decide +kernel⟩
theorem st_X12_held : Cond.static yX12_held ∈ Tw := in_Tw (List.mem_of_getElem? (i := 1558) (by decide +kernel)) rfl
theorem cf_X12_268 : CfS RX12 268 yX12_held cX12_held 4 (some .int) 3 := ⟨st_X12_held, in_Tw (List.mem_of_getElem? (i := 1557) (by decide +kernel)) rfl, cd_X12_held, ini_X12, nm_X12_held⟩
theorem cd_X12_isStone : Cond.code yX12_isStone cX12_isStone 2 (some .boolean) ∈ Tw := in_Tw (List.mem_of_getElem? (i := 1521) (by decide +kernel)) rfl
theorem nm_X12_isStone : Nms yX12_isStone 1 := ⟨by decide, by decide, by decide +kernel⟩
theorem im_X12_isStone : Cond.instanceMethod yX12_isStone ∈ Tw := in_Tw (List.mem_of_getElem? (i := 1520) (by decide +kernel)) rfl
theorem se_X12_isStone : Cond.selects yX12_isStone.cls yX12_isStone yX12_isStone ∈ Tw := in_Tw (List.mem_of_getElem? (i := 122) (by decide +kernel)) rfl
theorem cf_X12_272 : CfV RX12 272 yX12_isStone cX12_isStone 2 (some .boolean) 1 := ⟨im_X12_isStone, se_X12_isStone, Or.inl (in_Tw (List.mem_of_getElem? (i := 1518) (by decide +kernel)) rfl), cd_X12_isStone, ini_X12, nm_X12_isStone⟩
theorem cd_X12_may : Cond.code yX12_may cX12_may 4 (some .boolean) ∈ Tw := in_Tw (List.mem_of_getElem? (i := 1525) (by decide +kernel)) rfl
theorem nm_X12_may : Nms yX12_may 2 := ⟨by decide, by decide, by decide +kernel⟩
theorem im_X12_may : Cond.instanceMethod yX12_may ∈ Tw := in_Tw (List.mem_of_getElem? (i := 1524) (by decide +kernel)) rfl
theorem se_X12_may : Cond.selects yX12_may.cls yX12_may yX12_may ∈ Tw := in_Tw (List.mem_of_getElem? (i := 123) (by decide +kernel)) rfl
theorem cf_X12_275 : CfV RX12 275 yX12_may cX12_may 4 (some .boolean) 2 := ⟨im_X12_may, se_X12_may, Or.inl (in_Tw (List.mem_of_getElem? (i := 1522) (by decide +kernel)) rfl), cd_X12_may, ini_X12, nm_X12_may⟩
theorem cd_X12_lift : Cond.code yX12_lift cX12_lift 4 (some .int) ∈ Tw := in_Tw (List.mem_of_getElem? (i := 1556) (by decide +kernel)) rfl
theorem nm_X12_lift : Nms yX12_lift 2 := ⟨by decide, by decide, by decide +kernel⟩
theorem im_X12_lift : Cond.instanceMethod yX12_lift ∈ Tw := in_Tw (List.mem_of_getElem? (i := 1555) (by decide +kernel)) rfl
theorem se_X12_lift : Cond.selects yX12_lift.cls yX12_lift yX12_lift ∈ Tw := in_Tw (List.mem_of_getElem? (i := 128) (by decide +kernel)) rfl
theorem cf_X12_278 : CfV RX12 278 yX12_lift cX12_lift 4 (some .int) 2 := ⟨im_X12_lift, se_X12_lift, Or.inl (in_Tw (List.mem_of_getElem? (i := 1553) (by decide +kernel)) rfl), cd_X12_lift, ini_X12, nm_X12_lift⟩
theorem cd_X12_quarries : Cond.code yX12_quarries cX12_quarries 6 (some .int) ∈ Tw := in_Tw (List.mem_of_getElem? (i := 1563) (by decide +kernel)) rfl
theorem nm_X12_quarries : Nms yX12_quarries 1 := ⟨by decide, by decide, by decide +kernel⟩
theorem im_X12_quarries : Cond.instanceMethod yX12_quarries ∈ Tw := in_Tw (List.mem_of_getElem? (i := 1562) (by decide +kernel)) rfl
theorem se_X12_quarries : Cond.selects yX12_quarries.cls yX12_quarries yX12_quarries ∈ Tw := in_Tw (List.mem_of_getElem? (i := 129) (by decide +kernel)) rfl
theorem cf_X12_281 : CfV RX12 281 yX12_quarries cX12_quarries 6 (some .int) 1 := ⟨im_X12_quarries, se_X12_quarries, Or.inl (in_Tw (List.mem_of_getElem? (i := 1560) (by decide +kernel)) rfl), cd_X12_quarries, ini_X12, nm_X12_quarries⟩
theorem cd_X12_keep : Cond.code yX12_keep cX12_keep 3 none ∈ Tw := in_Tw (List.mem_of_getElem? (i := 1575) (by decide +kernel)) rfl
theorem nm_X12_keep : Nms yX12_keep 0 := ⟨by decide, by decide, by decide +kernel⟩
theorem im_X12_keep : Cond.instanceMethod yX12_keep ∈ Tw := in_Tw (List.mem_of_getElem? (i := 1574) (by decide +kernel)) rfl
theorem se_X12_keep : Cond.selects yX12_keep.cls yX12_keep yX12_keep ∈ Tw := in_Tw (List.mem_of_getElem? (i := 130) (by decide +kernel)) rfl
theorem cf_X12_284 : CfV RX12 284 yX12_keep cX12_keep 3 none 0 := ⟨im_X12_keep, se_X12_keep, Or.inl (in_Tw (List.mem_of_getElem? (i := 1572) (by decide +kernel)) rfl), cd_X12_keep, ini_X12, nm_X12_keep⟩
theorem cd_X12_canLend : Cond.code yX12_canLend cX12_canLend 3 (some .boolean) ∈ Tw := in_Tw (List.mem_of_getElem? (i := 1587) (by decide +kernel)) rfl
theorem nm_X12_canLend : Nms yX12_canLend 2 := ⟨by decide, by decide, by decide +kernel⟩
theorem im_X12_canLend : Cond.instanceMethod yX12_canLend ∈ Tw := in_Tw (List.mem_of_getElem? (i := 1586) (by decide +kernel)) rfl
theorem se_X12_canLend : Cond.selects yX12_canLend.cls yX12_canLend yX12_canLend ∈ Tw := in_Tw (List.mem_of_getElem? (i := 131) (by decide +kernel)) rfl
theorem cf_X12_287 : CfV RX12 287 yX12_canLend cX12_canLend 3 (some .boolean) 2 := ⟨im_X12_canLend, se_X12_canLend, Or.inl (in_Tw (List.mem_of_getElem? (i := 1584) (by decide +kernel)) rfl), cd_X12_canLend, ini_X12, nm_X12_canLend⟩
theorem cd_X12_lends : Cond.code yX12_lends cX12_lends 3 none ∈ Tw := in_Tw (List.mem_of_getElem? (i := 1591) (by decide +kernel)) rfl
theorem nm_X12_lends : Nms yX12_lends 2 := ⟨by decide, by decide, by decide +kernel⟩
theorem im_X12_lends : Cond.instanceMethod yX12_lends ∈ Tw := in_Tw (List.mem_of_getElem? (i := 1590) (by decide +kernel)) rfl
theorem se_X12_lends : Cond.selects yX12_lends.cls yX12_lends yX12_lends ∈ Tw := in_Tw (List.mem_of_getElem? (i := 132) (by decide +kernel)) rfl
theorem cf_X12_290 : CfV RX12 290 yX12_lends cX12_lends 3 none 2 := ⟨im_X12_lends, se_X12_lends, Or.inl (in_Tw (List.mem_of_getElem? (i := 1588) (by decide +kernel)) rfl), cd_X12_lends, ini_X12, nm_X12_lends⟩
theorem cf_X12_293 : CfV RX12 293 yX12_lay cX12_lay 3 (some .int) 1 := ⟨im_X12_lay, se_X12_lay, Or.inl (in_Tw (List.mem_of_getElem? (i := 1600) (by decide +kernel)) rfl), cd_X12_lay, ini_X12, nm_X12_lay⟩
theorem cf_X12_296 : CfV RX12 296 yX12_out cX12_out 2 (some .int) 1 := ⟨im_X12_out, se_X12_out, Or.inl (in_Tw (List.mem_of_getElem? (i := 1601) (by decide +kernel)) rfl), cd_X12_out, ini_X12, nm_X12_out⟩
theorem cf_X12_299 : CfV RX12 299 yX12_lend cX12_lend 3 (some .int) 2 := ⟨im_X12_lend, se_X12_lend, Or.inl (in_Tw (List.mem_of_getElem? (i := 1602) (by decide +kernel)) rfl), cd_X12_lend, ini_X12, nm_X12_lend⟩
theorem cd_X12_isPlayed : Cond.code yX12_isPlayed cX12_isPlayed 2 (some .boolean) ∈ Tw := in_Tw (List.mem_of_getElem? (i := 1599) (by decide +kernel)) rfl
theorem nm_X12_isPlayed : Nms yX12_isPlayed 1 := ⟨by decide, by decide, by decide +kernel⟩
theorem im_X12_isPlayed : Cond.instanceMethod yX12_isPlayed ∈ Tw := in_Tw (List.mem_of_getElem? (i := 1598) (by decide +kernel)) rfl
theorem se_X12_isPlayed : Cond.selects yX12_isPlayed.cls yX12_isPlayed yX12_isPlayed ∈ Tw := in_Tw (List.mem_of_getElem? (i := 133) (by decide +kernel)) rfl
theorem cf_X12_302 : CfV RX12 302 yX12_isPlayed cX12_isPlayed 2 (some .boolean) 1 := ⟨im_X12_isPlayed, se_X12_isPlayed, Or.inl (in_Tw (List.mem_of_getElem? (i := 1596) (by decide +kernel)) rfl), cd_X12_isPlayed, ini_X12, nm_X12_isPlayed⟩
theorem cd_X12_findSought : Cond.code yX12_findSought cX12_findSought 3 none ∈ Tw := in_Tw (List.mem_of_getElem? (i := 1614) (by decide +kernel)) rfl
theorem nm_X12_findSought : Nms yX12_findSought 0 := ⟨by decide, by decide, by decide +kernel⟩
theorem im_X12_findSought : Cond.instanceMethod yX12_findSought ∈ Tw := in_Tw (List.mem_of_getElem? (i := 1613) (by decide +kernel)) rfl
theorem se_X12_findSought : Cond.selects yX12_findSought.cls yX12_findSought yX12_findSought ∈ Tw := in_Tw (List.mem_of_getElem? (i := 135) (by decide +kernel)) rfl
theorem cf_X12_308 : CfV RX12 308 yX12_findSought cX12_findSought 3 none 0 := ⟨im_X12_findSought, se_X12_findSought, Or.inl (in_Tw (List.mem_of_getElem? (i := 1611) (by decide +kernel)) rfl), cd_X12_findSought, ini_X12, nm_X12_findSought⟩
theorem cd_X12_findLeft : Cond.code yX12_findLeft cX12_findLeft 4 none ∈ Tw := in_Tw (List.mem_of_getElem? (i := 1610) (by decide +kernel)) rfl
theorem nm_X12_findLeft : Nms yX12_findLeft 0 := ⟨by decide, by decide, by decide +kernel⟩
theorem im_X12_findLeft : Cond.instanceMethod yX12_findLeft ∈ Tw := in_Tw (List.mem_of_getElem? (i := 1609) (by decide +kernel)) rfl
theorem se_X12_findLeft : Cond.selects yX12_findLeft.cls yX12_findLeft yX12_findLeft ∈ Tw := in_Tw (List.mem_of_getElem? (i := 134) (by decide +kernel)) rfl
theorem cf_X12_312 : CfV RX12 312 yX12_findLeft cX12_findLeft 4 none 0 := ⟨im_X12_findLeft, se_X12_findLeft, Or.inl (in_Tw (List.mem_of_getElem? (i := 1607) (by decide +kernel)) rfl), cd_X12_findLeft, ini_X12, nm_X12_findLeft⟩
theorem cd_X12_count : Cond.code yX12_count cX12_count 7 none ∈ Tw := in_Tw (List.mem_of_getElem? (i := 1623) (by decide +kernel)) rfl
theorem nm_X12_count : Nms yX12_count 2 := ⟨by decide, by decide, by decide +kernel⟩
theorem im_X12_count : Cond.instanceMethod yX12_count ∈ Tw := in_Tw (List.mem_of_getElem? (i := 1622) (by decide +kernel)) rfl
theorem se_X12_count : Cond.selects yX12_count.cls yX12_count yX12_count ∈ Tw := in_Tw (List.mem_of_getElem? (i := 136) (by decide +kernel)) rfl
theorem cf_X12_315 : CfV RX12 315 yX12_count cX12_count 7 none 2 := ⟨im_X12_count, se_X12_count, Or.inl (in_Tw (List.mem_of_getElem? (i := 1620) (by decide +kernel)) rfl), cd_X12_count, ini_X12, nm_X12_count⟩
theorem cd_X12_findFar : Cond.code yX12_findFar cX12_findFar 5 none ∈ Tw := in_Tw (List.mem_of_getElem? (i := 1652) (by decide +kernel)) rfl
theorem nm_X12_findFar : Nms yX12_findFar 1 := ⟨by decide, by decide, by decide +kernel⟩
theorem im_X12_findFar : Cond.instanceMethod yX12_findFar ∈ Tw := in_Tw (List.mem_of_getElem? (i := 1651) (by decide +kernel)) rfl
theorem se_X12_findFar : Cond.selects yX12_findFar.cls yX12_findFar yX12_findFar ∈ Tw := in_Tw (List.mem_of_getElem? (i := 137) (by decide +kernel)) rfl
theorem cf_X12_321 : CfV RX12 321 yX12_findFar cX12_findFar 5 none 1 := ⟨im_X12_findFar, se_X12_findFar, Or.inl (in_Tw (List.mem_of_getElem? (i := 1649) (by decide +kernel)) rfl), cd_X12_findFar, ini_X12, nm_X12_findFar⟩
theorem cd_X12_draw : Cond.code yX12_draw cX12_draw 3 (some .int) ∈ Tw := in_Tw (List.mem_of_getElem? (i := 1664) (by decide +kernel)) rfl
theorem nm_X12_draw : Nms yX12_draw 1 := ⟨by decide, by decide, by decide +kernel⟩
theorem im_X12_draw : Cond.instanceMethod yX12_draw ∈ Tw := in_Tw (List.mem_of_getElem? (i := 1663) (by decide +kernel)) rfl
theorem se_X12_draw : Cond.selects yX12_draw.cls yX12_draw yX12_draw ∈ Tw := in_Tw (List.mem_of_getElem? (i := 138) (by decide +kernel)) rfl
theorem cf_X12_333 : CfV RX12 333 yX12_draw cX12_draw 3 (some .int) 1 := ⟨im_X12_draw, se_X12_draw, Or.inl (in_Tw (List.mem_of_getElem? (i := 1661) (by decide +kernel)) rfl), cd_X12_draw, ini_X12, nm_X12_draw⟩
theorem cd_J0_coder_7d493 : Cond.code yJ0_coder_7d493 cJ0_coder_7d493 1 (some .byte) ∈ Tw := in_Tw (List.mem_of_getElem? (i := 650) (by decide +kernel)) rfl
theorem nm_J0_coder_7d493 : Nms yJ0_coder_7d493 0 := ⟨by decide, by decide, by decide +kernel⟩
theorem im_J0_coder_7d493 : Cond.instanceMethod yJ0_coder_7d493 ∈ Tw := in_Tw (List.mem_of_getElem? (i := 648) (by decide +kernel)) rfl
theorem se_J0_coder_7d493 : Cond.selects yJ0_coder_7d493.cls yJ0_coder_7d493 yJ0_coder_7d493 ∈ Tw := in_Tw (List.mem_of_getElem? (i := 649) (by decide +kernel)) rfl
theorem cf_J0_335 : CfV RJ0 335 yJ0_coder_7d493 cJ0_coder_7d493 1 (some .byte) 0 := ⟨im_J0_coder_7d493, se_J0_coder_7d493, Or.inl (in_Tw (List.mem_of_getElem? (i := 647) (by decide +kernel)) rfl), cd_J0_coder_7d493, ini_J0, nm_J0_coder_7d493⟩
theorem cd_J0_isLatin1_aae02 : Cond.code yJ0_isLatin1_aae02 cJ0_isLatin1_aae02 1 (some .boolean) ∈ Tw := in_Tw (List.mem_of_getElem? (i := 660) (by decide +kernel)) rfl
theorem nm_J0_isLatin1_aae02 : Nms yJ0_isLatin1_aae02 0 := ⟨by decide, by decide, by decide +kernel⟩
theorem im_J0_isLatin1_aae02 : Cond.instanceMethod yJ0_isLatin1_aae02 ∈ Tw := in_Tw (List.mem_of_getElem? (i := 658) (by decide +kernel)) rfl
theorem se_J0_isLatin1_aae02 : Cond.selects yJ0_isLatin1_aae02.cls yJ0_isLatin1_aae02 yJ0_isLatin1_aae02 ∈ Tw := in_Tw (List.mem_of_getElem? (i := 659) (by decide +kernel)) rfl
theorem cf_J0_492 : CfV RJ0 492 yJ0_isLatin1_aae02 cJ0_isLatin1_aae02 1 (some .boolean) 0 := ⟨im_J0_isLatin1_aae02, se_J0_isLatin1_aae02, Or.inl (in_Tw (List.mem_of_getElem? (i := 657) (by decide +kernel)) rfl), cd_J0_isLatin1_aae02, ini_J0, nm_J0_isLatin1_aae02⟩
theorem cd_J1_charAt_3b067 : Cond.code yJ1_charAt_3b067 cJ1_charAt_3b067 2 (some .char) ∈ Tw := in_Tw (List.mem_of_getElem? (i := 663) (by decide +kernel)) rfl
theorem ini_J1 : Cond.initialized RJ1 ∈ Tw := in_Tw (List.mem_of_getElem? (i := 155) (by decide +kernel)) rfl
theorem nm_J1_charAt_3b067 : Nms yJ1_charAt_3b067 2 := ⟨by decide, by decide, by decide +kernel⟩
theorem st_J1_charAt_3b067 : Cond.static yJ1_charAt_3b067 ∈ Tw := in_Tw (List.mem_of_getElem? (i := 662) (by decide +kernel)) rfl
theorem cf_J0_495 : CfS RJ0 495 yJ1_charAt_3b067 cJ1_charAt_3b067 2 (some .char) 2 := ⟨st_J1_charAt_3b067, in_Tw (List.mem_of_getElem? (i := 661) (by decide +kernel)) rfl, cd_J1_charAt_3b067, ini_J1, nm_J1_charAt_3b067⟩
theorem cd_J2_charAt_3b067 : Cond.code yJ2_charAt_3b067 cJ2_charAt_3b067 2 (some .char) ∈ Tw := in_Tw (List.mem_of_getElem? (i := 674) (by decide +kernel)) rfl
theorem ini_J2 : Cond.initialized RJ2 ∈ Tw := in_Tw (List.mem_of_getElem? (i := 157) (by decide +kernel)) rfl
theorem nm_J2_charAt_3b067 : Nms yJ2_charAt_3b067 2 := ⟨by decide, by decide, by decide +kernel⟩
theorem st_J2_charAt_3b067 : Cond.static yJ2_charAt_3b067 ∈ Tw := in_Tw (List.mem_of_getElem? (i := 673) (by decide +kernel)) rfl
theorem cf_J0_498 : CfS RJ0 498 yJ2_charAt_3b067 cJ2_charAt_3b067 2 (some .char) 2 := ⟨st_J2_charAt_3b067, in_Tw (List.mem_of_getElem? (i := 672) (by decide +kernel)) rfl, cd_J2_charAt_3b067, ini_J2, nm_J2_charAt_3b067⟩
theorem cf_J0_505 : CfV RJ0 505 yJ0_length_8abf5 cJ0_length_8abf5 1 (some .int) 0 := ⟨im_J0_length_8abf5, se_J0_length_8abf5, Or.inl (in_Tw (List.mem_of_getElem? (i := 715) (by decide +kernel)) rfl), cd_J0_length_8abf5, ini_J0, nm_J0_length_8abf5⟩
theorem cd_J0_indexOf_7cf53 : Cond.code yJ0_indexOf_7cf53 cJ0_indexOf_7cf53 3 (some .int) ∈ Tw := in_Tw (List.mem_of_getElem? (i := 714) (by decide +kernel)) rfl
theorem nm_J0_indexOf_7cf53 : Nms yJ0_indexOf_7cf53 2 := ⟨by decide, by decide, by decide +kernel⟩
theorem im_J0_indexOf_7cf53 : Cond.instanceMethod yJ0_indexOf_7cf53 ∈ Tw := in_Tw (List.mem_of_getElem? (i := 712) (by decide +kernel)) rfl
theorem se_J0_indexOf_7cf53 : Cond.selects yJ0_indexOf_7cf53.cls yJ0_indexOf_7cf53 yJ0_indexOf_7cf53 ∈ Tw := in_Tw (List.mem_of_getElem? (i := 713) (by decide +kernel)) rfl
theorem cf_J0_633 : CfV RJ0 633 yJ0_indexOf_7cf53 cJ0_indexOf_7cf53 3 (some .int) 2 := ⟨im_J0_indexOf_7cf53, se_J0_indexOf_7cf53, Or.inl (in_Tw (List.mem_of_getElem? (i := 711) (by decide +kernel)) rfl), cd_J0_indexOf_7cf53, ini_J0, nm_J0_indexOf_7cf53⟩
theorem cd_J1_indexOf_4cfef : Cond.code yJ1_indexOf_4cfef cJ1_indexOf_4cfef 4 (some .int) ∈ Tw := in_Tw (List.mem_of_getElem? (i := 718) (by decide +kernel)) rfl
theorem nm_J1_indexOf_4cfef : Nms yJ1_indexOf_4cfef 4 := ⟨by decide, by decide, by decide +kernel⟩
theorem st_J1_indexOf_4cfef : Cond.static yJ1_indexOf_4cfef ∈ Tw := in_Tw (List.mem_of_getElem? (i := 717) (by decide +kernel)) rfl
theorem cf_J0_637 : CfS RJ0 637 yJ1_indexOf_4cfef cJ1_indexOf_4cfef 4 (some .int) 4 := ⟨st_J1_indexOf_4cfef, in_Tw (List.mem_of_getElem? (i := 716) (by decide +kernel)) rfl, cd_J1_indexOf_4cfef, ini_J1, nm_J1_indexOf_4cfef⟩
theorem cd_J2_indexOf_4cfef : Cond.code yJ2_indexOf_4cfef cJ2_indexOf_4cfef 4 (some .int) ∈ Tw := in_Tw (List.mem_of_getElem? (i := 731) (by decide +kernel)) rfl
theorem nm_J2_indexOf_4cfef : Nms yJ2_indexOf_4cfef 4 := ⟨by decide, by decide, by decide +kernel⟩
theorem st_J2_indexOf_4cfef : Cond.static yJ2_indexOf_4cfef ∈ Tw := in_Tw (List.mem_of_getElem? (i := 730) (by decide +kernel)) rfl
theorem cf_J0_640 : CfS RJ0 640 yJ2_indexOf_4cfef cJ2_indexOf_4cfef 4 (some .int) 4 := ⟨st_J2_indexOf_4cfef, in_Tw (List.mem_of_getElem? (i := 729) (by decide +kernel)) rfl, cd_J2_indexOf_4cfef, ini_J2, nm_J2_indexOf_4cfef⟩
theorem cd_J3_checkIndex_8e157 : Cond.code yJ3_checkIndex_8e157 cJ3_checkIndex_8e157 3 (some .int) ∈ Tw := in_Tw (List.mem_of_getElem? (i := 671) (by decide +kernel)) rfl
theorem ini_J3 : Cond.initialized RJ3 ∈ Tw := in_Tw (List.mem_of_getElem? (i := 156) (by decide +kernel)) rfl
theorem nm_J3_checkIndex_8e157 : Nms yJ3_checkIndex_8e157 3 := ⟨by decide, by decide, by decide +kernel⟩
theorem st_J3_checkIndex_8e157 : Cond.static yJ3_checkIndex_8e157 ∈ Tw := in_Tw (List.mem_of_getElem? (i := 670) (by decide +kernel)) rfl
theorem cf_J0_1059 : CfS RJ0 1059 yJ3_checkIndex_8e157 cJ3_checkIndex_8e157 3 (some .int) 3 := ⟨st_J3_checkIndex_8e157, in_Tw (List.mem_of_getElem? (i := 669) (by decide +kernel)) rfl, cd_J3_checkIndex_8e157, ini_J3, nm_J3_checkIndex_8e157⟩
theorem cd_J3_checkFromToIndex_8c36e : Cond.code yJ3_checkFromToIndex_8c36e cJ3_checkFromToIndex_8c36e 4 (some .int) ∈ Tw := in_Tw (List.mem_of_getElem? (i := 746) (by decide +kernel)) rfl
theorem nm_J3_checkFromToIndex_8c36e : Nms yJ3_checkFromToIndex_8c36e 4 := ⟨by decide, by decide, by decide +kernel⟩
theorem st_J3_checkFromToIndex_8c36e : Cond.static yJ3_checkFromToIndex_8c36e ∈ Tw := in_Tw (List.mem_of_getElem? (i := 745) (by decide +kernel)) rfl
theorem cf_J0_1062 : CfS RJ0 1062 yJ3_checkFromToIndex_8c36e cJ3_checkFromToIndex_8c36e 4 (some .int) 4 := ⟨st_J3_checkFromToIndex_8c36e, in_Tw (List.mem_of_getElem? (i := 744) (by decide +kernel)) rfl, cd_J3_checkFromToIndex_8c36e, ini_J3, nm_J3_checkFromToIndex_8c36e⟩
theorem cd_J0_checkIndex_df160 : Cond.code yJ0_checkIndex_df160 cJ0_checkIndex_df160 2 none ∈ Tw := in_Tw (List.mem_of_getElem? (i := 666) (by decide +kernel)) rfl
theorem nm_J0_checkIndex_df160 : Nms yJ0_checkIndex_df160 2 := ⟨by decide, by decide, by decide +kernel⟩
theorem st_J0_checkIndex_df160 : Cond.static yJ0_checkIndex_df160 ∈ Tw := in_Tw (List.mem_of_getElem? (i := 665) (by decide +kernel)) rfl
theorem cf_J1_9 : CfS RJ1 9 yJ0_checkIndex_df160 cJ0_checkIndex_df160 2 none 2 := ⟨st_J0_checkIndex_df160, in_Tw (List.mem_of_getElem? (i := 664) (by decide +kernel)) rfl, cd_J0_checkIndex_df160, ini_J0, nm_J0_checkIndex_df160⟩
theorem cf_J1_38 : CfS RJ1 38 yJ9_min_7cf53 cJ9_min_7cf53 2 (some .int) 2 := ⟨st_J9_min_7cf53, in_Tw (List.mem_of_getElem? (i := 725) (by decide +kernel)) rfl, cd_J9_min_7cf53, ini_J9, nm_J9_min_7cf53⟩
theorem cd_J1_canEncode_9a6ad : Cond.code yJ1_canEncode_9a6ad cJ1_canEncode_9a6ad 1 (some .boolean) ∈ Tw := in_Tw (List.mem_of_getElem? (i := 721) (by decide +kernel)) rfl
theorem nm_J1_canEncode_9a6ad : Nms yJ1_canEncode_9a6ad 1 := ⟨by decide, by decide, by decide +kernel⟩
theorem st_J1_canEncode_9a6ad : Cond.static yJ1_canEncode_9a6ad ∈ Tw := in_Tw (List.mem_of_getElem? (i := 720) (by decide +kernel)) rfl
theorem cf_J1_88 : CfS RJ1 88 yJ1_canEncode_9a6ad cJ1_canEncode_9a6ad 1 (some .boolean) 1 := ⟨st_J1_canEncode_9a6ad, in_Tw (List.mem_of_getElem? (i := 719) (by decide +kernel)) rfl, cd_J1_canEncode_9a6ad, ini_J1, nm_J1_canEncode_9a6ad⟩
theorem cf_J1_92 : CfS RJ1 92 yJ9_max_7cf53 cJ9_max_7cf53 2 (some .int) 2 := ⟨st_J9_max_7cf53, in_Tw (List.mem_of_getElem? (i := 722) (by decide +kernel)) rfl, cd_J9_max_7cf53, ini_J9, nm_J9_max_7cf53⟩
theorem cd_J1_indexOfChar_4cfef : Cond.code yJ1_indexOfChar_4cfef cJ1_indexOfChar_4cfef 6 (some .int) ∈ Tw := in_Tw (List.mem_of_getElem? (i := 728) (by decide +kernel)) rfl
theorem nm_J1_indexOfChar_4cfef : Nms yJ1_indexOfChar_4cfef 4 := ⟨by decide, by decide, by decide +kernel⟩
theorem st_J1_indexOfChar_4cfef : Cond.static yJ1_indexOfChar_4cfef ∈ Tw := in_Tw (List.mem_of_getElem? (i := 727) (by decide +kernel)) rfl
theorem cf_J1_95 : CfS RJ1 95 yJ1_indexOfChar_4cfef cJ1_indexOfChar_4cfef 6 (some .int) 4 := ⟨st_J1_indexOfChar_4cfef, in_Tw (List.mem_of_getElem? (i := 726) (by decide +kernel)) rfl, cd_J1_indexOfChar_4cfef, ini_J1, nm_J1_indexOfChar_4cfef⟩
theorem cd_J2_length_9d52b : Cond.code yJ2_length_9d52b cJ2_length_9d52b 1 (some .int) ∈ Tw := in_Tw (List.mem_of_getElem? (i := 680) (by decide +kernel)) rfl
theorem nm_J2_length_9d52b : Nms yJ2_length_9d52b 1 := ⟨by decide, by decide, by decide +kernel⟩
theorem st_J2_length_9d52b : Cond.static yJ2_length_9d52b ∈ Tw := in_Tw (List.mem_of_getElem? (i := 679) (by decide +kernel)) rfl
theorem cf_J2_48 : CfS RJ2 48 yJ2_length_9d52b cJ2_length_9d52b 1 (some .int) 1 := ⟨st_J2_length_9d52b, in_Tw (List.mem_of_getElem? (i := 678) (by decide +kernel)) rfl, cd_J2_length_9d52b, ini_J2, nm_J2_length_9d52b⟩
theorem cd_J2_checkIndex_2214a : Cond.code yJ2_checkIndex_2214a cJ2_checkIndex_2214a 2 none ∈ Tw := in_Tw (List.mem_of_getElem? (i := 677) (by decide +kernel)) rfl
theorem nm_J2_checkIndex_2214a : Nms yJ2_checkIndex_2214a 2 := ⟨by decide, by decide, by decide +kernel⟩
theorem st_J2_checkIndex_2214a : Cond.static yJ2_checkIndex_2214a ∈ Tw := in_Tw (List.mem_of_getElem? (i := 676) (by decide +kernel)) rfl
theorem cf_J2_67 : CfS RJ2 67 yJ2_checkIndex_2214a cJ2_checkIndex_2214a 2 none 2 := ⟨st_J2_checkIndex_2214a, in_Tw (List.mem_of_getElem? (i := 675) (by decide +kernel)) rfl, cd_J2_checkIndex_2214a, ini_J2, nm_J2_checkIndex_2214a⟩
theorem cd_J2_getChar_3b067 : Cond.code yJ2_getChar_3b067 cJ2_getChar_3b067 2 (some .char) ∈ Tw := in_Tw (List.mem_of_getElem? (i := 684) (by decide +kernel)) rfl
theorem nm_J2_getChar_3b067 : Nms yJ2_getChar_3b067 2 := ⟨by decide, by decide, by decide +kernel⟩
theorem st_J2_getChar_3b067 : Cond.static yJ2_getChar_3b067 ∈ Tw := in_Tw (List.mem_of_getElem? (i := 683) (by decide +kernel)) rfl
theorem cf_J2_71 : CfS RJ2 71 yJ2_getChar_3b067 cJ2_getChar_3b067 2 (some .char) 2 := ⟨st_J2_getChar_3b067, in_Tw (List.mem_of_getElem? (i := 682) (by decide +kernel)) rfl, cd_J2_getChar_3b067, ini_J2, nm_J2_getChar_3b067⟩
theorem cd_J2_checkBoundsBeginEnd_d044e : Cond.code yJ2_checkBoundsBeginEnd_d044e cJ2_checkBoundsBeginEnd_d044e 3 none ∈ Tw := in_Tw (List.mem_of_getElem? (i := 740) (by decide +kernel)) rfl
theorem nm_J2_checkBoundsBeginEnd_d044e : Nms yJ2_checkBoundsBeginEnd_d044e 3 := ⟨by decide, by decide, by decide +kernel⟩
theorem st_J2_checkBoundsBeginEnd_d044e : Cond.static yJ2_checkBoundsBeginEnd_d044e ∈ Tw := in_Tw (List.mem_of_getElem? (i := 739) (by decide +kernel)) rfl
theorem cf_J2_96 : CfS RJ2 96 yJ2_checkBoundsBeginEnd_d044e cJ2_checkBoundsBeginEnd_d044e 3 none 3 := ⟨st_J2_checkBoundsBeginEnd_d044e, in_Tw (List.mem_of_getElem? (i := 738) (by decide +kernel)) rfl, cd_J2_checkBoundsBeginEnd_d044e, ini_J2, nm_J2_checkBoundsBeginEnd_d044e⟩
theorem cd_J11_highSurrogate_5068e : Cond.code yJ11_highSurrogate_5068e cJ11_highSurrogate_5068e 1 (some .char) ∈ Tw := in_Tw (List.mem_of_getElem? (i := 758) (by decide +kernel)) rfl
theorem ini_J11 : Cond.initialized RJ11 ∈ Tw := in_Tw (List.mem_of_getElem? (i := 159) (by decide +kernel)) rfl
theorem nm_J11_highSurrogate_5068e : Nms yJ11_highSurrogate_5068e 1 := ⟨by decide, by decide, by decide +kernel⟩
theorem st_J11_highSurrogate_5068e : Cond.static yJ11_highSurrogate_5068e ∈ Tw := in_Tw (List.mem_of_getElem? (i := 757) (by decide +kernel)) rfl
theorem cf_J2_157 : CfS RJ2 157 yJ11_highSurrogate_5068e cJ11_highSurrogate_5068e 1 (some .char) 1 := ⟨st_J11_highSurrogate_5068e, in_Tw (List.mem_of_getElem? (i := 756) (by decide +kernel)) rfl, cd_J11_highSurrogate_5068e, ini_J11, nm_J11_highSurrogate_5068e⟩
theorem cd_J11_lowSurrogate_5068e : Cond.code yJ11_lowSurrogate_5068e cJ11_lowSurrogate_5068e 1 (some .char) ∈ Tw := in_Tw (List.mem_of_getElem? (i := 762) (by decide +kernel)) rfl
theorem nm_J11_lowSurrogate_5068e : Nms yJ11_lowSurrogate_5068e 1 := ⟨by decide, by decide, by decide +kernel⟩
theorem st_J11_lowSurrogate_5068e : Cond.static yJ11_lowSurrogate_5068e ∈ Tw := in_Tw (List.mem_of_getElem? (i := 761) (by decide +kernel)) rfl
theorem cf_J2_161 : CfS RJ2 161 yJ11_lowSurrogate_5068e cJ11_lowSurrogate_5068e 1 (some .char) 1 := ⟨st_J11_lowSurrogate_5068e, in_Tw (List.mem_of_getElem? (i := 760) (by decide +kernel)) rfl, cd_J11_lowSurrogate_5068e, ini_J11, nm_J11_lowSurrogate_5068e⟩
theorem cd_J11_isValidCodePoint_9a6ad : Cond.code yJ11_isValidCodePoint_9a6ad cJ11_isValidCodePoint_9a6ad 2 (some .boolean) ∈ Tw := in_Tw (List.mem_of_getElem? (i := 755) (by decide +kernel)) rfl
theorem nm_J11_isValidCodePoint_9a6ad : Nms yJ11_isValidCodePoint_9a6ad 1 := ⟨by decide, by decide, by decide +kernel⟩
theorem st_J11_isValidCodePoint_9a6ad : Cond.static yJ11_isValidCodePoint_9a6ad ∈ Tw := in_Tw (List.mem_of_getElem? (i := 754) (by decide +kernel)) rfl
theorem cf_J2_164 : CfS RJ2 164 yJ11_isValidCodePoint_9a6ad cJ11_isValidCodePoint_9a6ad 2 (some .boolean) 1 := ⟨st_J11_isValidCodePoint_9a6ad, in_Tw (List.mem_of_getElem? (i := 753) (by decide +kernel)) rfl, cd_J11_isValidCodePoint_9a6ad, ini_J11, nm_J11_isValidCodePoint_9a6ad⟩
theorem cf_J2_183 : CfS RJ2 183 yJ9_min_7cf53 cJ9_min_7cf53 2 (some .int) 2 := ⟨st_J9_min_7cf53, in_Tw (List.mem_of_getElem? (i := 733) (by decide +kernel)) rfl, cd_J9_min_7cf53, ini_J9, nm_J9_min_7cf53⟩
theorem cf_J2_224 : CfS RJ2 224 yJ9_max_7cf53 cJ9_max_7cf53 2 (some .int) 2 := ⟨st_J9_max_7cf53, in_Tw (List.mem_of_getElem? (i := 732) (by decide +kernel)) rfl, cd_J9_max_7cf53, ini_J9, nm_J9_max_7cf53⟩
theorem cd_J2_indexOfChar_4cfef : Cond.code yJ2_indexOfChar_4cfef cJ2_indexOfChar_4cfef 4 (some .int) ∈ Tw := in_Tw (List.mem_of_getElem? (i := 737) (by decide +kernel)) rfl
theorem nm_J2_indexOfChar_4cfef : Nms yJ2_indexOfChar_4cfef 4 := ⟨by decide, by decide, by decide +kernel⟩
theorem st_J2_indexOfChar_4cfef : Cond.static yJ2_indexOfChar_4cfef ∈ Tw := in_Tw (List.mem_of_getElem? (i := 736) (by decide +kernel)) rfl
theorem cf_J2_228 : CfS RJ2 228 yJ2_indexOfChar_4cfef cJ2_indexOfChar_4cfef 4 (some .int) 4 := ⟨st_J2_indexOfChar_4cfef, in_Tw (List.mem_of_getElem? (i := 735) (by decide +kernel)) rfl, cd_J2_indexOfChar_4cfef, ini_J2, nm_J2_indexOfChar_4cfef⟩
theorem cd_J2_indexOfSupplementary_4cfef : Cond.code yJ2_indexOfSupplementary_4cfef cJ2_indexOfSupplementary_4cfef 7 (some .int) ∈ Tw := in_Tw (List.mem_of_getElem? (i := 752) (by decide +kernel)) rfl
theorem nm_J2_indexOfSupplementary_4cfef : Nms yJ2_indexOfSupplementary_4cfef 4 := ⟨by decide, by decide, by decide +kernel⟩
theorem st_J2_indexOfSupplementary_4cfef : Cond.static yJ2_indexOfSupplementary_4cfef ∈ Tw := in_Tw (List.mem_of_getElem? (i := 751) (by decide +kernel)) rfl
theorem cf_J2_232 : CfS RJ2 232 yJ2_indexOfSupplementary_4cfef cJ2_indexOfSupplementary_4cfef 7 (some .int) 4 := ⟨st_J2_indexOfSupplementary_4cfef, in_Tw (List.mem_of_getElem? (i := 750) (by decide +kernel)) rfl, cd_J2_indexOfSupplementary_4cfef, ini_J2, nm_J2_indexOfSupplementary_4cfef⟩
theorem cd_J0_checkBoundsBeginEnd_23922 : Cond.code yJ0_checkBoundsBeginEnd_23922 cJ0_checkBoundsBeginEnd_23922 3 none ∈ Tw := in_Tw (List.mem_of_getElem? (i := 743) (by decide +kernel)) rfl
theorem nm_J0_checkBoundsBeginEnd_23922 : Nms yJ0_checkBoundsBeginEnd_23922 3 := ⟨by decide, by decide, by decide +kernel⟩
theorem st_J0_checkBoundsBeginEnd_23922 : Cond.static yJ0_checkBoundsBeginEnd_23922 ∈ Tw := in_Tw (List.mem_of_getElem? (i := 742) (by decide +kernel)) rfl
theorem cf_J2_241 : CfS RJ2 241 yJ0_checkBoundsBeginEnd_23922 cJ0_checkBoundsBeginEnd_23922 3 none 3 := ⟨st_J0_checkBoundsBeginEnd_23922, in_Tw (List.mem_of_getElem? (i := 741) (by decide +kernel)) rfl, cd_J0_checkBoundsBeginEnd_23922, ini_J0, nm_J0_checkBoundsBeginEnd_23922⟩
theorem cd_J2_indexOfCharUnsafe_4cfef : Cond.code yJ2_indexOfCharUnsafe_4cfef cJ2_indexOfCharUnsafe_4cfef 5 (some .int) ∈ Tw := in_Tw (List.mem_of_getElem? (i := 749) (by decide +kernel)) rfl
theorem nm_J2_indexOfCharUnsafe_4cfef : Nms yJ2_indexOfCharUnsafe_4cfef 4 := ⟨by decide, by decide, by decide +kernel⟩
theorem st_J2_indexOfCharUnsafe_4cfef : Cond.static yJ2_indexOfCharUnsafe_4cfef ∈ Tw := in_Tw (List.mem_of_getElem? (i := 748) (by decide +kernel)) rfl
theorem cf_J2_244 : CfS RJ2 244 yJ2_indexOfCharUnsafe_4cfef cJ2_indexOfCharUnsafe_4cfef 5 (some .int) 4 := ⟨st_J2_indexOfCharUnsafe_4cfef, in_Tw (List.mem_of_getElem? (i := 747) (by decide +kernel)) rfl, cd_J2_indexOfCharUnsafe_4cfef, ini_J2, nm_J2_indexOfCharUnsafe_4cfef⟩
theorem cf_J2_414 : CfS RJ2 414 yJ0_checkIndex_df160 cJ0_checkIndex_df160 2 none 2 := ⟨st_J0_checkIndex_df160, in_Tw (List.mem_of_getElem? (i := 681) (by decide +kernel)) rfl, cd_J0_checkIndex_df160, ini_J0, nm_J0_checkIndex_df160⟩
theorem cf_J7_304 : CfS RJ7 304 yJ9_min_7cf53 cJ9_min_7cf53 2 (some .int) 2 := ⟨st_J9_min_7cf53, in_Tw (List.mem_of_getElem? (i := 858) (by decide +kernel)) rfl, cd_J9_min_7cf53, ini_J9, nm_J9_min_7cf53⟩
