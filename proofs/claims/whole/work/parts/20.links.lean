theorem lf6_12 : sLf RX6 12 6 0 := ⟨_, rfl, by decide, sW_in (List.mem_of_getElem? (i := 172) (by decide +kernel)) rfl⟩
theorem lp6_12 : sLp RX6 "<init>" 12 6 0 := ⟨_, rfl, by decide, sW_in (List.mem_of_getElem? (i := 172) (by decide +kernel)) rfl, Or.inr ⟨rfl, rfl, rfl⟩⟩
theorem lf6_19 : sLf RX6 19 6 1 := ⟨_, rfl, by decide, sW_in (List.mem_of_getElem? (i := 173) (by decide +kernel)) rfl⟩
theorem lp6_19 : sLp RX6 "<init>" 19 6 1 := ⟨_, rfl, by decide, sW_in (List.mem_of_getElem? (i := 173) (by decide +kernel)) rfl, Or.inr ⟨rfl, rfl, rfl⟩⟩
theorem lf6_23 : sLf RX6 23 2 0 := ⟨_, rfl, by decide, sW_in (List.mem_of_getElem? (i := 134) (by decide +kernel)) rfl⟩
theorem lf6_27 : sLf RX6 27 6 2 := ⟨_, rfl, by decide, sW_in (List.mem_of_getElem? (i := 174) (by decide +kernel)) rfl⟩
theorem lp6_27 : sLp RX6 "<init>" 27 6 2 := ⟨_, rfl, by decide, sW_in (List.mem_of_getElem? (i := 174) (by decide +kernel)) rfl, Or.inr ⟨rfl, rfl, rfl⟩⟩
theorem lf6_52 : sLf RX6 52 1 2 := ⟨_, rfl, by decide, sW_in (List.mem_of_getElem? (i := 106) (by decide +kernel)) rfl⟩
theorem lf6_61 : sLf RX6 61 4 0 := ⟨_, rfl, by decide, sW_in (List.mem_of_getElem? (i := 117) (by decide +kernel)) rfl⟩
theorem lf6_85 : sLf RX6 85 4 2 := ⟨_, rfl, by decide, sW_in (List.mem_of_getElem? (i := 121) (by decide +kernel)) rfl⟩
theorem lf6_100 : sLf RX6 100 3 4 := ⟨_, rfl, by decide, sW_in (List.mem_of_getElem? (i := 281) (by decide +kernel)) rfl⟩
theorem lp6_100 (ini : String) : sLp RX6 ini 100 3 4 := ⟨_, rfl, by decide, sW_in (List.mem_of_getElem? (i := 281) (by decide +kernel)) rfl, Or.inl rfl⟩
theorem lf6_105 : sLf RX6 105 3 3 := ⟨_, rfl, by decide, sW_in (List.mem_of_getElem? (i := 278) (by decide +kernel)) rfl⟩
theorem lf6_114 : sLf RX6 114 3 1 := ⟨_, rfl, by decide, sW_in (List.mem_of_getElem? (i := 273) (by decide +kernel)) rfl⟩
theorem lp6_114 (ini : String) : sLp RX6 ini 114 3 1 := ⟨_, rfl, by decide, sW_in (List.mem_of_getElem? (i := 273) (by decide +kernel)) rfl, Or.inl rfl⟩
theorem lf6_117 : sLf RX6 117 3 2 := ⟨_, rfl, by decide, sW_in (List.mem_of_getElem? (i := 275) (by decide +kernel)) rfl⟩
theorem lp6_117 (ini : String) : sLp RX6 ini 117 3 2 := ⟨_, rfl, by decide, sW_in (List.mem_of_getElem? (i := 275) (by decide +kernel)) rfl, Or.inl rfl⟩
theorem lf6_121 : sLf RX6 121 3 5 := ⟨_, rfl, by decide, sW_in (List.mem_of_getElem? (i := 286) (by decide +kernel)) rfl⟩
theorem lf6_128 : sLf RX6 128 5 0 := ⟨_, rfl, by decide, sW_in (List.mem_of_getElem? (i := 444) (by decide +kernel)) rfl⟩
theorem lf6_140 : sLf RX6 140 2 1 := ⟨_, rfl, by decide, sW_in (List.mem_of_getElem? (i := 136) (by decide +kernel)) rfl⟩
theorem lf6_144 : sLf RX6 144 1 0 := ⟨_, rfl, by decide, sW_in (List.mem_of_getElem? (i := 100) (by decide +kernel)) rfl⟩
theorem lf6_147 : sLf RX6 147 1 1 := ⟨_, rfl, by decide, sW_in (List.mem_of_getElem? (i := 103) (by decide +kernel)) rfl⟩
theorem lf6_150 : sLf RX6 150 2 2 := ⟨_, rfl, by decide, sW_in (List.mem_of_getElem? (i := 138) (by decide +kernel)) rfl⟩
theorem lf6_156 : sLf RX6 156 2 4 := ⟨_, rfl, by decide, sW_in (List.mem_of_getElem? (i := 142) (by decide +kernel)) rfl⟩
theorem lf6_159 : sLf RX6 159 2 3 := ⟨_, rfl, by decide, sW_in (List.mem_of_getElem? (i := 140) (by decide +kernel)) rfl⟩
theorem lf6_162 : sLf RX6 162 2 5 := ⟨_, rfl, by decide, sW_in (List.mem_of_getElem? (i := 144) (by decide +kernel)) rfl⟩
theorem lf6_165 : sLf RX6 165 3 7 := ⟨_, rfl, by decide, sW_in (List.mem_of_getElem? (i := 290) (by decide +kernel)) rfl⟩
theorem lf6_168 : sLf RX6 168 2 6 := ⟨_, rfl, by decide, sW_in (List.mem_of_getElem? (i := 146) (by decide +kernel)) rfl⟩
theorem lf6_171 : sLf RX6 171 2 7 := ⟨_, rfl, by decide, sW_in (List.mem_of_getElem? (i := 148) (by decide +kernel)) rfl⟩
theorem lf6_178 : sLf RX6 178 0 0 := ⟨_, rfl, by decide, sW_in (List.mem_of_getElem? (i := 64) (by decide +kernel)) rfl⟩
theorem lf6_180 : sLf RX6 180 0 1 := ⟨_, rfl, by decide, sW_in (List.mem_of_getElem? (i := 66) (by decide +kernel)) rfl⟩
theorem lf0_9 : sLf RX0 9 0 1 := ⟨_, rfl, by decide, sW_in (List.mem_of_getElem? (i := 65) (by decide +kernel)) rfl⟩
theorem lp0_9 : sLp RX0 "<init>" 9 0 1 := ⟨_, rfl, by decide, sW_in (List.mem_of_getElem? (i := 65) (by decide +kernel)) rfl, Or.inr ⟨rfl, rfl, rfl⟩⟩
theorem lp0_15 (ini : String) : sLp RX0 ini 15 0 0 := ⟨_, rfl, by decide, sW_in (List.mem_of_getElem? (i := 63) (by decide +kernel)) rfl, Or.inl rfl⟩
theorem lf1_9 : sLf RX1 9 1 0 := ⟨_, rfl, by decide, sW_in (List.mem_of_getElem? (i := 98) (by decide +kernel)) rfl⟩
theorem lp1_9 : sLp RX1 "<init>" 9 1 0 := ⟨_, rfl, by decide, sW_in (List.mem_of_getElem? (i := 98) (by decide +kernel)) rfl, Or.inr ⟨rfl, rfl, rfl⟩⟩
theorem lf1_15 : sLf RX1 15 1 1 := ⟨_, rfl, by decide, sW_in (List.mem_of_getElem? (i := 101) (by decide +kernel)) rfl⟩
theorem lp1_15 : sLp RX1 "<init>" 15 1 1 := ⟨_, rfl, by decide, sW_in (List.mem_of_getElem? (i := 101) (by decide +kernel)) rfl, Or.inr ⟨rfl, rfl, rfl⟩⟩
theorem lf1_18 : sLf RX1 18 1 2 := ⟨_, rfl, by decide, sW_in (List.mem_of_getElem? (i := 104) (by decide +kernel)) rfl⟩
theorem lp1_18 : sLp RX1 "<init>" 18 1 2 := ⟨_, rfl, by decide, sW_in (List.mem_of_getElem? (i := 104) (by decide +kernel)) rfl, Or.inr ⟨rfl, rfl, rfl⟩⟩
theorem lf2_12 : sLf RX2 12 2 0 := ⟨_, rfl, by decide, sW_in (List.mem_of_getElem? (i := 133) (by decide +kernel)) rfl⟩
theorem lp2_12 : sLp RX2 "<init>" 12 2 0 := ⟨_, rfl, by decide, sW_in (List.mem_of_getElem? (i := 133) (by decide +kernel)) rfl, Or.inr ⟨rfl, rfl, rfl⟩⟩
theorem lf2_18 : sLf RX2 18 2 3 := ⟨_, rfl, by decide, sW_in (List.mem_of_getElem? (i := 139) (by decide +kernel)) rfl⟩
theorem lp2_18 : sLp RX2 "<init>" 18 2 3 := ⟨_, rfl, by decide, sW_in (List.mem_of_getElem? (i := 139) (by decide +kernel)) rfl, Or.inr ⟨rfl, rfl, rfl⟩⟩
theorem lf2_22 : sLf RX2 22 2 8 := ⟨_, rfl, by decide, sW_in (List.mem_of_getElem? (i := 149) (by decide +kernel)) rfl⟩
theorem lp2_22 (ini : String) : sLp RX2 ini 22 2 8 := ⟨_, rfl, by decide, sW_in (List.mem_of_getElem? (i := 149) (by decide +kernel)) rfl, Or.inl rfl⟩
theorem lf2_26 : sLf RX2 26 2 6 := ⟨_, rfl, by decide, sW_in (List.mem_of_getElem? (i := 145) (by decide +kernel)) rfl⟩
theorem lp2_26 (ini : String) : sLp RX2 ini 26 2 6 := ⟨_, rfl, by decide, sW_in (List.mem_of_getElem? (i := 145) (by decide +kernel)) rfl, Or.inl rfl⟩
theorem lf2_30 : sLf RX2 30 2 4 := ⟨_, rfl, by decide, sW_in (List.mem_of_getElem? (i := 141) (by decide +kernel)) rfl⟩
theorem lp2_30 (ini : String) : sLp RX2 ini 30 2 4 := ⟨_, rfl, by decide, sW_in (List.mem_of_getElem? (i := 141) (by decide +kernel)) rfl, Or.inl rfl⟩
theorem lf2_33 : sLf RX2 33 2 5 := ⟨_, rfl, by decide, sW_in (List.mem_of_getElem? (i := 143) (by decide +kernel)) rfl⟩
theorem lp2_33 (ini : String) : sLp RX2 ini 33 2 5 := ⟨_, rfl, by decide, sW_in (List.mem_of_getElem? (i := 143) (by decide +kernel)) rfl, Or.inl rfl⟩
theorem lf2_36 : sLf RX2 36 4 1 := ⟨_, rfl, by decide, sW_in (List.mem_of_getElem? (i := 119) (by decide +kernel)) rfl⟩
theorem lf2_50 : sLf RX2 50 2 1 := ⟨_, rfl, by decide, sW_in (List.mem_of_getElem? (i := 135) (by decide +kernel)) rfl⟩
theorem lp2_50 (ini : String) : sLp RX2 ini 50 2 1 := ⟨_, rfl, by decide, sW_in (List.mem_of_getElem? (i := 135) (by decide +kernel)) rfl, Or.inl rfl⟩
theorem lp2_58 (ini : String) : sLp RX2 ini 58 2 2 := ⟨_, rfl, by decide, sW_in (List.mem_of_getElem? (i := 137) (by decide +kernel)) rfl, Or.inl rfl⟩
theorem lf2_67 : sLf RX2 67 1 0 := ⟨_, rfl, by decide, sW_in (List.mem_of_getElem? (i := 99) (by decide +kernel)) rfl⟩
theorem lf2_70 : sLf RX2 70 1 2 := ⟨_, rfl, by decide, sW_in (List.mem_of_getElem? (i := 105) (by decide +kernel)) rfl⟩
theorem lf2_73 : sLf RX2 73 1 1 := ⟨_, rfl, by decide, sW_in (List.mem_of_getElem? (i := 102) (by decide +kernel)) rfl⟩
theorem lf2_80 : sLf RX2 80 3 10 := ⟨_, rfl, by decide, sW_in (List.mem_of_getElem? (i := 295) (by decide +kernel)) rfl⟩
theorem lp2_80 (ini : String) : sLp RX2 ini 80 3 10 := ⟨_, rfl, by decide, sW_in (List.mem_of_getElem? (i := 295) (by decide +kernel)) rfl, Or.inl rfl⟩
theorem lf2_83 : sLf RX2 83 4 0 := ⟨_, rfl, by decide, sW_in (List.mem_of_getElem? (i := 116) (by decide +kernel)) rfl⟩
theorem lf2_87 : sLf RX2 87 4 3 := ⟨_, rfl, by decide, sW_in (List.mem_of_getElem? (i := 123) (by decide +kernel)) rfl⟩
theorem lf2_90 : sLf RX2 90 3 8 := ⟨_, rfl, by decide, sW_in (List.mem_of_getElem? (i := 291) (by decide +kernel)) rfl⟩
theorem lp2_90 (ini : String) : sLp RX2 ini 90 3 8 := ⟨_, rfl, by decide, sW_in (List.mem_of_getElem? (i := 291) (by decide +kernel)) rfl, Or.inl rfl⟩
theorem lf2_93 : sLf RX2 93 3 11 := ⟨_, rfl, by decide, sW_in (List.mem_of_getElem? (i := 296) (by decide +kernel)) rfl⟩
theorem lp2_93 (ini : String) : sLp RX2 ini 93 3 11 := ⟨_, rfl, by decide, sW_in (List.mem_of_getElem? (i := 296) (by decide +kernel)) rfl, Or.inl rfl⟩
theorem lf2_96 : sLf RX2 96 2 9 := ⟨_, rfl, by decide, sW_in (List.mem_of_getElem? (i := 150) (by decide +kernel)) rfl⟩
theorem lp2_96 (ini : String) : sLp RX2 ini 96 2 9 := ⟨_, rfl, by decide, sW_in (List.mem_of_getElem? (i := 150) (by decide +kernel)) rfl, Or.inl rfl⟩
theorem lf2_102 : sLf RX2 102 3 0 := ⟨_, rfl, by decide, sW_in (List.mem_of_getElem? (i := 270) (by decide +kernel)) rfl⟩
theorem lf2_105 : sLf RX2 105 3 13 := ⟨_, rfl, by decide, sW_in (List.mem_of_getElem? (i := 300) (by decide +kernel)) rfl⟩
theorem lf2_108 : sLf RX2 108 3 9 := ⟨_, rfl, by decide, sW_in (List.mem_of_getElem? (i := 293) (by decide +kernel)) rfl⟩
theorem lp2_108 (ini : String) : sLp RX2 ini 108 3 9 := ⟨_, rfl, by decide, sW_in (List.mem_of_getElem? (i := 293) (by decide +kernel)) rfl, Or.inl rfl⟩
theorem lf2_117 : sLf RX2 117 3 5 := ⟨_, rfl, by decide, sW_in (List.mem_of_getElem? (i := 285) (by decide +kernel)) rfl⟩
theorem lf2_128 : sLf RX2 128 3 7 := ⟨_, rfl, by decide, sW_in (List.mem_of_getElem? (i := 289) (by decide +kernel)) rfl⟩
theorem lf2_135 : sLf RX2 135 5 1 := ⟨_, rfl, by decide, sW_in (List.mem_of_getElem? (i := 446) (by decide +kernel)) rfl⟩
theorem lf2_140 : sLf RX2 140 5 0 := ⟨_, rfl, by decide, sW_in (List.mem_of_getElem? (i := 443) (by decide +kernel)) rfl⟩
theorem lp2_140 (ini : String) : sLp RX2 ini 140 5 0 := ⟨_, rfl, by decide, sW_in (List.mem_of_getElem? (i := 443) (by decide +kernel)) rfl, Or.inl rfl⟩
theorem lf2_166 : sLf RX2 166 3 1 := ⟨_, rfl, by decide, sW_in (List.mem_of_getElem? (i := 272) (by decide +kernel)) rfl⟩
theorem lf2_180 : sLf RX2 180 2 7 := ⟨_, rfl, by decide, sW_in (List.mem_of_getElem? (i := 147) (by decide +kernel)) rfl⟩
theorem lp2_180 (ini : String) : sLp RX2 ini 180 2 7 := ⟨_, rfl, by decide, sW_in (List.mem_of_getElem? (i := 147) (by decide +kernel)) rfl, Or.inl rfl⟩
theorem lf2_183 : sLf RX2 183 3 4 := ⟨_, rfl, by decide, sW_in (List.mem_of_getElem? (i := 282) (by decide +kernel)) rfl⟩
theorem lf2_192 : sLf RX2 192 3 12 := ⟨_, rfl, by decide, sW_in (List.mem_of_getElem? (i := 298) (by decide +kernel)) rfl⟩
theorem lf2_220 : sLf RX2 220 3 3 := ⟨_, rfl, by decide, sW_in (List.mem_of_getElem? (i := 279) (by decide +kernel)) rfl⟩
theorem lf2_227 : sLf RX2 227 3 2 := ⟨_, rfl, by decide, sW_in (List.mem_of_getElem? (i := 276) (by decide +kernel)) rfl⟩
theorem lp3_9 : sLp RX3 "<init>" 9 3 3 := ⟨_, rfl, by decide, sW_in (List.mem_of_getElem? (i := 277) (by decide +kernel)) rfl, Or.inr ⟨rfl, rfl, rfl⟩⟩
theorem lf3_17 : sLf RX3 17 3 6 := ⟨_, rfl, by decide, sW_in (List.mem_of_getElem? (i := 287) (by decide +kernel)) rfl⟩
theorem lp3_17 : sLp RX3 "<init>" 17 3 6 := ⟨_, rfl, by decide, sW_in (List.mem_of_getElem? (i := 287) (by decide +kernel)) rfl, Or.inr ⟨rfl, rfl, rfl⟩⟩
theorem lf3_21 : sLf RX3 21 3 7 := ⟨_, rfl, by decide, sW_in (List.mem_of_getElem? (i := 288) (by decide +kernel)) rfl⟩
theorem lp3_21 : sLp RX3 "<init>" 21 3 7 := ⟨_, rfl, by decide, sW_in (List.mem_of_getElem? (i := 288) (by decide +kernel)) rfl, Or.inr ⟨rfl, rfl, rfl⟩⟩
theorem lp3_24 : sLp RX3 "<init>" 24 3 0 := ⟨_, rfl, by decide, sW_in (List.mem_of_getElem? (i := 269) (by decide +kernel)) rfl, Or.inr ⟨rfl, rfl, rfl⟩⟩
theorem lp3_28 (ini : String) : sLp RX3 ini 28 3 1 := ⟨_, rfl, by decide, sW_in (List.mem_of_getElem? (i := 271) (by decide +kernel)) rfl, Or.inl rfl⟩
theorem lp3_31 (ini : String) : sLp RX3 ini 31 3 2 := ⟨_, rfl, by decide, sW_in (List.mem_of_getElem? (i := 274) (by decide +kernel)) rfl, Or.inl rfl⟩
theorem lp3_39 : sLp RX3 "<init>" 39 3 12 := ⟨_, rfl, by decide, sW_in (List.mem_of_getElem? (i := 297) (by decide +kernel)) rfl, Or.inr ⟨rfl, rfl, rfl⟩⟩
theorem lp3_43 : sLp RX3 "<init>" 43 3 13 := ⟨_, rfl, by decide, sW_in (List.mem_of_getElem? (i := 299) (by decide +kernel)) rfl, Or.inr ⟨rfl, rfl, rfl⟩⟩
theorem lf3_52 : sLf RX3 52 3 4 := ⟨_, rfl, by decide, sW_in (List.mem_of_getElem? (i := 280) (by decide +kernel)) rfl⟩
theorem lf3_55 : sLf RX3 55 3 5 := ⟨_, rfl, by decide, sW_in (List.mem_of_getElem? (i := 283) (by decide +kernel)) rfl⟩
theorem lp3_55 (ini : String) : sLp RX3 ini 55 3 5 := ⟨_, rfl, by decide, sW_in (List.mem_of_getElem? (i := 283) (by decide +kernel)) rfl, Or.inl rfl⟩
theorem lp3_63 (ini : String) : sLp RX3 ini 63 5 1 := ⟨_, rfl, by decide, sW_in (List.mem_of_getElem? (i := 445) (by decide +kernel)) rfl, Or.inl rfl⟩
theorem lp3_70 (ini : String) : sLp RX3 ini 70 3 8 := ⟨_, rfl, by decide, sW_in (List.mem_of_getElem? (i := 292) (by decide +kernel)) rfl, Or.inl rfl⟩
theorem lp3_73 (ini : String) : sLp RX3 ini 73 3 9 := ⟨_, rfl, by decide, sW_in (List.mem_of_getElem? (i := 294) (by decide +kernel)) rfl, Or.inl rfl⟩
theorem lf4_11 : sLf RX4 11 4 0 := ⟨_, rfl, by decide, sW_in (List.mem_of_getElem? (i := 115) (by decide +kernel)) rfl⟩
theorem lp4_11 : sLp RX4 "<init>" 11 4 0 := ⟨_, rfl, by decide, sW_in (List.mem_of_getElem? (i := 115) (by decide +kernel)) rfl, Or.inr ⟨rfl, rfl, rfl⟩⟩
theorem lf4_19 : sLf RX4 19 4 1 := ⟨_, rfl, by decide, sW_in (List.mem_of_getElem? (i := 118) (by decide +kernel)) rfl⟩
theorem lp4_19 : sLp RX4 "<init>" 19 4 1 := ⟨_, rfl, by decide, sW_in (List.mem_of_getElem? (i := 118) (by decide +kernel)) rfl, Or.inr ⟨rfl, rfl, rfl⟩⟩
theorem lf4_23 : sLf RX4 23 4 3 := ⟨_, rfl, by decide, sW_in (List.mem_of_getElem? (i := 122) (by decide +kernel)) rfl⟩
theorem lp4_23 : sLp RX4 "<init>" 23 4 3 := ⟨_, rfl, by decide, sW_in (List.mem_of_getElem? (i := 122) (by decide +kernel)) rfl, Or.inr ⟨rfl, rfl, rfl⟩⟩
theorem lf4_33 : sLf RX4 33 4 2 := ⟨_, rfl, by decide, sW_in (List.mem_of_getElem? (i := 120) (by decide +kernel)) rfl⟩
theorem lp4_33 (ini : String) : sLp RX4 ini 33 4 2 := ⟨_, rfl, by decide, sW_in (List.mem_of_getElem? (i := 120) (by decide +kernel)) rfl, Or.inl rfl⟩
theorem lf4_40 : sLf RX4 40 3 5 := ⟨_, rfl, by decide, sW_in (List.mem_of_getElem? (i := 284) (by decide +kernel)) rfl⟩
theorem lf5_9 : sLf RX5 9 5 2 := ⟨_, rfl, by decide, sW_in (List.mem_of_getElem? (i := 447) (by decide +kernel)) rfl⟩
theorem lp5_9 : sLp RX5 "<init>" 9 5 2 := ⟨_, rfl, by decide, sW_in (List.mem_of_getElem? (i := 447) (by decide +kernel)) rfl, Or.inr ⟨rfl, rfl, rfl⟩⟩
theorem lf5_17 : sLf RX5 17 5 3 := ⟨_, rfl, by decide, sW_in (List.mem_of_getElem? (i := 448) (by decide +kernel)) rfl⟩
theorem lp5_17 : sLp RX5 "<init>" 17 5 3 := ⟨_, rfl, by decide, sW_in (List.mem_of_getElem? (i := 448) (by decide +kernel)) rfl, Or.inr ⟨rfl, rfl, rfl⟩⟩
theorem lf5_21 : sLf RX5 21 5 0 := ⟨_, rfl, by decide, sW_in (List.mem_of_getElem? (i := 442) (by decide +kernel)) rfl⟩
theorem lp5_21 (ini : String) : sLp RX5 ini 21 5 0 := ⟨_, rfl, by decide, sW_in (List.mem_of_getElem? (i := 442) (by decide +kernel)) rfl, Or.inl rfl⟩
theorem lf5_25 : sLf RX5 25 1 2 := ⟨_, rfl, by decide, sW_in (List.mem_of_getElem? (i := 107) (by decide +kernel)) rfl⟩
theorem lf7_7 : sLf RX7 7 7 0 := ⟨_, rfl, by decide, sW_in (List.mem_of_getElem? (i := 560) (by decide +kernel)) rfl⟩
theorem lp7_7 : sLp RX7 "<init>" 7 7 0 := ⟨_, rfl, by decide, sW_in (List.mem_of_getElem? (i := 560) (by decide +kernel)) rfl, Or.inr ⟨rfl, rfl, rfl⟩⟩
theorem lf7_13 : sLf RX7 13 7 1 := ⟨_, rfl, by decide, sW_in (List.mem_of_getElem? (i := 561) (by decide +kernel)) rfl⟩
theorem lp7_13 : sLp RX7 "<init>" 13 7 1 := ⟨_, rfl, by decide, sW_in (List.mem_of_getElem? (i := 561) (by decide +kernel)) rfl, Or.inr ⟨rfl, rfl, rfl⟩⟩
theorem lf7_16 : sLf RX7 16 7 2 := ⟨_, rfl, by decide, sW_in (List.mem_of_getElem? (i := 562) (by decide +kernel)) rfl⟩
theorem lp7_16 : sLp RX7 "<init>" 16 7 2 := ⟨_, rfl, by decide, sW_in (List.mem_of_getElem? (i := 562) (by decide +kernel)) rfl, Or.inr ⟨rfl, rfl, rfl⟩⟩
theorem lf7_19 : sLf RX7 19 7 3 := ⟨_, rfl, by decide, sW_in (List.mem_of_getElem? (i := 563) (by decide +kernel)) rfl⟩
theorem lp7_19 : sLp RX7 "<init>" 19 7 3 := ⟨_, rfl, by decide, sW_in (List.mem_of_getElem? (i := 563) (by decide +kernel)) rfl, Or.inr ⟨rfl, rfl, rfl⟩⟩
theorem lf7_22 : sLf RX7 22 7 4 := ⟨_, rfl, by decide, sW_in (List.mem_of_getElem? (i := 564) (by decide +kernel)) rfl⟩
theorem lp7_22 : sLp RX7 "<init>" 22 7 4 := ⟨_, rfl, by decide, sW_in (List.mem_of_getElem? (i := 564) (by decide +kernel)) rfl, Or.inr ⟨rfl, rfl, rfl⟩⟩
theorem lf7_25 : sLf RX7 25 7 5 := ⟨_, rfl, by decide, sW_in (List.mem_of_getElem? (i := 565) (by decide +kernel)) rfl⟩
theorem lp7_25 : sLp RX7 "<init>" 25 7 5 := ⟨_, rfl, by decide, sW_in (List.mem_of_getElem? (i := 565) (by decide +kernel)) rfl, Or.inr ⟨rfl, rfl, rfl⟩⟩
theorem lf7_29 : sLf RX7 29 7 7 := ⟨_, rfl, by decide, sW_in (List.mem_of_getElem? (i := 567) (by decide +kernel)) rfl⟩
theorem lp7_29 : sLp RX7 "<init>" 29 7 7 := ⟨_, rfl, by decide, sW_in (List.mem_of_getElem? (i := 567) (by decide +kernel)) rfl, Or.inr ⟨rfl, rfl, rfl⟩⟩
theorem lf7_32 : sLf RX7 32 7 8 := ⟨_, rfl, by decide, sW_in (List.mem_of_getElem? (i := 568) (by decide +kernel)) rfl⟩
theorem lp7_32 : sLp RX7 "<init>" 32 7 8 := ⟨_, rfl, by decide, sW_in (List.mem_of_getElem? (i := 568) (by decide +kernel)) rfl, Or.inr ⟨rfl, rfl, rfl⟩⟩
theorem lf7_35 : sLf RX7 35 7 9 := ⟨_, rfl, by decide, sW_in (List.mem_of_getElem? (i := 569) (by decide +kernel)) rfl⟩
theorem lp7_35 : sLp RX7 "<init>" 35 7 9 := ⟨_, rfl, by decide, sW_in (List.mem_of_getElem? (i := 569) (by decide +kernel)) rfl, Or.inr ⟨rfl, rfl, rfl⟩⟩
theorem lf7_38 : sLf RX7 38 7 10 := ⟨_, rfl, by decide, sW_in (List.mem_of_getElem? (i := 570) (by decide +kernel)) rfl⟩
theorem lp7_38 : sLp RX7 "<init>" 38 7 10 := ⟨_, rfl, by decide, sW_in (List.mem_of_getElem? (i := 570) (by decide +kernel)) rfl, Or.inr ⟨rfl, rfl, rfl⟩⟩
theorem lf7_41 : sLf RX7 41 7 11 := ⟨_, rfl, by decide, sW_in (List.mem_of_getElem? (i := 571) (by decide +kernel)) rfl⟩
theorem lp7_41 : sLp RX7 "<init>" 41 7 11 := ⟨_, rfl, by decide, sW_in (List.mem_of_getElem? (i := 571) (by decide +kernel)) rfl, Or.inr ⟨rfl, rfl, rfl⟩⟩
theorem lf7_44 : sLf RX7 44 7 12 := ⟨_, rfl, by decide, sW_in (List.mem_of_getElem? (i := 572) (by decide +kernel)) rfl⟩
theorem lp7_44 : sLp RX7 "<init>" 44 7 12 := ⟨_, rfl, by decide, sW_in (List.mem_of_getElem? (i := 572) (by decide +kernel)) rfl, Or.inr ⟨rfl, rfl, rfl⟩⟩
theorem lf7_47 : sLf RX7 47 7 13 := ⟨_, rfl, by decide, sW_in (List.mem_of_getElem? (i := 573) (by decide +kernel)) rfl⟩
theorem lp7_47 : sLp RX7 "<init>" 47 7 13 := ⟨_, rfl, by decide, sW_in (List.mem_of_getElem? (i := 573) (by decide +kernel)) rfl, Or.inr ⟨rfl, rfl, rfl⟩⟩
theorem lf7_50 : sLf RX7 50 7 14 := ⟨_, rfl, by decide, sW_in (List.mem_of_getElem? (i := 574) (by decide +kernel)) rfl⟩
theorem lp7_50 : sLp RX7 "<init>" 50 7 14 := ⟨_, rfl, by decide, sW_in (List.mem_of_getElem? (i := 574) (by decide +kernel)) rfl, Or.inr ⟨rfl, rfl, rfl⟩⟩
theorem lf7_53 : sLf RX7 53 7 15 := ⟨_, rfl, by decide, sW_in (List.mem_of_getElem? (i := 575) (by decide +kernel)) rfl⟩
theorem lp7_53 : sLp RX7 "<init>" 53 7 15 := ⟨_, rfl, by decide, sW_in (List.mem_of_getElem? (i := 575) (by decide +kernel)) rfl, Or.inr ⟨rfl, rfl, rfl⟩⟩
theorem lf7_56 : sLf RX7 56 7 16 := ⟨_, rfl, by decide, sW_in (List.mem_of_getElem? (i := 576) (by decide +kernel)) rfl⟩
theorem lp7_56 : sLp RX7 "<init>" 56 7 16 := ⟨_, rfl, by decide, sW_in (List.mem_of_getElem? (i := 576) (by decide +kernel)) rfl, Or.inr ⟨rfl, rfl, rfl⟩⟩
theorem lf7_59 : sLf RX7 59 7 17 := ⟨_, rfl, by decide, sW_in (List.mem_of_getElem? (i := 577) (by decide +kernel)) rfl⟩
theorem lp7_59 : sLp RX7 "<init>" 59 7 17 := ⟨_, rfl, by decide, sW_in (List.mem_of_getElem? (i := 577) (by decide +kernel)) rfl, Or.inr ⟨rfl, rfl, rfl⟩⟩
theorem lf7_63 : sLf RX7 63 7 18 := ⟨_, rfl, by decide, sW_in (List.mem_of_getElem? (i := 578) (by decide +kernel)) rfl⟩
theorem lp7_63 : sLp RX7 "<init>" 63 7 18 := ⟨_, rfl, by decide, sW_in (List.mem_of_getElem? (i := 578) (by decide +kernel)) rfl, Or.inr ⟨rfl, rfl, rfl⟩⟩
theorem lf7_66 : sLf RX7 66 7 19 := ⟨_, rfl, by decide, sW_in (List.mem_of_getElem? (i := 579) (by decide +kernel)) rfl⟩
theorem lp7_66 : sLp RX7 "<init>" 66 7 19 := ⟨_, rfl, by decide, sW_in (List.mem_of_getElem? (i := 579) (by decide +kernel)) rfl, Or.inr ⟨rfl, rfl, rfl⟩⟩
theorem lf7_69 : sLf RX7 69 7 20 := ⟨_, rfl, by decide, sW_in (List.mem_of_getElem? (i := 580) (by decide +kernel)) rfl⟩
theorem lp7_69 : sLp RX7 "<init>" 69 7 20 := ⟨_, rfl, by decide, sW_in (List.mem_of_getElem? (i := 580) (by decide +kernel)) rfl, Or.inr ⟨rfl, rfl, rfl⟩⟩
theorem lf7_72 : sLf RX7 72 7 21 := ⟨_, rfl, by decide, sW_in (List.mem_of_getElem? (i := 581) (by decide +kernel)) rfl⟩
theorem lp7_72 : sLp RX7 "<init>" 72 7 21 := ⟨_, rfl, by decide, sW_in (List.mem_of_getElem? (i := 581) (by decide +kernel)) rfl, Or.inr ⟨rfl, rfl, rfl⟩⟩
theorem lf7_75 : sLf RX7 75 7 22 := ⟨_, rfl, by decide, sW_in (List.mem_of_getElem? (i := 582) (by decide +kernel)) rfl⟩
theorem lp7_75 : sLp RX7 "<init>" 75 7 22 := ⟨_, rfl, by decide, sW_in (List.mem_of_getElem? (i := 582) (by decide +kernel)) rfl, Or.inr ⟨rfl, rfl, rfl⟩⟩
theorem lf7_78 : sLf RX7 78 7 23 := ⟨_, rfl, by decide, sW_in (List.mem_of_getElem? (i := 583) (by decide +kernel)) rfl⟩
theorem lp7_78 : sLp RX7 "<init>" 78 7 23 := ⟨_, rfl, by decide, sW_in (List.mem_of_getElem? (i := 583) (by decide +kernel)) rfl, Or.inr ⟨rfl, rfl, rfl⟩⟩
theorem lf7_81 : sLf RX7 81 7 24 := ⟨_, rfl, by decide, sW_in (List.mem_of_getElem? (i := 584) (by decide +kernel)) rfl⟩
theorem lp7_81 : sLp RX7 "<init>" 81 7 24 := ⟨_, rfl, by decide, sW_in (List.mem_of_getElem? (i := 584) (by decide +kernel)) rfl, Or.inr ⟨rfl, rfl, rfl⟩⟩
theorem lf7_84 : sLf RX7 84 7 25 := ⟨_, rfl, by decide, sW_in (List.mem_of_getElem? (i := 585) (by decide +kernel)) rfl⟩
theorem lp7_84 : sLp RX7 "<init>" 84 7 25 := ⟨_, rfl, by decide, sW_in (List.mem_of_getElem? (i := 585) (by decide +kernel)) rfl, Or.inr ⟨rfl, rfl, rfl⟩⟩
theorem lf7_87 : sLf RX7 87 7 26 := ⟨_, rfl, by decide, sW_in (List.mem_of_getElem? (i := 586) (by decide +kernel)) rfl⟩
theorem lp7_87 : sLp RX7 "<init>" 87 7 26 := ⟨_, rfl, by decide, sW_in (List.mem_of_getElem? (i := 586) (by decide +kernel)) rfl, Or.inr ⟨rfl, rfl, rfl⟩⟩
theorem lf7_90 : sLf RX7 90 7 28 := ⟨_, rfl, by decide, sW_in (List.mem_of_getElem? (i := 588) (by decide +kernel)) rfl⟩
theorem lp7_90 : sLp RX7 "<init>" 90 7 28 := ⟨_, rfl, by decide, sW_in (List.mem_of_getElem? (i := 588) (by decide +kernel)) rfl, Or.inr ⟨rfl, rfl, rfl⟩⟩
theorem lf7_93 : sLf RX7 93 7 29 := ⟨_, rfl, by decide, sW_in (List.mem_of_getElem? (i := 589) (by decide +kernel)) rfl⟩
theorem lp7_93 : sLp RX7 "<init>" 93 7 29 := ⟨_, rfl, by decide, sW_in (List.mem_of_getElem? (i := 589) (by decide +kernel)) rfl, Or.inr ⟨rfl, rfl, rfl⟩⟩
theorem lf7_96 : sLf RX7 96 7 30 := ⟨_, rfl, by decide, sW_in (List.mem_of_getElem? (i := 590) (by decide +kernel)) rfl⟩
theorem lp7_96 : sLp RX7 "<init>" 96 7 30 := ⟨_, rfl, by decide, sW_in (List.mem_of_getElem? (i := 590) (by decide +kernel)) rfl, Or.inr ⟨rfl, rfl, rfl⟩⟩
theorem lf7_99 : sLf RX7 99 7 31 := ⟨_, rfl, by decide, sW_in (List.mem_of_getElem? (i := 591) (by decide +kernel)) rfl⟩
theorem lp7_99 : sLp RX7 "<init>" 99 7 31 := ⟨_, rfl, by decide, sW_in (List.mem_of_getElem? (i := 591) (by decide +kernel)) rfl, Or.inr ⟨rfl, rfl, rfl⟩⟩
theorem lf7_102 : sLf RX7 102 7 33 := ⟨_, rfl, by decide, sW_in (List.mem_of_getElem? (i := 593) (by decide +kernel)) rfl⟩
theorem lp7_102 : sLp RX7 "<init>" 102 7 33 := ⟨_, rfl, by decide, sW_in (List.mem_of_getElem? (i := 593) (by decide +kernel)) rfl, Or.inr ⟨rfl, rfl, rfl⟩⟩
theorem lf7_105 : sLf RX7 105 7 34 := ⟨_, rfl, by decide, sW_in (List.mem_of_getElem? (i := 594) (by decide +kernel)) rfl⟩
theorem lp7_105 : sLp RX7 "<init>" 105 7 34 := ⟨_, rfl, by decide, sW_in (List.mem_of_getElem? (i := 594) (by decide +kernel)) rfl, Or.inr ⟨rfl, rfl, rfl⟩⟩
theorem lf7_108 : sLf RX7 108 7 35 := ⟨_, rfl, by decide, sW_in (List.mem_of_getElem? (i := 595) (by decide +kernel)) rfl⟩
theorem lp7_108 : sLp RX7 "<init>" 108 7 35 := ⟨_, rfl, by decide, sW_in (List.mem_of_getElem? (i := 595) (by decide +kernel)) rfl, Or.inr ⟨rfl, rfl, rfl⟩⟩
theorem lf7_111 : sLf RX7 111 7 36 := ⟨_, rfl, by decide, sW_in (List.mem_of_getElem? (i := 596) (by decide +kernel)) rfl⟩
theorem lp7_111 : sLp RX7 "<init>" 111 7 36 := ⟨_, rfl, by decide, sW_in (List.mem_of_getElem? (i := 596) (by decide +kernel)) rfl, Or.inr ⟨rfl, rfl, rfl⟩⟩
theorem lf7_114 : sLf RX7 114 7 37 := ⟨_, rfl, by decide, sW_in (List.mem_of_getElem? (i := 597) (by decide +kernel)) rfl⟩
theorem lp7_114 : sLp RX7 "<init>" 114 7 37 := ⟨_, rfl, by decide, sW_in (List.mem_of_getElem? (i := 597) (by decide +kernel)) rfl, Or.inr ⟨rfl, rfl, rfl⟩⟩
theorem lf7_117 : sLf RX7 117 7 38 := ⟨_, rfl, by decide, sW_in (List.mem_of_getElem? (i := 598) (by decide +kernel)) rfl⟩
theorem lp7_117 : sLp RX7 "<init>" 117 7 38 := ⟨_, rfl, by decide, sW_in (List.mem_of_getElem? (i := 598) (by decide +kernel)) rfl, Or.inr ⟨rfl, rfl, rfl⟩⟩
theorem lf7_120 : sLf RX7 120 7 39 := ⟨_, rfl, by decide, sW_in (List.mem_of_getElem? (i := 599) (by decide +kernel)) rfl⟩
theorem lp7_120 : sLp RX7 "<init>" 120 7 39 := ⟨_, rfl, by decide, sW_in (List.mem_of_getElem? (i := 599) (by decide +kernel)) rfl, Or.inr ⟨rfl, rfl, rfl⟩⟩
theorem lf7_123 : sLf RX7 123 7 40 := ⟨_, rfl, by decide, sW_in (List.mem_of_getElem? (i := 600) (by decide +kernel)) rfl⟩
theorem lp7_123 : sLp RX7 "<init>" 123 7 40 := ⟨_, rfl, by decide, sW_in (List.mem_of_getElem? (i := 600) (by decide +kernel)) rfl, Or.inr ⟨rfl, rfl, rfl⟩⟩
theorem lf7_126 : sLf RX7 126 7 41 := ⟨_, rfl, by decide, sW_in (List.mem_of_getElem? (i := 601) (by decide +kernel)) rfl⟩
theorem lp7_126 : sLp RX7 "<init>" 126 7 41 := ⟨_, rfl, by decide, sW_in (List.mem_of_getElem? (i := 601) (by decide +kernel)) rfl, Or.inr ⟨rfl, rfl, rfl⟩⟩
theorem lf7_129 : sLf RX7 129 7 42 := ⟨_, rfl, by decide, sW_in (List.mem_of_getElem? (i := 602) (by decide +kernel)) rfl⟩
theorem lp7_129 : sLp RX7 "<init>" 129 7 42 := ⟨_, rfl, by decide, sW_in (List.mem_of_getElem? (i := 602) (by decide +kernel)) rfl, Or.inr ⟨rfl, rfl, rfl⟩⟩
theorem lf7_132 : sLf RX7 132 7 43 := ⟨_, rfl, by decide, sW_in (List.mem_of_getElem? (i := 603) (by decide +kernel)) rfl⟩
theorem lp7_132 : sLp RX7 "<init>" 132 7 43 := ⟨_, rfl, by decide, sW_in (List.mem_of_getElem? (i := 603) (by decide +kernel)) rfl, Or.inr ⟨rfl, rfl, rfl⟩⟩
theorem lf7_135 : sLf RX7 135 7 47 := ⟨_, rfl, by decide, sW_in (List.mem_of_getElem? (i := 607) (by decide +kernel)) rfl⟩
theorem lp7_135 : sLp RX7 "<init>" 135 7 47 := ⟨_, rfl, by decide, sW_in (List.mem_of_getElem? (i := 607) (by decide +kernel)) rfl, Or.inr ⟨rfl, rfl, rfl⟩⟩
theorem lf7_138 : sLf RX7 138 7 48 := ⟨_, rfl, by decide, sW_in (List.mem_of_getElem? (i := 608) (by decide +kernel)) rfl⟩
theorem lp7_138 (ini : String) : sLp RX7 ini 138 7 48 := ⟨_, rfl, by decide, sW_in (List.mem_of_getElem? (i := 608) (by decide +kernel)) rfl, Or.inl rfl⟩
theorem lf7_142 : sLf RX7 142 7 56 := ⟨_, rfl, by decide, sW_in (List.mem_of_getElem? (i := 616) (by decide +kernel)) rfl⟩
theorem lp7_142 : sLp RX7 "<init>" 142 7 56 := ⟨_, rfl, by decide, sW_in (List.mem_of_getElem? (i := 616) (by decide +kernel)) rfl, Or.inr ⟨rfl, rfl, rfl⟩⟩
theorem lf7_145 : sLf RX7 145 7 57 := ⟨_, rfl, by decide, sW_in (List.mem_of_getElem? (i := 617) (by decide +kernel)) rfl⟩
theorem lp7_145 : sLp RX7 "<init>" 145 7 57 := ⟨_, rfl, by decide, sW_in (List.mem_of_getElem? (i := 617) (by decide +kernel)) rfl, Or.inr ⟨rfl, rfl, rfl⟩⟩
theorem lf7_148 : sLf RX7 148 7 58 := ⟨_, rfl, by decide, sW_in (List.mem_of_getElem? (i := 618) (by decide +kernel)) rfl⟩
theorem lp7_148 : sLp RX7 "<init>" 148 7 58 := ⟨_, rfl, by decide, sW_in (List.mem_of_getElem? (i := 618) (by decide +kernel)) rfl, Or.inr ⟨rfl, rfl, rfl⟩⟩
theorem lf7_151 : sLf RX7 151 7 60 := ⟨_, rfl, by decide, sW_in (List.mem_of_getElem? (i := 620) (by decide +kernel)) rfl⟩
theorem lp7_151 : sLp RX7 "<init>" 151 7 60 := ⟨_, rfl, by decide, sW_in (List.mem_of_getElem? (i := 620) (by decide +kernel)) rfl, Or.inr ⟨rfl, rfl, rfl⟩⟩
theorem lf7_154 : sLf RX7 154 7 59 := ⟨_, rfl, by decide, sW_in (List.mem_of_getElem? (i := 619) (by decide +kernel)) rfl⟩
theorem lp7_154 (ini : String) : sLp RX7 ini 154 7 59 := ⟨_, rfl, by decide, sW_in (List.mem_of_getElem? (i := 619) (by decide +kernel)) rfl, Or.inl rfl⟩
theorem lf7_157 : sLf RX7 157 7 6 := ⟨_, rfl, by decide, sW_in (List.mem_of_getElem? (i := 566) (by decide +kernel)) rfl⟩
theorem lp7_157 (ini : String) : sLp RX7 ini 157 7 6 := ⟨_, rfl, by decide, sW_in (List.mem_of_getElem? (i := 566) (by decide +kernel)) rfl, Or.inl rfl⟩
theorem lf7_178 : sLf RX7 178 7 44 := ⟨_, rfl, by decide, sW_in (List.mem_of_getElem? (i := 604) (by decide +kernel)) rfl⟩
theorem lp7_178 (ini : String) : sLp RX7 ini 178 7 44 := ⟨_, rfl, by decide, sW_in (List.mem_of_getElem? (i := 604) (by decide +kernel)) rfl, Or.inl rfl⟩
theorem lf7_181 : sLf RX7 181 7 45 := ⟨_, rfl, by decide, sW_in (List.mem_of_getElem? (i := 605) (by decide +kernel)) rfl⟩
theorem lp7_181 (ini : String) : sLp RX7 ini 181 7 45 := ⟨_, rfl, by decide, sW_in (List.mem_of_getElem? (i := 605) (by decide +kernel)) rfl, Or.inl rfl⟩
theorem lf7_184 : sLf RX7 184 7 46 := ⟨_, rfl, by decide, sW_in (List.mem_of_getElem? (i := 606) (by decide +kernel)) rfl⟩
theorem lp7_184 (ini : String) : sLp RX7 ini 184 7 46 := ⟨_, rfl, by decide, sW_in (List.mem_of_getElem? (i := 606) (by decide +kernel)) rfl, Or.inl rfl⟩
theorem lf7_202 : sLf RX7 202 7 32 := ⟨_, rfl, by decide, sW_in (List.mem_of_getElem? (i := 592) (by decide +kernel)) rfl⟩
theorem lp7_202 (ini : String) : sLp RX7 ini 202 7 32 := ⟨_, rfl, by decide, sW_in (List.mem_of_getElem? (i := 592) (by decide +kernel)) rfl, Or.inl rfl⟩
theorem lf7_211 : sLf RX7 211 7 49 := ⟨_, rfl, by decide, sW_in (List.mem_of_getElem? (i := 609) (by decide +kernel)) rfl⟩
theorem lp7_211 (ini : String) : sLp RX7 ini 211 7 49 := ⟨_, rfl, by decide, sW_in (List.mem_of_getElem? (i := 609) (by decide +kernel)) rfl, Or.inl rfl⟩
theorem lf7_214 : sLf RX7 214 7 50 := ⟨_, rfl, by decide, sW_in (List.mem_of_getElem? (i := 610) (by decide +kernel)) rfl⟩
theorem lp7_214 (ini : String) : sLp RX7 ini 214 7 50 := ⟨_, rfl, by decide, sW_in (List.mem_of_getElem? (i := 610) (by decide +kernel)) rfl, Or.inl rfl⟩
theorem lf7_217 : sLf RX7 217 7 51 := ⟨_, rfl, by decide, sW_in (List.mem_of_getElem? (i := 611) (by decide +kernel)) rfl⟩
theorem lp7_217 (ini : String) : sLp RX7 ini 217 7 51 := ⟨_, rfl, by decide, sW_in (List.mem_of_getElem? (i := 611) (by decide +kernel)) rfl, Or.inl rfl⟩
theorem lf7_220 : sLf RX7 220 7 27 := ⟨_, rfl, by decide, sW_in (List.mem_of_getElem? (i := 587) (by decide +kernel)) rfl⟩
theorem lp7_220 (ini : String) : sLp RX7 ini 220 7 27 := ⟨_, rfl, by decide, sW_in (List.mem_of_getElem? (i := 587) (by decide +kernel)) rfl, Or.inl rfl⟩
theorem lf7_242 : sLf RX7 242 7 53 := ⟨_, rfl, by decide, sW_in (List.mem_of_getElem? (i := 613) (by decide +kernel)) rfl⟩
theorem lp7_242 (ini : String) : sLp RX7 ini 242 7 53 := ⟨_, rfl, by decide, sW_in (List.mem_of_getElem? (i := 613) (by decide +kernel)) rfl, Or.inl rfl⟩
theorem lf7_264 : sLf RX7 264 7 52 := ⟨_, rfl, by decide, sW_in (List.mem_of_getElem? (i := 612) (by decide +kernel)) rfl⟩
theorem lp7_264 (ini : String) : sLp RX7 ini 264 7 52 := ⟨_, rfl, by decide, sW_in (List.mem_of_getElem? (i := 612) (by decide +kernel)) rfl, Or.inl rfl⟩
theorem lf7_267 : sLf RX7 267 7 55 := ⟨_, rfl, by decide, sW_in (List.mem_of_getElem? (i := 615) (by decide +kernel)) rfl⟩
theorem lp7_267 (ini : String) : sLp RX7 ini 267 7 55 := ⟨_, rfl, by decide, sW_in (List.mem_of_getElem? (i := 615) (by decide +kernel)) rfl, Or.inl rfl⟩
theorem lf7_282 : sLf RX7 282 7 54 := ⟨_, rfl, by decide, sW_in (List.mem_of_getElem? (i := 614) (by decide +kernel)) rfl⟩
theorem lp7_282 (ini : String) : sLp RX7 ini 282 7 54 := ⟨_, rfl, by decide, sW_in (List.mem_of_getElem? (i := 614) (by decide +kernel)) rfl, Or.inl rfl⟩
theorem ok0 : sOk 0 0 := ⟨plainFor_of_name (by decide +kernel), sW_in (List.mem_of_getElem? (i := 61) (by decide +kernel)) rfl, sW_in (List.mem_of_getElem? (i := 39) (by decide +kernel)) rfl, by decide +kernel, by decide +kernel, by decide +kernel, by decide⟩
theorem ok1 : sOk 1 1 := ⟨plainFor_of_name (by decide +kernel), sW_in (List.mem_of_getElem? (i := 193) (by decide +kernel)) rfl, sW_in (List.mem_of_getElem? (i := 39) (by decide +kernel)) rfl, by decide +kernel, by decide +kernel, by decide +kernel, by decide⟩
theorem ok2 : sOk 2 3 := ⟨plainFor_of_name (by decide +kernel), sW_in (List.mem_of_getElem? (i := 96) (by decide +kernel)) rfl, sW_in (List.mem_of_getElem? (i := 42) (by decide +kernel)) rfl, by decide +kernel, by decide +kernel, by decide +kernel, by decide⟩
theorem ok3 : sOk 3 0 := ⟨plainFor_of_name (by decide +kernel), sW_in (List.mem_of_getElem? (i := 206) (by decide +kernel)) rfl, sW_in (List.mem_of_getElem? (i := 42) (by decide +kernel)) rfl, by decide +kernel, by decide +kernel, by decide +kernel, by decide⟩
theorem ok4 : sOk 4 1 := ⟨plainFor_of_name (by decide +kernel), sW_in (List.mem_of_getElem? (i := 210) (by decide +kernel)) rfl, sW_in (List.mem_of_getElem? (i := 42) (by decide +kernel)) rfl, by decide +kernel, by decide +kernel, by decide +kernel, by decide⟩
theorem ok5 : sOk 5 1 := ⟨plainFor_of_name (by decide +kernel), sW_in (List.mem_of_getElem? (i := 245) (by decide +kernel)) rfl, sW_in (List.mem_of_getElem? (i := 42) (by decide +kernel)) rfl, by decide +kernel, by decide +kernel, by decide +kernel, by decide⟩
theorem ok6 : sOk 6 2 := ⟨plainFor_of_name (by decide +kernel), sW_in (List.mem_of_getElem? (i := 230) (by decide +kernel)) rfl, sW_in (List.mem_of_getElem? (i := 42) (by decide +kernel)) rfl, by decide +kernel, by decide +kernel, by decide +kernel, by decide⟩
theorem ok7 : sOk 7 1 := ⟨plainFor_of_name (by decide +kernel), sW_in (List.mem_of_getElem? (i := 419) (by decide +kernel)) rfl, sW_in (List.mem_of_getElem? (i := 42) (by decide +kernel)) rfl, by decide +kernel, by decide +kernel, by decide +kernel, by decide⟩
theorem ok8 : sOk 8 0 := ⟨plainFor_of_name (by decide +kernel), sW_in (List.mem_of_getElem? (i := 77) (by decide +kernel)) rfl, sW_in (List.mem_of_getElem? (i := 40) (by decide +kernel)) rfl, by decide +kernel, by decide +kernel, by decide +kernel, by decide⟩
theorem ok9 : sOk 9 2 := ⟨plainFor_of_name (by decide +kernel), sW_in (List.mem_of_getElem? (i := 384) (by decide +kernel)) rfl, sW_in (List.mem_of_getElem? (i := 40) (by decide +kernel)) rfl, by decide +kernel, by decide +kernel, by decide +kernel, by decide⟩
theorem ok10 : sOk 10 1 := ⟨plainFor_of_name (by decide +kernel), sW_in (List.mem_of_getElem? (i := 509) (by decide +kernel)) rfl, sW_in (List.mem_of_getElem? (i := 40) (by decide +kernel)) rfl, by decide +kernel, by decide +kernel, by decide +kernel, by decide⟩
theorem ok11 : sOk 11 1 := ⟨plainFor_of_name (by decide +kernel), sW_in (List.mem_of_getElem? (i := 406) (by decide +kernel)) rfl, sW_in (List.mem_of_getElem? (i := 40) (by decide +kernel)) rfl, by decide +kernel, by decide +kernel, by decide +kernel, by decide⟩
theorem ok12 : sOk 12 1 := ⟨plainFor_of_name (by decide +kernel), sW_in (List.mem_of_getElem? (i := 411) (by decide +kernel)) rfl, sW_in (List.mem_of_getElem? (i := 40) (by decide +kernel)) rfl, by decide +kernel, by decide +kernel, by decide +kernel, by decide⟩
theorem ok13 : sOk 13 1 := ⟨plainFor_of_name (by decide +kernel), sW_in (List.mem_of_getElem? (i := 392) (by decide +kernel)) rfl, sW_in (List.mem_of_getElem? (i := 40) (by decide +kernel)) rfl, by decide +kernel, by decide +kernel, by decide +kernel, by decide⟩
theorem ok14 : sOk 14 1 := ⟨plainFor_of_name (by decide +kernel), sW_in (List.mem_of_getElem? (i := 396) (by decide +kernel)) rfl, sW_in (List.mem_of_getElem? (i := 40) (by decide +kernel)) rfl, by decide +kernel, by decide +kernel, by decide +kernel, by decide⟩
theorem ok15 : sOk 15 2 := ⟨plainFor_of_name (by decide +kernel), sW_in (List.mem_of_getElem? (i := 401) (by decide +kernel)) rfl, sW_in (List.mem_of_getElem? (i := 40) (by decide +kernel)) rfl, by decide +kernel, by decide +kernel, by decide +kernel, by decide⟩
theorem ok16 : sOk 16 1 := ⟨plainFor_of_name (by decide +kernel), sW_in (List.mem_of_getElem? (i := 427) (by decide +kernel)) rfl, sW_in (List.mem_of_getElem? (i := 40) (by decide +kernel)) rfl, by decide +kernel, by decide +kernel, by decide +kernel, by decide⟩
theorem ok17 : sOk 17 1 := ⟨plainFor_of_name (by decide +kernel), sW_in (List.mem_of_getElem? (i := 431) (by decide +kernel)) rfl, sW_in (List.mem_of_getElem? (i := 40) (by decide +kernel)) rfl, by decide +kernel, by decide +kernel, by decide +kernel, by decide⟩
theorem ok18 : sOk 18 1 := ⟨plainFor_of_name (by decide +kernel), sW_in (List.mem_of_getElem? (i := 489) (by decide +kernel)) rfl, sW_in (List.mem_of_getElem? (i := 40) (by decide +kernel)) rfl, by decide +kernel, by decide +kernel, by decide +kernel, by decide⟩
theorem ok19 : sOk 19 2 := ⟨plainFor_of_name (by decide +kernel), sW_in (List.mem_of_getElem? (i := 492) (by decide +kernel)) rfl, sW_in (List.mem_of_getElem? (i := 40) (by decide +kernel)) rfl, by decide +kernel, by decide +kernel, by decide +kernel, by decide⟩
theorem ok20 : sOk 20 1 := ⟨plainFor_of_name (by decide +kernel), sW_in (List.mem_of_getElem? (i := 499) (by decide +kernel)) rfl, sW_in (List.mem_of_getElem? (i := 40) (by decide +kernel)) rfl, by decide +kernel, by decide +kernel, by decide +kernel, by decide⟩
theorem ok21 : sOk 21 2 := ⟨plainFor_of_name (by decide +kernel), sW_in (List.mem_of_getElem? (i := 461) (by decide +kernel)) rfl, sW_in (List.mem_of_getElem? (i := 40) (by decide +kernel)) rfl, by decide +kernel, by decide +kernel, by decide +kernel, by decide⟩
theorem ok22 : sOk 22 2 := ⟨plainFor_of_name (by decide +kernel), sW_in (List.mem_of_getElem? (i := 465) (by decide +kernel)) rfl, sW_in (List.mem_of_getElem? (i := 40) (by decide +kernel)) rfl, by decide +kernel, by decide +kernel, by decide +kernel, by decide⟩
theorem ok23 : sOk 23 3 := ⟨plainFor_of_name (by decide +kernel), sW_in (List.mem_of_getElem? (i := 261) (by decide +kernel)) rfl, sW_in (List.mem_of_getElem? (i := 45) (by decide +kernel)) rfl, by decide +kernel, by decide +kernel, by decide +kernel, by decide⟩
theorem ok24 : sOk 24 1 := ⟨plainFor_of_name (by decide +kernel), sW_in (List.mem_of_getElem? (i := 352) (by decide +kernel)) rfl, sW_in (List.mem_of_getElem? (i := 45) (by decide +kernel)) rfl, by decide +kernel, by decide +kernel, by decide +kernel, by decide⟩
theorem ok25 : sOk 25 1 := ⟨plainFor_of_name (by decide +kernel), sW_in (List.mem_of_getElem? (i := 372) (by decide +kernel)) rfl, sW_in (List.mem_of_getElem? (i := 45) (by decide +kernel)) rfl, by decide +kernel, by decide +kernel, by decide +kernel, by decide⟩
theorem ok26 : sOk 26 0 := ⟨plainFor_of_name (by decide +kernel), sW_in (List.mem_of_getElem? (i := 344) (by decide +kernel)) rfl, sW_in (List.mem_of_getElem? (i := 45) (by decide +kernel)) rfl, by decide +kernel, by decide +kernel, by decide +kernel, by decide⟩
theorem ok27 : sOk 27 0 := ⟨plainFor_of_name (by decide +kernel), sW_in (List.mem_of_getElem? (i := 435) (by decide +kernel)) rfl, sW_in (List.mem_of_getElem? (i := 45) (by decide +kernel)) rfl, by decide +kernel, by decide +kernel, by decide +kernel, by decide⟩
theorem ok28 : sOk 28 1 := ⟨plainFor_of_name (by decide +kernel), sW_in (List.mem_of_getElem? (i := 503) (by decide +kernel)) rfl, sW_in (List.mem_of_getElem? (i := 45) (by decide +kernel)) rfl, by decide +kernel, by decide +kernel, by decide +kernel, by decide⟩
theorem ok29 : sOk 29 1 := ⟨plainFor_of_name (by decide +kernel), sW_in (List.mem_of_getElem? (i := 423) (by decide +kernel)) rfl, sW_in (List.mem_of_getElem? (i := 45) (by decide +kernel)) rfl, by decide +kernel, by decide +kernel, by decide +kernel, by decide⟩
theorem ok30 : sOk 30 1 := ⟨plainFor_of_name (by decide +kernel), sW_in (List.mem_of_getElem? (i := 388) (by decide +kernel)) rfl, sW_in (List.mem_of_getElem? (i := 45) (by decide +kernel)) rfl, by decide +kernel, by decide +kernel, by decide +kernel, by decide⟩
theorem ok31 : sOk 31 0 := ⟨plainFor_of_name (by decide +kernel), sW_in (List.mem_of_getElem? (i := 83) (by decide +kernel)) rfl, sW_in (List.mem_of_getElem? (i := 41) (by decide +kernel)) rfl, by decide +kernel, by decide +kernel, by decide +kernel, by decide⟩
theorem ok32 : sOk 32 1 := ⟨plainFor_of_name (by decide +kernel), sW_in (List.mem_of_getElem? (i := 189) (by decide +kernel)) rfl, sW_in (List.mem_of_getElem? (i := 41) (by decide +kernel)) rfl, by decide +kernel, by decide +kernel, by decide +kernel, by decide⟩
theorem ok33 : sOk 33 2 := ⟨plainFor_of_name (by decide +kernel), sW_in (List.mem_of_getElem? (i := 197) (by decide +kernel)) rfl, sW_in (List.mem_of_getElem? (i := 41) (by decide +kernel)) rfl, by decide +kernel, by decide +kernel, by decide +kernel, by decide⟩
theorem ok34 : sOk 34 1 := ⟨plainFor_of_name (by decide +kernel), sW_in (List.mem_of_getElem? (i := 337) (by decide +kernel)) rfl, sW_in (List.mem_of_getElem? (i := 41) (by decide +kernel)) rfl, by decide +kernel, by decide +kernel, by decide +kernel, by decide⟩
theorem ok35 : sOk 35 2 := ⟨plainFor_of_name (by decide +kernel), sW_in (List.mem_of_getElem? (i := 257) (by decide +kernel)) rfl, sW_in (List.mem_of_getElem? (i := 41) (by decide +kernel)) rfl, by decide +kernel, by decide +kernel, by decide +kernel, by decide⟩
theorem ok36 : sOk 36 0 := ⟨plainFor_of_name (by decide +kernel), sW_in (List.mem_of_getElem? (i := 548) (by decide +kernel)) rfl, sW_in (List.mem_of_getElem? (i := 41) (by decide +kernel)) rfl, by decide +kernel, by decide +kernel, by decide +kernel, by decide⟩
theorem ok37 : sOk 37 0 := ⟨plainFor_of_name (by decide +kernel), sW_in (List.mem_of_getElem? (i := 439) (by decide +kernel)) rfl, sW_in (List.mem_of_getElem? (i := 47) (by decide +kernel)) rfl, by decide +kernel, by decide +kernel, by decide +kernel, by decide⟩
theorem ok38 : sOk 38 2 := ⟨plainFor_of_name (by decide +kernel), sW_in (List.mem_of_getElem? (i := 469) (by decide +kernel)) rfl, sW_in (List.mem_of_getElem? (i := 47) (by decide +kernel)) rfl, by decide +kernel, by decide +kernel, by decide +kernel, by decide⟩
theorem ok39 : sOk 39 1 := ⟨plainFor_of_name (by decide +kernel), sW_in (List.mem_of_getElem? (i := 376) (by decide +kernel)) rfl, sW_in (List.mem_of_getElem? (i := 47) (by decide +kernel)) rfl, by decide +kernel, by decide +kernel, by decide +kernel, by decide⟩
theorem ok40 : sOk 40 1 := ⟨plainFor_of_name (by decide +kernel), sW_in (List.mem_of_getElem? (i := 415) (by decide +kernel)) rfl, sW_in (List.mem_of_getElem? (i := 47) (by decide +kernel)) rfl, by decide +kernel, by decide +kernel, by decide +kernel, by decide⟩
theorem ok41 : sOk 41 1 := ⟨plainFor_of_name (by decide +kernel), sW_in (List.mem_of_getElem? (i := 477) (by decide +kernel)) rfl, sW_in (List.mem_of_getElem? (i := 47) (by decide +kernel)) rfl, by decide +kernel, by decide +kernel, by decide +kernel, by decide⟩
theorem ok42 : sOk 42 1 := ⟨plainFor_of_name (by decide +kernel), sW_in (List.mem_of_getElem? (i := 482) (by decide +kernel)) rfl, sW_in (List.mem_of_getElem? (i := 47) (by decide +kernel)) rfl, by decide +kernel, by decide +kernel, by decide +kernel, by decide⟩
theorem ok43 : sOk 43 0 := ⟨plainFor_of_name (by decide +kernel), sW_in (List.mem_of_getElem? (i := 496) (by decide +kernel)) rfl, sW_in (List.mem_of_getElem? (i := 47) (by decide +kernel)) rfl, by decide +kernel, by decide +kernel, by decide +kernel, by decide⟩
theorem ok44 : sOk 44 0 := ⟨plainFor_of_name (by decide +kernel), sW_in (List.mem_of_getElem? (i := 53) (by decide +kernel)) rfl, sW_in (List.mem_of_getElem? (i := 38) (by decide +kernel)) rfl, by decide +kernel, by decide +kernel, by decide +kernel, by decide⟩
theorem ok45 : sOk 45 2 := ⟨plainFor_of_name (by decide +kernel), sW_in (List.mem_of_getElem? (i := 185) (by decide +kernel)) rfl, sW_in (List.mem_of_getElem? (i := 38) (by decide +kernel)) rfl, by decide +kernel, by decide +kernel, by decide +kernel, by decide⟩
theorem ok46 : sOk 46 3 := ⟨plainFor_of_name (by decide +kernel), sW_in (List.mem_of_getElem? (i := 202) (by decide +kernel)) rfl, sW_in (List.mem_of_getElem? (i := 38) (by decide +kernel)) rfl, by decide +kernel, by decide +kernel, by decide +kernel, by decide⟩
theorem ok47 : sOk 47 1 := ⟨plainFor_of_name (by decide +kernel), sW_in (List.mem_of_getElem? (i := 221) (by decide +kernel)) rfl, sW_in (List.mem_of_getElem? (i := 38) (by decide +kernel)) rfl, by decide +kernel, by decide +kernel, by decide +kernel, by decide⟩
theorem ok48 : sOk 48 5 := ⟨plainFor_of_name (by decide +kernel), sW_in (List.mem_of_getElem? (i := 226) (by decide +kernel)) rfl, sW_in (List.mem_of_getElem? (i := 38) (by decide +kernel)) rfl, by decide +kernel, by decide +kernel, by decide +kernel, by decide⟩
theorem ok49 : sOk 49 1 := ⟨plainFor_of_name (by decide +kernel), sW_in (List.mem_of_getElem? (i := 237) (by decide +kernel)) rfl, sW_in (List.mem_of_getElem? (i := 38) (by decide +kernel)) rfl, by decide +kernel, by decide +kernel, by decide +kernel, by decide⟩
theorem ok50 : sOk 50 2 := ⟨plainFor_of_name (by decide +kernel), sW_in (List.mem_of_getElem? (i := 241) (by decide +kernel)) rfl, sW_in (List.mem_of_getElem? (i := 38) (by decide +kernel)) rfl, by decide +kernel, by decide +kernel, by decide +kernel, by decide⟩
theorem ok51 : sOk 51 2 := ⟨plainFor_of_name (by decide +kernel), sW_in (List.mem_of_getElem? (i := 250) (by decide +kernel)) rfl, sW_in (List.mem_of_getElem? (i := 38) (by decide +kernel)) rfl, by decide +kernel, by decide +kernel, by decide +kernel, by decide⟩
theorem ok52 : sOk 52 2 := ⟨plainFor_of_name (by decide +kernel), sW_in (List.mem_of_getElem? (i := 333) (by decide +kernel)) rfl, sW_in (List.mem_of_getElem? (i := 38) (by decide +kernel)) rfl, by decide +kernel, by decide +kernel, by decide +kernel, by decide⟩
theorem ok53 : sOk 53 3 := ⟨plainFor_of_name (by decide +kernel), sW_in (List.mem_of_getElem? (i := 348) (by decide +kernel)) rfl, sW_in (List.mem_of_getElem? (i := 38) (by decide +kernel)) rfl, by decide +kernel, by decide +kernel, by decide +kernel, by decide⟩
theorem ok54 : sOk 54 3 := ⟨plainFor_of_name (by decide +kernel), sW_in (List.mem_of_getElem? (i := 356) (by decide +kernel)) rfl, sW_in (List.mem_of_getElem? (i := 38) (by decide +kernel)) rfl, by decide +kernel, by decide +kernel, by decide +kernel, by decide⟩
theorem ok55 : sOk 55 1 := ⟨plainFor_of_name (by decide +kernel), sW_in (List.mem_of_getElem? (i := 360) (by decide +kernel)) rfl, sW_in (List.mem_of_getElem? (i := 38) (by decide +kernel)) rfl, by decide +kernel, by decide +kernel, by decide +kernel, by decide⟩
theorem ok56 : sOk 56 2 := ⟨plainFor_of_name (by decide +kernel), sW_in (List.mem_of_getElem? (i := 364) (by decide +kernel)) rfl, sW_in (List.mem_of_getElem? (i := 38) (by decide +kernel)) rfl, by decide +kernel, by decide +kernel, by decide +kernel, by decide⟩
theorem ok57 : sOk 57 3 := ⟨plainFor_of_name (by decide +kernel), sW_in (List.mem_of_getElem? (i := 368) (by decide +kernel)) rfl, sW_in (List.mem_of_getElem? (i := 38) (by decide +kernel)) rfl, by decide +kernel, by decide +kernel, by decide +kernel, by decide⟩
theorem ok58 : sOk 58 1 := ⟨plainFor_of_name (by decide +kernel), sW_in (List.mem_of_getElem? (i := 380) (by decide +kernel)) rfl, sW_in (List.mem_of_getElem? (i := 38) (by decide +kernel)) rfl, by decide +kernel, by decide +kernel, by decide +kernel, by decide⟩
theorem ok59 : sOk 59 1 := ⟨plainFor_of_name (by decide +kernel), sW_in (List.mem_of_getElem? (i := 513) (by decide +kernel)) rfl, sW_in (List.mem_of_getElem? (i := 38) (by decide +kernel)) rfl, by decide +kernel, by decide +kernel, by decide +kernel, by decide⟩
theorem ok60 : sOk 60 1 := ⟨plainFor_of_name (by decide +kernel), sW_in (List.mem_of_getElem? (i := 517) (by decide +kernel)) rfl, sW_in (List.mem_of_getElem? (i := 38) (by decide +kernel)) rfl, by decide +kernel, by decide +kernel, by decide +kernel, by decide⟩
theorem ok61 : sOk 61 1 := ⟨plainFor_of_name (by decide +kernel), sW_in (List.mem_of_getElem? (i := 521) (by decide +kernel)) rfl, sW_in (List.mem_of_getElem? (i := 38) (by decide +kernel)) rfl, by decide +kernel, by decide +kernel, by decide +kernel, by decide⟩
theorem ok62 : sOk 62 1 := ⟨plainFor_of_name (by decide +kernel), sW_in (List.mem_of_getElem? (i := 525) (by decide +kernel)) rfl, sW_in (List.mem_of_getElem? (i := 38) (by decide +kernel)) rfl, by decide +kernel, by decide +kernel, by decide +kernel, by decide⟩
theorem ok63 : sOk 63 1 := ⟨plainFor_of_name (by decide +kernel), sW_in (List.mem_of_getElem? (i := 532) (by decide +kernel)) rfl, sW_in (List.mem_of_getElem? (i := 38) (by decide +kernel)) rfl, by decide +kernel, by decide +kernel, by decide +kernel, by decide⟩
theorem ok64 : sOk 64 0 := ⟨plainFor_of_name (by decide +kernel), sW_in (List.mem_of_getElem? (i := 536) (by decide +kernel)) rfl, sW_in (List.mem_of_getElem? (i := 38) (by decide +kernel)) rfl, by decide +kernel, by decide +kernel, by decide +kernel, by decide⟩
theorem ok65 : sOk 65 2 := ⟨plainFor_of_name (by decide +kernel), sW_in (List.mem_of_getElem? (i := 540) (by decide +kernel)) rfl, sW_in (List.mem_of_getElem? (i := 38) (by decide +kernel)) rfl, by decide +kernel, by decide +kernel, by decide +kernel, by decide⟩
theorem ok66 : sOk 66 1 := ⟨plainFor_of_name (by decide +kernel), sW_in (List.mem_of_getElem? (i := 544) (by decide +kernel)) rfl, sW_in (List.mem_of_getElem? (i := 38) (by decide +kernel)) rfl, by decide +kernel, by decide +kernel, by decide +kernel, by decide⟩
theorem ok67 : sOk 67 1 := ⟨plainFor_of_name (by decide +kernel), sW_in (List.mem_of_getElem? (i := 552) (by decide +kernel)) rfl, sW_in (List.mem_of_getElem? (i := 38) (by decide +kernel)) rfl, by decide +kernel, by decide +kernel, by decide +kernel, by decide⟩
theorem ok68 : sOk 68 1 := ⟨plainFor_of_name (by decide +kernel), sW_in (List.mem_of_getElem? (i := 253) (by decide +kernel)) rfl, sW_in (List.mem_of_getElem? (i := 38) (by decide +kernel)) rfl, by decide +kernel, by decide +kernel, by decide +kernel, by decide⟩
theorem ok69 : sOk 69 1 := ⟨plainFor_of_name (by decide +kernel), sW_in (List.mem_of_getElem? (i := 340) (by decide +kernel)) rfl, sW_in (List.mem_of_getElem? (i := 38) (by decide +kernel)) rfl, by decide +kernel, by decide +kernel, by decide +kernel, by decide⟩
theorem ok70 : sOk 70 2 := ⟨plainFor_of_name (by decide +kernel), sW_in (List.mem_of_getElem? (i := 528) (by decide +kernel)) rfl, sW_in (List.mem_of_getElem? (i := 38) (by decide +kernel)) rfl, by decide +kernel, by decide +kernel, by decide +kernel, by decide⟩
theorem ok71 : sOk 71 2 := ⟨plainFor_of_name (by decide +kernel), sW_in (List.mem_of_getElem? (i := 91) (by decide +kernel)) rfl, sW_in (List.mem_of_getElem? (i := 38) (by decide +kernel)) rfl, by decide +kernel, by decide +kernel, by decide +kernel, by decide⟩
theorem ok72 : sOk 72 0 := ⟨plainFor_of_name (by decide +kernel), sW_in (List.mem_of_getElem? (i := 557) (by decide +kernel)) rfl, sW_in (List.mem_of_getElem? (i := 43) (by decide +kernel)) rfl, by decide +kernel, by decide +kernel, by decide +kernel, by decide⟩
theorem ok73 : sOk 73 1 := ⟨plainFor_of_name (by decide +kernel), sW_in (List.mem_of_getElem? (i := 755) (by decide +kernel)) rfl, sW_in (List.mem_of_getElem? (i := 43) (by decide +kernel)) rfl, by decide +kernel, by decide +kernel, by decide +kernel, by decide⟩
theorem ok74 : sOk 74 1 := ⟨plainFor_of_name (by decide +kernel), sW_in (List.mem_of_getElem? (i := 751) (by decide +kernel)) rfl, sW_in (List.mem_of_getElem? (i := 43) (by decide +kernel)) rfl, by decide +kernel, by decide +kernel, by decide +kernel, by decide⟩
theorem ok75 : sOk 75 1 := ⟨plainFor_of_name (by decide +kernel), sW_in (List.mem_of_getElem? (i := 787) (by decide +kernel)) rfl, sW_in (List.mem_of_getElem? (i := 43) (by decide +kernel)) rfl, by decide +kernel, by decide +kernel, by decide +kernel, by decide⟩
theorem ok76 : sOk 76 1 := ⟨plainFor_of_name (by decide +kernel), sW_in (List.mem_of_getElem? (i := 790) (by decide +kernel)) rfl, sW_in (List.mem_of_getElem? (i := 43) (by decide +kernel)) rfl, by decide +kernel, by decide +kernel, by decide +kernel, by decide⟩
theorem ok77 : sOk 77 2 := ⟨plainFor_of_name (by decide +kernel), sW_in (List.mem_of_getElem? (i := 748) (by decide +kernel)) rfl, sW_in (List.mem_of_getElem? (i := 43) (by decide +kernel)) rfl, by decide +kernel, by decide +kernel, by decide +kernel, by decide⟩
theorem ok78 : sOk 78 3 := ⟨plainFor_of_name (by decide +kernel), sW_in (List.mem_of_getElem? (i := 759) (by decide +kernel)) rfl, sW_in (List.mem_of_getElem? (i := 43) (by decide +kernel)) rfl, by decide +kernel, by decide +kernel, by decide +kernel, by decide⟩
theorem ok79 : sOk 79 1 := ⟨plainFor_of_name (by decide +kernel), sW_in (List.mem_of_getElem? (i := 763) (by decide +kernel)) rfl, sW_in (List.mem_of_getElem? (i := 43) (by decide +kernel)) rfl, by decide +kernel, by decide +kernel, by decide +kernel, by decide⟩
theorem ok80 : sOk 80 5 := ⟨plainFor_of_name (by decide +kernel), sW_in (List.mem_of_getElem? (i := 767) (by decide +kernel)) rfl, sW_in (List.mem_of_getElem? (i := 43) (by decide +kernel)) rfl, by decide +kernel, by decide +kernel, by decide +kernel, by decide⟩
theorem ok81 : sOk 81 1 := ⟨plainFor_of_name (by decide +kernel), sW_in (List.mem_of_getElem? (i := 771) (by decide +kernel)) rfl, sW_in (List.mem_of_getElem? (i := 43) (by decide +kernel)) rfl, by decide +kernel, by decide +kernel, by decide +kernel, by decide⟩
theorem ok82 : sOk 82 2 := ⟨plainFor_of_name (by decide +kernel), sW_in (List.mem_of_getElem? (i := 775) (by decide +kernel)) rfl, sW_in (List.mem_of_getElem? (i := 43) (by decide +kernel)) rfl, by decide +kernel, by decide +kernel, by decide +kernel, by decide⟩
theorem ok83 : sOk 83 2 := ⟨plainFor_of_name (by decide +kernel), sW_in (List.mem_of_getElem? (i := 779) (by decide +kernel)) rfl, sW_in (List.mem_of_getElem? (i := 43) (by decide +kernel)) rfl, by decide +kernel, by decide +kernel, by decide +kernel, by decide⟩
theorem ok84 : sOk 84 2 := ⟨plainFor_of_name (by decide +kernel), sW_in (List.mem_of_getElem? (i := 783) (by decide +kernel)) rfl, sW_in (List.mem_of_getElem? (i := 43) (by decide +kernel)) rfl, by decide +kernel, by decide +kernel, by decide +kernel, by decide⟩
theorem ok85 : sOk 85 3 := ⟨plainFor_of_name (by decide +kernel), sW_in (List.mem_of_getElem? (i := 794) (by decide +kernel)) rfl, sW_in (List.mem_of_getElem? (i := 43) (by decide +kernel)) rfl, by decide +kernel, by decide +kernel, by decide +kernel, by decide⟩
theorem ok86 : sOk 86 3 := ⟨plainFor_of_name (by decide +kernel), sW_in (List.mem_of_getElem? (i := 798) (by decide +kernel)) rfl, sW_in (List.mem_of_getElem? (i := 43) (by decide +kernel)) rfl, by decide +kernel, by decide +kernel, by decide +kernel, by decide⟩
theorem ok87 : sOk 87 1 := ⟨plainFor_of_name (by decide +kernel), sW_in (List.mem_of_getElem? (i := 802) (by decide +kernel)) rfl, sW_in (List.mem_of_getElem? (i := 43) (by decide +kernel)) rfl, by decide +kernel, by decide +kernel, by decide +kernel, by decide⟩
theorem ok88 : sOk 88 2 := ⟨plainFor_of_name (by decide +kernel), sW_in (List.mem_of_getElem? (i := 806) (by decide +kernel)) rfl, sW_in (List.mem_of_getElem? (i := 43) (by decide +kernel)) rfl, by decide +kernel, by decide +kernel, by decide +kernel, by decide⟩
theorem ok89 : sOk 89 3 := ⟨plainFor_of_name (by decide +kernel), sW_in (List.mem_of_getElem? (i := 810) (by decide +kernel)) rfl, sW_in (List.mem_of_getElem? (i := 43) (by decide +kernel)) rfl, by decide +kernel, by decide +kernel, by decide +kernel, by decide⟩
theorem ok90 : sOk 90 2 := ⟨plainFor_of_name (by decide +kernel), sW_in (List.mem_of_getElem? (i := 814) (by decide +kernel)) rfl, sW_in (List.mem_of_getElem? (i := 43) (by decide +kernel)) rfl, by decide +kernel, by decide +kernel, by decide +kernel, by decide⟩
theorem ok91 : sOk 91 2 := ⟨plainFor_of_name (by decide +kernel), sW_in (List.mem_of_getElem? (i := 882) (by decide +kernel)) rfl, sW_in (List.mem_of_getElem? (i := 43) (by decide +kernel)) rfl, by decide +kernel, by decide +kernel, by decide +kernel, by decide⟩
theorem ok92 : sOk 92 3 := ⟨plainFor_of_name (by decide +kernel), sW_in (List.mem_of_getElem? (i := 886) (by decide +kernel)) rfl, sW_in (List.mem_of_getElem? (i := 43) (by decide +kernel)) rfl, by decide +kernel, by decide +kernel, by decide +kernel, by decide⟩
theorem ok93 : sOk 93 1 := ⟨plainFor_of_name (by decide +kernel), sW_in (List.mem_of_getElem? (i := 878) (by decide +kernel)) rfl, sW_in (List.mem_of_getElem? (i := 43) (by decide +kernel)) rfl, by decide +kernel, by decide +kernel, by decide +kernel, by decide⟩
theorem ok94 : sOk 94 1 := ⟨plainFor_of_name (by decide +kernel), sW_in (List.mem_of_getElem? (i := 890) (by decide +kernel)) rfl, sW_in (List.mem_of_getElem? (i := 43) (by decide +kernel)) rfl, by decide +kernel, by decide +kernel, by decide +kernel, by decide⟩
theorem ok95 : sOk 95 1 := ⟨plainFor_of_name (by decide +kernel), sW_in (List.mem_of_getElem? (i := 893) (by decide +kernel)) rfl, sW_in (List.mem_of_getElem? (i := 43) (by decide +kernel)) rfl, by decide +kernel, by decide +kernel, by decide +kernel, by decide⟩
theorem ok96 : sOk 96 1 := ⟨plainFor_of_name (by decide +kernel), sW_in (List.mem_of_getElem? (i := 826) (by decide +kernel)) rfl, sW_in (List.mem_of_getElem? (i := 43) (by decide +kernel)) rfl, by decide +kernel, by decide +kernel, by decide +kernel, by decide⟩
theorem ok97 : sOk 97 1 := ⟨plainFor_of_name (by decide +kernel), sW_in (List.mem_of_getElem? (i := 870) (by decide +kernel)) rfl, sW_in (List.mem_of_getElem? (i := 43) (by decide +kernel)) rfl, by decide +kernel, by decide +kernel, by decide +kernel, by decide⟩
theorem ok98 : sOk 98 1 := ⟨plainFor_of_name (by decide +kernel), sW_in (List.mem_of_getElem? (i := 822) (by decide +kernel)) rfl, sW_in (List.mem_of_getElem? (i := 43) (by decide +kernel)) rfl, by decide +kernel, by decide +kernel, by decide +kernel, by decide⟩
theorem ok99 : sOk 99 0 := ⟨plainFor_of_name (by decide +kernel), sW_in (List.mem_of_getElem? (i := 830) (by decide +kernel)) rfl, sW_in (List.mem_of_getElem? (i := 43) (by decide +kernel)) rfl, by decide +kernel, by decide +kernel, by decide +kernel, by decide⟩
theorem ok100 : sOk 100 1 := ⟨plainFor_of_name (by decide +kernel), sW_in (List.mem_of_getElem? (i := 842) (by decide +kernel)) rfl, sW_in (List.mem_of_getElem? (i := 43) (by decide +kernel)) rfl, by decide +kernel, by decide +kernel, by decide +kernel, by decide⟩
theorem ok101 : sOk 101 1 := ⟨plainFor_of_name (by decide +kernel), sW_in (List.mem_of_getElem? (i := 909) (by decide +kernel)) rfl, sW_in (List.mem_of_getElem? (i := 43) (by decide +kernel)) rfl, by decide +kernel, by decide +kernel, by decide +kernel, by decide⟩
theorem ok102 : sOk 102 1 := ⟨plainFor_of_name (by decide +kernel), sW_in (List.mem_of_getElem? (i := 874) (by decide +kernel)) rfl, sW_in (List.mem_of_getElem? (i := 43) (by decide +kernel)) rfl, by decide +kernel, by decide +kernel, by decide +kernel, by decide⟩
theorem ok103 : sOk 103 3 := ⟨plainFor_of_name (by decide +kernel), sW_in (List.mem_of_getElem? (i := 862) (by decide +kernel)) rfl, sW_in (List.mem_of_getElem? (i := 43) (by decide +kernel)) rfl, by decide +kernel, by decide +kernel, by decide +kernel, by decide⟩
theorem ok104 : sOk 104 1 := ⟨plainFor_of_name (by decide +kernel), sW_in (List.mem_of_getElem? (i := 858) (by decide +kernel)) rfl, sW_in (List.mem_of_getElem? (i := 43) (by decide +kernel)) rfl, by decide +kernel, by decide +kernel, by decide +kernel, by decide⟩
theorem ok105 : sOk 105 1 := ⟨plainFor_of_name (by decide +kernel), sW_in (List.mem_of_getElem? (i := 854) (by decide +kernel)) rfl, sW_in (List.mem_of_getElem? (i := 43) (by decide +kernel)) rfl, by decide +kernel, by decide +kernel, by decide +kernel, by decide⟩
theorem ok106 : sOk 106 2 := ⟨plainFor_of_name (by decide +kernel), sW_in (List.mem_of_getElem? (i := 866) (by decide +kernel)) rfl, sW_in (List.mem_of_getElem? (i := 43) (by decide +kernel)) rfl, by decide +kernel, by decide +kernel, by decide +kernel, by decide⟩
theorem ok107 : sOk 107 1 := ⟨plainFor_of_name (by decide +kernel), sW_in (List.mem_of_getElem? (i := 834) (by decide +kernel)) rfl, sW_in (List.mem_of_getElem? (i := 43) (by decide +kernel)) rfl, by decide +kernel, by decide +kernel, by decide +kernel, by decide⟩
theorem ok108 : sOk 108 1 := ⟨plainFor_of_name (by decide +kernel), sW_in (List.mem_of_getElem? (i := 838) (by decide +kernel)) rfl, sW_in (List.mem_of_getElem? (i := 43) (by decide +kernel)) rfl, by decide +kernel, by decide +kernel, by decide +kernel, by decide⟩
theorem ok109 : sOk 109 2 := ⟨plainFor_of_name (by decide +kernel), sW_in (List.mem_of_getElem? (i := 897) (by decide +kernel)) rfl, sW_in (List.mem_of_getElem? (i := 43) (by decide +kernel)) rfl, by decide +kernel, by decide +kernel, by decide +kernel, by decide⟩
theorem ok110 : sOk 110 3 := ⟨plainFor_of_name (by decide +kernel), sW_in (List.mem_of_getElem? (i := 901) (by decide +kernel)) rfl, sW_in (List.mem_of_getElem? (i := 43) (by decide +kernel)) rfl, by decide +kernel, by decide +kernel, by decide +kernel, by decide⟩
theorem ok111 : sOk 111 1 := ⟨plainFor_of_name (by decide +kernel), sW_in (List.mem_of_getElem? (i := 905) (by decide +kernel)) rfl, sW_in (List.mem_of_getElem? (i := 43) (by decide +kernel)) rfl, by decide +kernel, by decide +kernel, by decide +kernel, by decide⟩
theorem ok112 : sOk 112 1 := ⟨plainFor_of_name (by decide +kernel), sW_in (List.mem_of_getElem? (i := 846) (by decide +kernel)) rfl, sW_in (List.mem_of_getElem? (i := 43) (by decide +kernel)) rfl, by decide +kernel, by decide +kernel, by decide +kernel, by decide⟩
theorem ok113 : sOk 113 1 := ⟨plainFor_of_name (by decide +kernel), sW_in (List.mem_of_getElem? (i := 850) (by decide +kernel)) rfl, sW_in (List.mem_of_getElem? (i := 43) (by decide +kernel)) rfl, by decide +kernel, by decide +kernel, by decide +kernel, by decide⟩
theorem ok114 : sOk 114 0 := ⟨plainFor_of_name (by decide +kernel), sW_in (List.mem_of_getElem? (i := 913) (by decide +kernel)) rfl, sW_in (List.mem_of_getElem? (i := 43) (by decide +kernel)) rfl, by decide +kernel, by decide +kernel, by decide +kernel, by decide⟩
theorem ok115 : sOk 115 1 := ⟨plainFor_of_name (by decide +kernel), sW_in (List.mem_of_getElem? (i := 818) (by decide +kernel)) rfl, sW_in (List.mem_of_getElem? (i := 43) (by decide +kernel)) rfl, by decide +kernel, by decide +kernel, by decide +kernel, by decide⟩
theorem ok116 : sOk 116 1 := ⟨plainFor_of_name (by decide +kernel), sW_in (List.mem_of_getElem? (i := 917) (by decide +kernel)) rfl, sW_in (List.mem_of_getElem? (i := 43) (by decide +kernel)) rfl, by decide +kernel, by decide +kernel, by decide +kernel, by decide⟩
theorem ok117 : sOk 117 1 := ⟨plainFor_of_name (by decide +kernel), sW_in (List.mem_of_getElem? (i := 921) (by decide +kernel)) rfl, sW_in (List.mem_of_getElem? (i := 43) (by decide +kernel)) rfl, by decide +kernel, by decide +kernel, by decide +kernel, by decide⟩
theorem ok118 : sOk 118 1 := ⟨plainFor_of_name (by decide +kernel), sW_in (List.mem_of_getElem? (i := 925) (by decide +kernel)) rfl, sW_in (List.mem_of_getElem? (i := 43) (by decide +kernel)) rfl, by decide +kernel, by decide +kernel, by decide +kernel, by decide⟩
theorem ok119 : sOk 119 1 := ⟨plainFor_of_name (by decide +kernel), sW_in (List.mem_of_getElem? (i := 929) (by decide +kernel)) rfl, sW_in (List.mem_of_getElem? (i := 43) (by decide +kernel)) rfl, by decide +kernel, by decide +kernel, by decide +kernel, by decide⟩
theorem ok120 : sOk 120 1 := ⟨plainFor_of_name (by decide +kernel), sW_in (List.mem_of_getElem? (i := 933) (by decide +kernel)) rfl, sW_in (List.mem_of_getElem? (i := 43) (by decide +kernel)) rfl, by decide +kernel, by decide +kernel, by decide +kernel, by decide⟩
theorem ok121 : sOk 121 0 := ⟨plainFor_of_name (by decide +kernel), sW_in (List.mem_of_getElem? (i := 937) (by decide +kernel)) rfl, sW_in (List.mem_of_getElem? (i := 43) (by decide +kernel)) rfl, by decide +kernel, by decide +kernel, by decide +kernel, by decide⟩
theorem ok122 : sOk 122 2 := ⟨plainFor_of_name (by decide +kernel), sW_in (List.mem_of_getElem? (i := 941) (by decide +kernel)) rfl, sW_in (List.mem_of_getElem? (i := 43) (by decide +kernel)) rfl, by decide +kernel, by decide +kernel, by decide +kernel, by decide⟩
theorem ok123 : sOk 123 1 := ⟨plainFor_of_name (by decide +kernel), sW_in (List.mem_of_getElem? (i := 945) (by decide +kernel)) rfl, sW_in (List.mem_of_getElem? (i := 43) (by decide +kernel)) rfl, by decide +kernel, by decide +kernel, by decide +kernel, by decide⟩
theorem ok124 : sOk 124 1 := ⟨plainFor_of_name (by decide +kernel), sW_in (List.mem_of_getElem? (i := 949) (by decide +kernel)) rfl, sW_in (List.mem_of_getElem? (i := 43) (by decide +kernel)) rfl, by decide +kernel, by decide +kernel, by decide +kernel, by decide⟩
theorem ok125 : sOk 125 2 := ⟨by decide +kernel, sW_in (List.mem_of_getElem? (i := 473) (by decide +kernel)) rfl, sW_in (List.mem_of_getElem? (i := 48) (by decide +kernel)) rfl, by decide +kernel, by decide +kernel, by decide +kernel, by decide⟩
theorem ok126 : sOk 126 2 := ⟨by decide +kernel, sW_in (List.mem_of_getElem? (i := 268) (by decide +kernel)) rfl, sW_in (List.mem_of_getElem? (i := 46) (by decide +kernel)) rfl, by decide +kernel, by decide +kernel, by decide +kernel, by decide⟩
theorem lo6_3 : sLo RX6 3 := sW_in (List.mem_of_getElem? (i := 54) (by decide +kernel)) rfl
theorem lc6_11 : sLi RX6 11 0 0 := ⟨ok0, sW_in (List.mem_of_getElem? (i := 60) (by decide +kernel)) rfl, rfl, rfl, Or.inr ⟨_, List.mem_of_getElem? (i := 0) rfl⟩⟩
theorem lc6_18 : sLi RX6 18 8 0 := ⟨ok8, sW_in (List.mem_of_getElem? (i := 76) (by decide +kernel)) rfl, rfl, rfl, Or.inr ⟨_, List.mem_of_getElem? (i := 1) rfl⟩⟩
theorem lc6_28 : sLv RX6 28 32 1 4 := ⟨ok32, sW_in (List.mem_of_getElem? (i := 186) (by decide +kernel)) rfl, sW_in (List.mem_of_getElem? (i := 187) (by decide +kernel)) rfl, sW_in (List.mem_of_getElem? (i := 188) (by decide +kernel)) rfl, _, rfl, rfl⟩
theorem lc6_34 : sLv RX6 34 1 1 0 := ⟨ok1, sW_in (List.mem_of_getElem? (i := 190) (by decide +kernel)) rfl, sW_in (List.mem_of_getElem? (i := 191) (by decide +kernel)) rfl, sW_in (List.mem_of_getElem? (i := 192) (by decide +kernel)) rfl, _, rfl, rfl⟩
theorem lc6_38 : sLv RX6 38 33 2 4 := ⟨ok33, sW_in (List.mem_of_getElem? (i := 194) (by decide +kernel)) rfl, sW_in (List.mem_of_getElem? (i := 195) (by decide +kernel)) rfl, sW_in (List.mem_of_getElem? (i := 196) (by decide +kernel)) rfl, _, rfl, rfl⟩
theorem lc6_42 : sLv RX6 42 3 0 1 := ⟨ok3, sW_in (List.mem_of_getElem? (i := 203) (by decide +kernel)) rfl, sW_in (List.mem_of_getElem? (i := 204) (by decide +kernel)) rfl, sW_in (List.mem_of_getElem? (i := 205) (by decide +kernel)) rfl, _, rfl, rfl⟩
theorem lc6_48 : sLv RX6 48 4 1 1 := ⟨ok4, sW_in (List.mem_of_getElem? (i := 207) (by decide +kernel)) rfl, sW_in (List.mem_of_getElem? (i := 208) (by decide +kernel)) rfl, sW_in (List.mem_of_getElem? (i := 209) (by decide +kernel)) rfl, _, rfl, rfl⟩
theorem lk6_56 : sLk RX6 56 := sW_in (List.mem_of_getElem? (i := 211) (by decide +kernel)) rfl
theorem lc6_65 : sLs RX6 65 71 2 := ⟨ok71, sW_in (List.mem_of_getElem? (i := 90) (by decide +kernel)) rfl, Or.inl (sW_in (List.mem_of_getElem? (i := 222) (by decide +kernel)) rfl)⟩
theorem lc6_69 : sLv RX6 69 6 2 1 := ⟨ok6, sW_in (List.mem_of_getElem? (i := 227) (by decide +kernel)) rfl, sW_in (List.mem_of_getElem? (i := 228) (by decide +kernel)) rfl, sW_in (List.mem_of_getElem? (i := 229) (by decide +kernel)) rfl, _, rfl, rfl⟩
theorem ly6_73 : sLc RX6 73 := sW_in (List.mem_of_getElem? (i := 231) (by decide +kernel)) rfl
theorem lc6_79 : sLv RX6 79 5 1 1 := ⟨ok5, sW_in (List.mem_of_getElem? (i := 242) (by decide +kernel)) rfl, sW_in (List.mem_of_getElem? (i := 243) (by decide +kernel)) rfl, sW_in (List.mem_of_getElem? (i := 244) (by decide +kernel)) rfl, _, rfl, rfl⟩
theorem lc6_82 : sLs RX6 82 68 1 := ⟨ok68, sW_in (List.mem_of_getElem? (i := 252) (by decide +kernel)) rfl, Or.inl (sW_in (List.mem_of_getElem? (i := 251) (by decide +kernel)) rfl)⟩
theorem lc6_89 : sLv RX6 89 35 2 4 := ⟨ok35, sW_in (List.mem_of_getElem? (i := 254) (by decide +kernel)) rfl, sW_in (List.mem_of_getElem? (i := 255) (by decide +kernel)) rfl, sW_in (List.mem_of_getElem? (i := 256) (by decide +kernel)) rfl, _, rfl, rfl⟩
theorem lc6_93 : sLv RX6 93 34 1 4 := ⟨ok34, sW_in (List.mem_of_getElem? (i := 334) (by decide +kernel)) rfl, sW_in (List.mem_of_getElem? (i := 335) (by decide +kernel)) rfl, sW_in (List.mem_of_getElem? (i := 336) (by decide +kernel)) rfl, _, rfl, rfl⟩
theorem lc6_97 : sLs RX6 97 69 1 := ⟨ok69, sW_in (List.mem_of_getElem? (i := 339) (by decide +kernel)) rfl, Or.inl (sW_in (List.mem_of_getElem? (i := 338) (by decide +kernel)) rfl)⟩
theorem lc6_108 : sLv RX6 108 26 0 3 := ⟨ok26, sW_in (List.mem_of_getElem? (i := 341) (by decide +kernel)) rfl, sW_in (List.mem_of_getElem? (i := 342) (by decide +kernel)) rfl, sW_in (List.mem_of_getElem? (i := 343) (by decide +kernel)) rfl, _, rfl, rfl⟩
theorem lc6_111 : sLv RX6 111 24 1 3 := ⟨ok24, sW_in (List.mem_of_getElem? (i := 349) (by decide +kernel)) rfl, sW_in (List.mem_of_getElem? (i := 350) (by decide +kernel)) rfl, sW_in (List.mem_of_getElem? (i := 351) (by decide +kernel)) rfl, _, rfl, rfl⟩
theorem lc6_124 : sLv RX6 124 25 1 3 := ⟨ok25, sW_in (List.mem_of_getElem? (i := 369) (by decide +kernel)) rfl, sW_in (List.mem_of_getElem? (i := 370) (by decide +kernel)) rfl, sW_in (List.mem_of_getElem? (i := 371) (by decide +kernel)) rfl, _, rfl, rfl⟩
theorem lc6_133 : sLv RX6 133 39 1 5 := ⟨ok39, sW_in (List.mem_of_getElem? (i := 373) (by decide +kernel)) rfl, sW_in (List.mem_of_getElem? (i := 374) (by decide +kernel)) rfl, sW_in (List.mem_of_getElem? (i := 375) (by decide +kernel)) rfl, _, rfl, rfl⟩
theorem lc6_136 : sLv RX6 136 9 2 2 := ⟨ok9, sW_in (List.mem_of_getElem? (i := 381) (by decide +kernel)) rfl, sW_in (List.mem_of_getElem? (i := 382) (by decide +kernel)) rfl, sW_in (List.mem_of_getElem? (i := 383) (by decide +kernel)) rfl, _, rfl, rfl⟩
theorem lc6_153 : sLs RX6 153 70 2 := ⟨ok70, sW_in (List.mem_of_getElem? (i := 527) (by decide +kernel)) rfl, Or.inl (sW_in (List.mem_of_getElem? (i := 526) (by decide +kernel)) rfl)⟩
theorem lc6_174 : sLv RX6 174 36 0 4 := ⟨ok36, sW_in (List.mem_of_getElem? (i := 545) (by decide +kernel)) rfl, sW_in (List.mem_of_getElem? (i := 546) (by decide +kernel)) rfl, sW_in (List.mem_of_getElem? (i := 547) (by decide +kernel)) rfl, _, rfl, rfl⟩
theorem lc6_183 : sLi RX6 183 2 3 := ⟨ok2, sW_in (List.mem_of_getElem? (i := 95) (by decide +kernel)) rfl, rfl, rfl, Or.inl (sW_in (List.mem_of_getElem? (i := 94) (by decide +kernel)) rfl)⟩
theorem lo0_3 : sLo RX0 3 := sW_in (List.mem_of_getElem? (i := 62) (by decide +kernel)) rfl
theorem lo1_3 : sLo RX1 3 := sW_in (List.mem_of_getElem? (i := 97) (by decide +kernel)) rfl
theorem lc1_22 : sLv RX1 22 4 1 1 := ⟨ok4, sW_in (List.mem_of_getElem? (i := 246) (by decide +kernel)) rfl, sW_in (List.mem_of_getElem? (i := 208) (by decide +kernel)) rfl, sW_in (List.mem_of_getElem? (i := 209) (by decide +kernel)) rfl, _, rfl, rfl⟩
theorem lo2_3 : sLo RX2 3 := sW_in (List.mem_of_getElem? (i := 78) (by decide +kernel)) rfl
theorem lc2_11 : sLi RX2 11 31 0 := ⟨ok31, sW_in (List.mem_of_getElem? (i := 82) (by decide +kernel)) rfl, rfl, rfl, Or.inl (sW_in (List.mem_of_getElem? (i := 81) (by decide +kernel)) rfl)⟩
theorem lc2_40 : sLv RX2 40 30 1 3 := ⟨ok30, sW_in (List.mem_of_getElem? (i := 385) (by decide +kernel)) rfl, sW_in (List.mem_of_getElem? (i := 386) (by decide +kernel)) rfl, sW_in (List.mem_of_getElem? (i := 387) (by decide +kernel)) rfl, _, rfl, rfl⟩
theorem lc2_46 : sLv RX2 46 13 1 2 := ⟨ok13, sW_in (List.mem_of_getElem? (i := 389) (by decide +kernel)) rfl, sW_in (List.mem_of_getElem? (i := 391) (by decide +kernel)) rfl, sW_in (List.mem_of_getElem? (i := 0) (by decide +kernel)) rfl, _, rfl, rfl⟩
theorem lc2_54 : sLv RX2 54 10 1 2 := ⟨ok10, sW_in (List.mem_of_getElem? (i := 506) (by decide +kernel)) rfl, sW_in (List.mem_of_getElem? (i := 508) (by decide +kernel)) rfl, sW_in (List.mem_of_getElem? (i := 10) (by decide +kernel)) rfl, _, rfl, rfl⟩
theorem lc2_61 : sLv RX2 61 3 0 1 := ⟨ok3, sW_in (List.mem_of_getElem? (i := 470) (by decide +kernel)) rfl, sW_in (List.mem_of_getElem? (i := 204) (by decide +kernel)) rfl, sW_in (List.mem_of_getElem? (i := 205) (by decide +kernel)) rfl, _, rfl, rfl⟩
theorem lc2_76 : sLv RX2 76 34 1 4 := ⟨ok34, sW_in (List.mem_of_getElem? (i := 407) (by decide +kernel)) rfl, sW_in (List.mem_of_getElem? (i := 335) (by decide +kernel)) rfl, sW_in (List.mem_of_getElem? (i := 336) (by decide +kernel)) rfl, _, rfl, rfl⟩
theorem lc2_99 : sLv RX2 99 12 1 2 := ⟨ok12, sW_in (List.mem_of_getElem? (i := 408) (by decide +kernel)) rfl, sW_in (List.mem_of_getElem? (i := 410) (by decide +kernel)) rfl, sW_in (List.mem_of_getElem? (i := 4) (by decide +kernel)) rfl, _, rfl, rfl⟩
theorem lc2_111 : sLv RX2 111 14 1 2 := ⟨ok14, sW_in (List.mem_of_getElem? (i := 393) (by decide +kernel)) rfl, sW_in (List.mem_of_getElem? (i := 395) (by decide +kernel)) rfl, sW_in (List.mem_of_getElem? (i := 1) (by decide +kernel)) rfl, _, rfl, rfl⟩
theorem lc2_114 : sLv RX2 114 16 1 2 := ⟨ok16, sW_in (List.mem_of_getElem? (i := 424) (by decide +kernel)) rfl, sW_in (List.mem_of_getElem? (i := 426) (by decide +kernel)) rfl, sW_in (List.mem_of_getElem? (i := 5) (by decide +kernel)) rfl, _, rfl, rfl⟩
theorem lc2_120 : sLv RX2 120 25 1 3 := ⟨ok25, sW_in (List.mem_of_getElem? (i := 397) (by decide +kernel)) rfl, sW_in (List.mem_of_getElem? (i := 370) (by decide +kernel)) rfl, sW_in (List.mem_of_getElem? (i := 371) (by decide +kernel)) rfl, _, rfl, rfl⟩
theorem lc2_124 : sLv RX2 124 15 2 2 := ⟨ok15, sW_in (List.mem_of_getElem? (i := 398) (by decide +kernel)) rfl, sW_in (List.mem_of_getElem? (i := 400) (by decide +kernel)) rfl, sW_in (List.mem_of_getElem? (i := 2) (by decide +kernel)) rfl, _, rfl, rfl⟩
theorem lc2_131 : sLv RX2 131 29 1 3 := ⟨ok29, sW_in (List.mem_of_getElem? (i := 420) (by decide +kernel)) rfl, sW_in (List.mem_of_getElem? (i := 421) (by decide +kernel)) rfl, sW_in (List.mem_of_getElem? (i := 422) (by decide +kernel)) rfl, _, rfl, rfl⟩
theorem lc2_143 : sLv RX2 143 39 1 5 := ⟨ok39, sW_in (List.mem_of_getElem? (i := 402) (by decide +kernel)) rfl, sW_in (List.mem_of_getElem? (i := 374) (by decide +kernel)) rfl, sW_in (List.mem_of_getElem? (i := 375) (by decide +kernel)) rfl, _, rfl, rfl⟩
theorem lc2_147 : sLv RX2 147 11 1 2 := ⟨ok11, sW_in (List.mem_of_getElem? (i := 403) (by decide +kernel)) rfl, sW_in (List.mem_of_getElem? (i := 405) (by decide +kernel)) rfl, sW_in (List.mem_of_getElem? (i := 3) (by decide +kernel)) rfl, _, rfl, rfl⟩
theorem lc2_151 : sLv RX2 151 40 1 5 := ⟨ok40, sW_in (List.mem_of_getElem? (i := 412) (by decide +kernel)) rfl, sW_in (List.mem_of_getElem? (i := 413) (by decide +kernel)) rfl, sW_in (List.mem_of_getElem? (i := 414) (by decide +kernel)) rfl, _, rfl, rfl⟩
theorem lc2_154 : sLv RX2 154 7 1 1 := ⟨ok7, sW_in (List.mem_of_getElem? (i := 416) (by decide +kernel)) rfl, sW_in (List.mem_of_getElem? (i := 417) (by decide +kernel)) rfl, sW_in (List.mem_of_getElem? (i := 418) (by decide +kernel)) rfl, _, rfl, rfl⟩
theorem lc2_158 : sLv RX2 158 17 1 2 := ⟨ok17, sW_in (List.mem_of_getElem? (i := 428) (by decide +kernel)) rfl, sW_in (List.mem_of_getElem? (i := 430) (by decide +kernel)) rfl, sW_in (List.mem_of_getElem? (i := 6) (by decide +kernel)) rfl, _, rfl, rfl⟩
theorem lc2_162 : sLv RX2 162 27 0 3 := ⟨ok27, sW_in (List.mem_of_getElem? (i := 432) (by decide +kernel)) rfl, sW_in (List.mem_of_getElem? (i := 433) (by decide +kernel)) rfl, sW_in (List.mem_of_getElem? (i := 434) (by decide +kernel)) rfl, _, rfl, rfl⟩
theorem lc2_169 : sLv RX2 169 21 2 2 := ⟨ok21, sW_in (List.mem_of_getElem? (i := 458) (by decide +kernel)) rfl, sW_in (List.mem_of_getElem? (i := 460) (by decide +kernel)) rfl, sW_in (List.mem_of_getElem? (i := 7) (by decide +kernel)) rfl, _, rfl, rfl⟩
theorem lc2_173 : sLv RX2 173 18 1 2 := ⟨ok18, sW_in (List.mem_of_getElem? (i := 486) (by decide +kernel)) rfl, sW_in (List.mem_of_getElem? (i := 488) (by decide +kernel)) rfl, sW_in (List.mem_of_getElem? (i := 9) (by decide +kernel)) rfl, _, rfl, rfl⟩
theorem lc2_176 : sLv RX2 176 28 1 3 := ⟨ok28, sW_in (List.mem_of_getElem? (i := 500) (by decide +kernel)) rfl, sW_in (List.mem_of_getElem? (i := 501) (by decide +kernel)) rfl, sW_in (List.mem_of_getElem? (i := 502) (by decide +kernel)) rfl, _, rfl, rfl⟩
theorem lc2_186 : sLv RX2 186 22 2 2 := ⟨ok22, sW_in (List.mem_of_getElem? (i := 462) (by decide +kernel)) rfl, sW_in (List.mem_of_getElem? (i := 464) (by decide +kernel)) rfl, sW_in (List.mem_of_getElem? (i := 8) (by decide +kernel)) rfl, _, rfl, rfl⟩
theorem lc2_189 : sLv RX2 189 41 1 5 := ⟨ok41, sW_in (List.mem_of_getElem? (i := 474) (by decide +kernel)) rfl, sW_in (List.mem_of_getElem? (i := 475) (by decide +kernel)) rfl, sW_in (List.mem_of_getElem? (i := 476) (by decide +kernel)) rfl, _, rfl, rfl⟩
theorem lc2_195 : sLs RX2 195 19 2 := ⟨ok19, sW_in (List.mem_of_getElem? (i := 491) (by decide +kernel)) rfl, Or.inl (sW_in (List.mem_of_getElem? (i := 490) (by decide +kernel)) rfl)⟩
theorem lc2_199 : sLi RX2 199 2 3 := ⟨ok2, sW_in (List.mem_of_getElem? (i := 95) (by decide +kernel)) rfl, rfl, rfl, Or.inl (sW_in (List.mem_of_getElem? (i := 485) (by decide +kernel)) rfl)⟩
theorem lc2_202 : sLv RX2 202 43 0 5 := ⟨ok43, sW_in (List.mem_of_getElem? (i := 493) (by decide +kernel)) rfl, sW_in (List.mem_of_getElem? (i := 494) (by decide +kernel)) rfl, sW_in (List.mem_of_getElem? (i := 495) (by decide +kernel)) rfl, _, rfl, rfl⟩
theorem lc2_206 : sLv RX2 206 42 1 5 := ⟨ok42, sW_in (List.mem_of_getElem? (i := 479) (by decide +kernel)) rfl, sW_in (List.mem_of_getElem? (i := 480) (by decide +kernel)) rfl, sW_in (List.mem_of_getElem? (i := 481) (by decide +kernel)) rfl, _, rfl, rfl⟩
theorem lc2_210 : sLs RX2 210 20 1 := ⟨ok20, sW_in (List.mem_of_getElem? (i := 498) (by decide +kernel)) rfl, Or.inl (sW_in (List.mem_of_getElem? (i := 497) (by decide +kernel)) rfl)⟩
theorem lc2_214 : sLs RX2 214 125 2 := ⟨ok125, sW_in (List.mem_of_getElem? (i := 472) (by decide +kernel)) rfl, Or.inl (sW_in (List.mem_of_getElem? (i := 471) (by decide +kernel)) rfl)⟩
theorem lc2_223 : sLv RX2 223 38 2 5 := ⟨ok38, sW_in (List.mem_of_getElem? (i := 466) (by decide +kernel)) rfl, sW_in (List.mem_of_getElem? (i := 467) (by decide +kernel)) rfl, sW_in (List.mem_of_getElem? (i := 468) (by decide +kernel)) rfl, _, rfl, rfl⟩
theorem lo3_3 : sLo RX3 3 := sW_in (List.mem_of_getElem? (i := 262) (by decide +kernel)) rfl
theorem lc3_35 : sLs RX3 35 71 2 := ⟨ok71, sW_in (List.mem_of_getElem? (i := 90) (by decide +kernel)) rfl, Or.inr ⟨_, List.mem_of_getElem? (i := 3) rfl⟩⟩
theorem lc3_46 : sLs RX3 46 126 2 := ⟨ok126, sW_in (List.mem_of_getElem? (i := 267) (by decide +kernel)) rfl, Or.inl (sW_in (List.mem_of_getElem? (i := 266) (by decide +kernel)) rfl)⟩
theorem lc3_58 : sLi RX3 58 37 0 := ⟨ok37, sW_in (List.mem_of_getElem? (i := 438) (by decide +kernel)) rfl, rfl, rfl, Or.inr ⟨_, List.mem_of_getElem? (i := 4) rfl⟩⟩
theorem lc3_59 : sLv RX3 59 27 0 3 := ⟨ok27, sW_in (List.mem_of_getElem? (i := 504) (by decide +kernel)) rfl, sW_in (List.mem_of_getElem? (i := 433) (by decide +kernel)) rfl, sW_in (List.mem_of_getElem? (i := 434) (by decide +kernel)) rfl, _, rfl, rfl⟩
theorem lc3_66 : sLv RX3 66 29 1 3 := ⟨ok29, sW_in (List.mem_of_getElem? (i := 505) (by decide +kernel)) rfl, sW_in (List.mem_of_getElem? (i := 421) (by decide +kernel)) rfl, sW_in (List.mem_of_getElem? (i := 422) (by decide +kernel)) rfl, _, rfl, rfl⟩
theorem lo4_3 : sLo RX4 3 := sW_in (List.mem_of_getElem? (i := 84) (by decide +kernel)) rfl
theorem lc4_26 : sLs RX4 26 71 2 := ⟨ok71, sW_in (List.mem_of_getElem? (i := 90) (by decide +kernel)) rfl, Or.inr ⟨_, List.mem_of_getElem? (i := 2) rfl⟩⟩
theorem lc4_30 : sLi RX4 30 2 3 := ⟨ok2, sW_in (List.mem_of_getElem? (i := 95) (by decide +kernel)) rfl, rfl, rfl, Or.inl (sW_in (List.mem_of_getElem? (i := 198) (by decide +kernel)) rfl)⟩
theorem lc4_37 : sLi RX4 37 23 3 := ⟨ok23, sW_in (List.mem_of_getElem? (i := 260) (by decide +kernel)) rfl, rfl, rfl, Or.inl (sW_in (List.mem_of_getElem? (i := 259) (by decide +kernel)) rfl)⟩
theorem lo5_3 : sLo RX5 3 := sW_in (List.mem_of_getElem? (i := 440) (by decide +kernel)) rfl
theorem lc5_28 : sLv RX5 28 41 1 5 := ⟨ok41, sW_in (List.mem_of_getElem? (i := 483) (by decide +kernel)) rfl, sW_in (List.mem_of_getElem? (i := 475) (by decide +kernel)) rfl, sW_in (List.mem_of_getElem? (i := 476) (by decide +kernel)) rfl, _, rfl, rfl⟩
theorem ly5_32 : sLc RX5 32 := sW_in (List.mem_of_getElem? (i := 484) (by decide +kernel)) rfl
theorem lcL_9 : sLi RL 9 44 0 := ⟨ok44, sW_in (List.mem_of_getElem? (i := 52) (by decide +kernel)) rfl, rfl, rfl, Or.inl (sW_in (List.mem_of_getElem? (i := 51) (by decide +kernel)) rfl)⟩
theorem lcL_12 : sLi RL 12 72 0 := ⟨ok72, sW_in (List.mem_of_getElem? (i := 556) (by decide +kernel)) rfl, rfl, rfl, Or.inl (sW_in (List.mem_of_getElem? (i := 555) (by decide +kernel)) rfl)⟩
theorem lcL_13 : sLv RL 13 45 2 6 := ⟨ok45, sW_in (List.mem_of_getElem? (i := 182) (by decide +kernel)) rfl, sW_in (List.mem_of_getElem? (i := 183) (by decide +kernel)) rfl, sW_in (List.mem_of_getElem? (i := 184) (by decide +kernel)) rfl, _, rfl, rfl⟩
theorem lcL_17 : sLv RL 17 77 2 7 := ⟨ok77, sW_in (List.mem_of_getElem? (i := 745) (by decide +kernel)) rfl, sW_in (List.mem_of_getElem? (i := 746) (by decide +kernel)) rfl, sW_in (List.mem_of_getElem? (i := 747) (by decide +kernel)) rfl, _, rfl, rfl⟩
theorem lcL_18 : sLv RL 18 46 3 6 := ⟨ok46, sW_in (List.mem_of_getElem? (i := 199) (by decide +kernel)) rfl, sW_in (List.mem_of_getElem? (i := 200) (by decide +kernel)) rfl, sW_in (List.mem_of_getElem? (i := 201) (by decide +kernel)) rfl, _, rfl, rfl⟩
theorem lcL_22 : sLv RL 22 78 3 7 := ⟨ok78, sW_in (List.mem_of_getElem? (i := 756) (by decide +kernel)) rfl, sW_in (List.mem_of_getElem? (i := 757) (by decide +kernel)) rfl, sW_in (List.mem_of_getElem? (i := 758) (by decide +kernel)) rfl, _, rfl, rfl⟩
theorem lcL_23 : sLv RL 23 47 1 6 := ⟨ok47, sW_in (List.mem_of_getElem? (i := 218) (by decide +kernel)) rfl, sW_in (List.mem_of_getElem? (i := 219) (by decide +kernel)) rfl, sW_in (List.mem_of_getElem? (i := 220) (by decide +kernel)) rfl, _, rfl, rfl⟩
theorem lcL_27 : sLv RL 27 79 1 7 := ⟨ok79, sW_in (List.mem_of_getElem? (i := 760) (by decide +kernel)) rfl, sW_in (List.mem_of_getElem? (i := 761) (by decide +kernel)) rfl, sW_in (List.mem_of_getElem? (i := 762) (by decide +kernel)) rfl, _, rfl, rfl⟩
theorem lcL_28 : sLv RL 28 48 5 6 := ⟨ok48, sW_in (List.mem_of_getElem? (i := 223) (by decide +kernel)) rfl, sW_in (List.mem_of_getElem? (i := 224) (by decide +kernel)) rfl, sW_in (List.mem_of_getElem? (i := 225) (by decide +kernel)) rfl, _, rfl, rfl⟩
theorem lcL_32 : sLv RL 32 80 5 7 := ⟨ok80, sW_in (List.mem_of_getElem? (i := 764) (by decide +kernel)) rfl, sW_in (List.mem_of_getElem? (i := 765) (by decide +kernel)) rfl, sW_in (List.mem_of_getElem? (i := 766) (by decide +kernel)) rfl, _, rfl, rfl⟩
theorem lcL_33 : sLv RL 33 49 1 6 := ⟨ok49, sW_in (List.mem_of_getElem? (i := 234) (by decide +kernel)) rfl, sW_in (List.mem_of_getElem? (i := 235) (by decide +kernel)) rfl, sW_in (List.mem_of_getElem? (i := 236) (by decide +kernel)) rfl, _, rfl, rfl⟩
theorem lcL_36 : sLv RL 36 81 1 7 := ⟨ok81, sW_in (List.mem_of_getElem? (i := 768) (by decide +kernel)) rfl, sW_in (List.mem_of_getElem? (i := 769) (by decide +kernel)) rfl, sW_in (List.mem_of_getElem? (i := 770) (by decide +kernel)) rfl, _, rfl, rfl⟩
theorem lcL_37 : sLv RL 37 50 2 6 := ⟨ok50, sW_in (List.mem_of_getElem? (i := 238) (by decide +kernel)) rfl, sW_in (List.mem_of_getElem? (i := 239) (by decide +kernel)) rfl, sW_in (List.mem_of_getElem? (i := 240) (by decide +kernel)) rfl, _, rfl, rfl⟩
theorem lcL_40 : sLv RL 40 82 2 7 := ⟨ok82, sW_in (List.mem_of_getElem? (i := 772) (by decide +kernel)) rfl, sW_in (List.mem_of_getElem? (i := 773) (by decide +kernel)) rfl, sW_in (List.mem_of_getElem? (i := 774) (by decide +kernel)) rfl, _, rfl, rfl⟩
theorem lcL_41 : sLv RL 41 51 2 6 := ⟨ok51, sW_in (List.mem_of_getElem? (i := 247) (by decide +kernel)) rfl, sW_in (List.mem_of_getElem? (i := 248) (by decide +kernel)) rfl, sW_in (List.mem_of_getElem? (i := 249) (by decide +kernel)) rfl, _, rfl, rfl⟩
theorem lcL_45 : sLv RL 45 83 2 7 := ⟨ok83, sW_in (List.mem_of_getElem? (i := 776) (by decide +kernel)) rfl, sW_in (List.mem_of_getElem? (i := 777) (by decide +kernel)) rfl, sW_in (List.mem_of_getElem? (i := 778) (by decide +kernel)) rfl, _, rfl, rfl⟩
theorem lcL_46 : sLv RL 46 52 2 6 := ⟨ok52, sW_in (List.mem_of_getElem? (i := 330) (by decide +kernel)) rfl, sW_in (List.mem_of_getElem? (i := 331) (by decide +kernel)) rfl, sW_in (List.mem_of_getElem? (i := 332) (by decide +kernel)) rfl, _, rfl, rfl⟩
theorem lcL_49 : sLv RL 49 84 2 7 := ⟨ok84, sW_in (List.mem_of_getElem? (i := 780) (by decide +kernel)) rfl, sW_in (List.mem_of_getElem? (i := 781) (by decide +kernel)) rfl, sW_in (List.mem_of_getElem? (i := 782) (by decide +kernel)) rfl, _, rfl, rfl⟩
theorem lcL_50 : sLv RL 50 53 3 6 := ⟨ok53, sW_in (List.mem_of_getElem? (i := 345) (by decide +kernel)) rfl, sW_in (List.mem_of_getElem? (i := 346) (by decide +kernel)) rfl, sW_in (List.mem_of_getElem? (i := 347) (by decide +kernel)) rfl, _, rfl, rfl⟩
theorem lcL_53 : sLv RL 53 85 3 7 := ⟨ok85, sW_in (List.mem_of_getElem? (i := 791) (by decide +kernel)) rfl, sW_in (List.mem_of_getElem? (i := 792) (by decide +kernel)) rfl, sW_in (List.mem_of_getElem? (i := 793) (by decide +kernel)) rfl, _, rfl, rfl⟩
theorem lcL_54 : sLv RL 54 54 3 6 := ⟨ok54, sW_in (List.mem_of_getElem? (i := 353) (by decide +kernel)) rfl, sW_in (List.mem_of_getElem? (i := 354) (by decide +kernel)) rfl, sW_in (List.mem_of_getElem? (i := 355) (by decide +kernel)) rfl, _, rfl, rfl⟩
theorem lcL_58 : sLv RL 58 86 3 7 := ⟨ok86, sW_in (List.mem_of_getElem? (i := 795) (by decide +kernel)) rfl, sW_in (List.mem_of_getElem? (i := 796) (by decide +kernel)) rfl, sW_in (List.mem_of_getElem? (i := 797) (by decide +kernel)) rfl, _, rfl, rfl⟩
theorem lcL_59 : sLv RL 59 55 1 6 := ⟨ok55, sW_in (List.mem_of_getElem? (i := 357) (by decide +kernel)) rfl, sW_in (List.mem_of_getElem? (i := 358) (by decide +kernel)) rfl, sW_in (List.mem_of_getElem? (i := 359) (by decide +kernel)) rfl, _, rfl, rfl⟩
theorem lcL_62 : sLv RL 62 87 1 7 := ⟨ok87, sW_in (List.mem_of_getElem? (i := 799) (by decide +kernel)) rfl, sW_in (List.mem_of_getElem? (i := 800) (by decide +kernel)) rfl, sW_in (List.mem_of_getElem? (i := 801) (by decide +kernel)) rfl, _, rfl, rfl⟩
theorem lcL_63 : sLv RL 63 56 2 6 := ⟨ok56, sW_in (List.mem_of_getElem? (i := 361) (by decide +kernel)) rfl, sW_in (List.mem_of_getElem? (i := 362) (by decide +kernel)) rfl, sW_in (List.mem_of_getElem? (i := 363) (by decide +kernel)) rfl, _, rfl, rfl⟩
theorem lcL_66 : sLv RL 66 88 2 7 := ⟨ok88, sW_in (List.mem_of_getElem? (i := 803) (by decide +kernel)) rfl, sW_in (List.mem_of_getElem? (i := 804) (by decide +kernel)) rfl, sW_in (List.mem_of_getElem? (i := 805) (by decide +kernel)) rfl, _, rfl, rfl⟩
theorem lcL_67 : sLv RL 67 57 3 6 := ⟨ok57, sW_in (List.mem_of_getElem? (i := 365) (by decide +kernel)) rfl, sW_in (List.mem_of_getElem? (i := 366) (by decide +kernel)) rfl, sW_in (List.mem_of_getElem? (i := 367) (by decide +kernel)) rfl, _, rfl, rfl⟩
theorem lcL_70 : sLv RL 70 89 3 7 := ⟨ok89, sW_in (List.mem_of_getElem? (i := 807) (by decide +kernel)) rfl, sW_in (List.mem_of_getElem? (i := 808) (by decide +kernel)) rfl, sW_in (List.mem_of_getElem? (i := 809) (by decide +kernel)) rfl, _, rfl, rfl⟩
theorem lcL_71 : sLv RL 71 58 1 6 := ⟨ok58, sW_in (List.mem_of_getElem? (i := 377) (by decide +kernel)) rfl, sW_in (List.mem_of_getElem? (i := 378) (by decide +kernel)) rfl, sW_in (List.mem_of_getElem? (i := 379) (by decide +kernel)) rfl, _, rfl, rfl⟩
theorem lcL_74 : sLv RL 74 115 1 7 := ⟨ok115, sW_in (List.mem_of_getElem? (i := 815) (by decide +kernel)) rfl, sW_in (List.mem_of_getElem? (i := 816) (by decide +kernel)) rfl, sW_in (List.mem_of_getElem? (i := 817) (by decide +kernel)) rfl, _, rfl, rfl⟩
theorem lcL_75 : sLv RL 75 59 1 6 := ⟨ok59, sW_in (List.mem_of_getElem? (i := 510) (by decide +kernel)) rfl, sW_in (List.mem_of_getElem? (i := 511) (by decide +kernel)) rfl, sW_in (List.mem_of_getElem? (i := 512) (by decide +kernel)) rfl, _, rfl, rfl⟩
theorem lcL_78 : sLv RL 78 116 1 7 := ⟨ok116, sW_in (List.mem_of_getElem? (i := 914) (by decide +kernel)) rfl, sW_in (List.mem_of_getElem? (i := 915) (by decide +kernel)) rfl, sW_in (List.mem_of_getElem? (i := 916) (by decide +kernel)) rfl, _, rfl, rfl⟩
theorem lcL_79 : sLv RL 79 60 1 6 := ⟨ok60, sW_in (List.mem_of_getElem? (i := 514) (by decide +kernel)) rfl, sW_in (List.mem_of_getElem? (i := 515) (by decide +kernel)) rfl, sW_in (List.mem_of_getElem? (i := 516) (by decide +kernel)) rfl, _, rfl, rfl⟩
theorem lcL_82 : sLv RL 82 117 1 7 := ⟨ok117, sW_in (List.mem_of_getElem? (i := 918) (by decide +kernel)) rfl, sW_in (List.mem_of_getElem? (i := 919) (by decide +kernel)) rfl, sW_in (List.mem_of_getElem? (i := 920) (by decide +kernel)) rfl, _, rfl, rfl⟩
theorem lcL_83 : sLv RL 83 61 1 6 := ⟨ok61, sW_in (List.mem_of_getElem? (i := 518) (by decide +kernel)) rfl, sW_in (List.mem_of_getElem? (i := 519) (by decide +kernel)) rfl, sW_in (List.mem_of_getElem? (i := 520) (by decide +kernel)) rfl, _, rfl, rfl⟩
theorem lcL_86 : sLv RL 86 118 1 7 := ⟨ok118, sW_in (List.mem_of_getElem? (i := 922) (by decide +kernel)) rfl, sW_in (List.mem_of_getElem? (i := 923) (by decide +kernel)) rfl, sW_in (List.mem_of_getElem? (i := 924) (by decide +kernel)) rfl, _, rfl, rfl⟩
theorem lcL_87 : sLv RL 87 62 1 6 := ⟨ok62, sW_in (List.mem_of_getElem? (i := 522) (by decide +kernel)) rfl, sW_in (List.mem_of_getElem? (i := 523) (by decide +kernel)) rfl, sW_in (List.mem_of_getElem? (i := 524) (by decide +kernel)) rfl, _, rfl, rfl⟩
theorem lcL_90 : sLv RL 90 119 1 7 := ⟨ok119, sW_in (List.mem_of_getElem? (i := 926) (by decide +kernel)) rfl, sW_in (List.mem_of_getElem? (i := 927) (by decide +kernel)) rfl, sW_in (List.mem_of_getElem? (i := 928) (by decide +kernel)) rfl, _, rfl, rfl⟩
theorem lcL_91 : sLv RL 91 63 1 6 := ⟨ok63, sW_in (List.mem_of_getElem? (i := 529) (by decide +kernel)) rfl, sW_in (List.mem_of_getElem? (i := 530) (by decide +kernel)) rfl, sW_in (List.mem_of_getElem? (i := 531) (by decide +kernel)) rfl, _, rfl, rfl⟩
theorem lcL_94 : sLv RL 94 120 1 7 := ⟨ok120, sW_in (List.mem_of_getElem? (i := 930) (by decide +kernel)) rfl, sW_in (List.mem_of_getElem? (i := 931) (by decide +kernel)) rfl, sW_in (List.mem_of_getElem? (i := 932) (by decide +kernel)) rfl, _, rfl, rfl⟩
theorem lcL_95 : sLv RL 95 64 0 6 := ⟨ok64, sW_in (List.mem_of_getElem? (i := 533) (by decide +kernel)) rfl, sW_in (List.mem_of_getElem? (i := 534) (by decide +kernel)) rfl, sW_in (List.mem_of_getElem? (i := 535) (by decide +kernel)) rfl, _, rfl, rfl⟩
theorem lcL_99 : sLv RL 99 121 0 7 := ⟨ok121, sW_in (List.mem_of_getElem? (i := 934) (by decide +kernel)) rfl, sW_in (List.mem_of_getElem? (i := 935) (by decide +kernel)) rfl, sW_in (List.mem_of_getElem? (i := 936) (by decide +kernel)) rfl, _, rfl, rfl⟩
theorem lcL_100 : sLv RL 100 65 2 6 := ⟨ok65, sW_in (List.mem_of_getElem? (i := 537) (by decide +kernel)) rfl, sW_in (List.mem_of_getElem? (i := 538) (by decide +kernel)) rfl, sW_in (List.mem_of_getElem? (i := 539) (by decide +kernel)) rfl, _, rfl, rfl⟩
theorem lcL_103 : sLv RL 103 122 2 7 := ⟨ok122, sW_in (List.mem_of_getElem? (i := 938) (by decide +kernel)) rfl, sW_in (List.mem_of_getElem? (i := 939) (by decide +kernel)) rfl, sW_in (List.mem_of_getElem? (i := 940) (by decide +kernel)) rfl, _, rfl, rfl⟩
theorem lcL_104 : sLv RL 104 66 1 6 := ⟨ok66, sW_in (List.mem_of_getElem? (i := 541) (by decide +kernel)) rfl, sW_in (List.mem_of_getElem? (i := 542) (by decide +kernel)) rfl, sW_in (List.mem_of_getElem? (i := 543) (by decide +kernel)) rfl, _, rfl, rfl⟩
theorem lcL_107 : sLv RL 107 123 1 7 := ⟨ok123, sW_in (List.mem_of_getElem? (i := 942) (by decide +kernel)) rfl, sW_in (List.mem_of_getElem? (i := 943) (by decide +kernel)) rfl, sW_in (List.mem_of_getElem? (i := 944) (by decide +kernel)) rfl, _, rfl, rfl⟩
theorem lcL_108 : sLv RL 108 67 1 6 := ⟨ok67, sW_in (List.mem_of_getElem? (i := 549) (by decide +kernel)) rfl, sW_in (List.mem_of_getElem? (i := 550) (by decide +kernel)) rfl, sW_in (List.mem_of_getElem? (i := 551) (by decide +kernel)) rfl, _, rfl, rfl⟩
theorem lcL_111 : sLv RL 111 124 1 7 := ⟨ok124, sW_in (List.mem_of_getElem? (i := 946) (by decide +kernel)) rfl, sW_in (List.mem_of_getElem? (i := 947) (by decide +kernel)) rfl, sW_in (List.mem_of_getElem? (i := 948) (by decide +kernel)) rfl, _, rfl, rfl⟩
theorem lo7_1 : sLo RX7 1 := sW_in (List.mem_of_getElem? (i := 558) (by decide +kernel)) rfl
theorem lc7_160 : sLs RX7 160 74 1 := ⟨ok74, sW_in (List.mem_of_getElem? (i := 750) (by decide +kernel)) rfl, Or.inl (sW_in (List.mem_of_getElem? (i := 749) (by decide +kernel)) rfl)⟩
theorem lc7_164 : sLv RX7 164 73 1 7 := ⟨ok73, sW_in (List.mem_of_getElem? (i := 752) (by decide +kernel)) rfl, sW_in (List.mem_of_getElem? (i := 754) (by decide +kernel)) rfl, sW_in (List.mem_of_getElem? (i := 11) (by decide +kernel)) rfl, _, rfl, rfl⟩
theorem lc7_168 : sLv RX7 168 75 1 7 := ⟨ok75, sW_in (List.mem_of_getElem? (i := 784) (by decide +kernel)) rfl, sW_in (List.mem_of_getElem? (i := 786) (by decide +kernel)) rfl, sW_in (List.mem_of_getElem? (i := 12) (by decide +kernel)) rfl, _, rfl, rfl⟩
theorem lc7_171 : sLs RX7 171 76 1 := ⟨ok76, sW_in (List.mem_of_getElem? (i := 789) (by decide +kernel)) rfl, Or.inl (sW_in (List.mem_of_getElem? (i := 788) (by decide +kernel)) rfl)⟩
theorem lc7_174 : sLv RX7 174 90 2 7 := ⟨ok90, sW_in (List.mem_of_getElem? (i := 811) (by decide +kernel)) rfl, sW_in (List.mem_of_getElem? (i := 813) (by decide +kernel)) rfl, sW_in (List.mem_of_getElem? (i := 13) (by decide +kernel)) rfl, _, rfl, rfl⟩
theorem lc7_187 : sLv RX7 187 91 2 7 := ⟨ok91, sW_in (List.mem_of_getElem? (i := 879) (by decide +kernel)) rfl, sW_in (List.mem_of_getElem? (i := 881) (by decide +kernel)) rfl, sW_in (List.mem_of_getElem? (i := 29) (by decide +kernel)) rfl, _, rfl, rfl⟩
theorem lc7_191 : sLv RX7 191 92 3 7 := ⟨ok92, sW_in (List.mem_of_getElem? (i := 883) (by decide +kernel)) rfl, sW_in (List.mem_of_getElem? (i := 885) (by decide +kernel)) rfl, sW_in (List.mem_of_getElem? (i := 30) (by decide +kernel)) rfl, _, rfl, rfl⟩
theorem lc7_195 : sLv RX7 195 94 1 7 := ⟨ok94, sW_in (List.mem_of_getElem? (i := 887) (by decide +kernel)) rfl, sW_in (List.mem_of_getElem? (i := 889) (by decide +kernel)) rfl, sW_in (List.mem_of_getElem? (i := 31) (by decide +kernel)) rfl, _, rfl, rfl⟩
theorem lc7_199 : sLv RX7 199 96 1 7 := ⟨ok96, sW_in (List.mem_of_getElem? (i := 823) (by decide +kernel)) rfl, sW_in (List.mem_of_getElem? (i := 825) (by decide +kernel)) rfl, sW_in (List.mem_of_getElem? (i := 15) (by decide +kernel)) rfl, _, rfl, rfl⟩
theorem lc7_205 : sLs RX7 205 95 1 := ⟨ok95, sW_in (List.mem_of_getElem? (i := 892) (by decide +kernel)) rfl, Or.inl (sW_in (List.mem_of_getElem? (i := 891) (by decide +kernel)) rfl)⟩
theorem lc7_208 : sLv RX7 208 99 0 7 := ⟨ok99, sW_in (List.mem_of_getElem? (i := 827) (by decide +kernel)) rfl, sW_in (List.mem_of_getElem? (i := 829) (by decide +kernel)) rfl, sW_in (List.mem_of_getElem? (i := 16) (by decide +kernel)) rfl, _, rfl, rfl⟩
theorem lc7_224 : sLv RX7 224 107 1 7 := ⟨ok107, sW_in (List.mem_of_getElem? (i := 831) (by decide +kernel)) rfl, sW_in (List.mem_of_getElem? (i := 833) (by decide +kernel)) rfl, sW_in (List.mem_of_getElem? (i := 17) (by decide +kernel)) rfl, _, rfl, rfl⟩
theorem lc7_227 : sLv RX7 227 108 1 7 := ⟨ok108, sW_in (List.mem_of_getElem? (i := 835) (by decide +kernel)) rfl, sW_in (List.mem_of_getElem? (i := 837) (by decide +kernel)) rfl, sW_in (List.mem_of_getElem? (i := 18) (by decide +kernel)) rfl, _, rfl, rfl⟩
theorem lc7_230 : sLv RX7 230 100 1 7 := ⟨ok100, sW_in (List.mem_of_getElem? (i := 839) (by decide +kernel)) rfl, sW_in (List.mem_of_getElem? (i := 841) (by decide +kernel)) rfl, sW_in (List.mem_of_getElem? (i := 19) (by decide +kernel)) rfl, _, rfl, rfl⟩
theorem lc7_233 : sLv RX7 233 112 1 7 := ⟨ok112, sW_in (List.mem_of_getElem? (i := 843) (by decide +kernel)) rfl, sW_in (List.mem_of_getElem? (i := 845) (by decide +kernel)) rfl, sW_in (List.mem_of_getElem? (i := 20) (by decide +kernel)) rfl, _, rfl, rfl⟩
theorem lc7_236 : sLv RX7 236 102 1 7 := ⟨ok102, sW_in (List.mem_of_getElem? (i := 871) (by decide +kernel)) rfl, sW_in (List.mem_of_getElem? (i := 873) (by decide +kernel)) rfl, sW_in (List.mem_of_getElem? (i := 27) (by decide +kernel)) rfl, _, rfl, rfl⟩
theorem lc7_239 : sLv RX7 239 93 1 7 := ⟨ok93, sW_in (List.mem_of_getElem? (i := 875) (by decide +kernel)) rfl, sW_in (List.mem_of_getElem? (i := 877) (by decide +kernel)) rfl, sW_in (List.mem_of_getElem? (i := 28) (by decide +kernel)) rfl, _, rfl, rfl⟩
theorem lc7_245 : sLv RX7 245 97 1 7 := ⟨ok97, sW_in (List.mem_of_getElem? (i := 867) (by decide +kernel)) rfl, sW_in (List.mem_of_getElem? (i := 869) (by decide +kernel)) rfl, sW_in (List.mem_of_getElem? (i := 26) (by decide +kernel)) rfl, _, rfl, rfl⟩
theorem lc7_248 : sLv RX7 248 109 2 7 := ⟨ok109, sW_in (List.mem_of_getElem? (i := 894) (by decide +kernel)) rfl, sW_in (List.mem_of_getElem? (i := 896) (by decide +kernel)) rfl, sW_in (List.mem_of_getElem? (i := 32) (by decide +kernel)) rfl, _, rfl, rfl⟩
theorem lc7_251 : sLv RX7 251 101 1 7 := ⟨ok101, sW_in (List.mem_of_getElem? (i := 906) (by decide +kernel)) rfl, sW_in (List.mem_of_getElem? (i := 908) (by decide +kernel)) rfl, sW_in (List.mem_of_getElem? (i := 35) (by decide +kernel)) rfl, _, rfl, rfl⟩
theorem lc7_254 : sLv RX7 254 103 3 7 := ⟨ok103, sW_in (List.mem_of_getElem? (i := 859) (by decide +kernel)) rfl, sW_in (List.mem_of_getElem? (i := 861) (by decide +kernel)) rfl, sW_in (List.mem_of_getElem? (i := 24) (by decide +kernel)) rfl, _, rfl, rfl⟩
theorem lc7_258 : sLv RX7 258 104 1 7 := ⟨ok104, sW_in (List.mem_of_getElem? (i := 855) (by decide +kernel)) rfl, sW_in (List.mem_of_getElem? (i := 857) (by decide +kernel)) rfl, sW_in (List.mem_of_getElem? (i := 23) (by decide +kernel)) rfl, _, rfl, rfl⟩
theorem lc7_261 : sLv RX7 261 106 2 7 := ⟨ok106, sW_in (List.mem_of_getElem? (i := 863) (by decide +kernel)) rfl, sW_in (List.mem_of_getElem? (i := 865) (by decide +kernel)) rfl, sW_in (List.mem_of_getElem? (i := 25) (by decide +kernel)) rfl, _, rfl, rfl⟩
theorem lc7_270 : sLv RX7 270 110 3 7 := ⟨ok110, sW_in (List.mem_of_getElem? (i := 898) (by decide +kernel)) rfl, sW_in (List.mem_of_getElem? (i := 900) (by decide +kernel)) rfl, sW_in (List.mem_of_getElem? (i := 33) (by decide +kernel)) rfl, _, rfl, rfl⟩
theorem lc7_273 : sLv RX7 273 111 1 7 := ⟨ok111, sW_in (List.mem_of_getElem? (i := 902) (by decide +kernel)) rfl, sW_in (List.mem_of_getElem? (i := 904) (by decide +kernel)) rfl, sW_in (List.mem_of_getElem? (i := 34) (by decide +kernel)) rfl, _, rfl, rfl⟩
theorem lc7_276 : sLv RX7 276 113 1 7 := ⟨ok113, sW_in (List.mem_of_getElem? (i := 847) (by decide +kernel)) rfl, sW_in (List.mem_of_getElem? (i := 849) (by decide +kernel)) rfl, sW_in (List.mem_of_getElem? (i := 21) (by decide +kernel)) rfl, _, rfl, rfl⟩
theorem lc7_279 : sLv RX7 279 105 1 7 := ⟨ok105, sW_in (List.mem_of_getElem? (i := 851) (by decide +kernel)) rfl, sW_in (List.mem_of_getElem? (i := 853) (by decide +kernel)) rfl, sW_in (List.mem_of_getElem? (i := 22) (by decide +kernel)) rfl, _, rfl, rfl⟩
theorem lc7_285 : sLv RX7 285 98 1 7 := ⟨ok98, sW_in (List.mem_of_getElem? (i := 819) (by decide +kernel)) rfl, sW_in (List.mem_of_getElem? (i := 821) (by decide +kernel)) rfl, sW_in (List.mem_of_getElem? (i := 14) (by decide +kernel)) rfl, _, rfl, rfl⟩
theorem lc7_288 : sLv RX7 288 114 0 7 := ⟨ok114, sW_in (List.mem_of_getElem? (i := 910) (by decide +kernel)) rfl, sW_in (List.mem_of_getElem? (i := 912) (by decide +kernel)) rfl, sW_in (List.mem_of_getElem? (i := 36) (by decide +kernel)) rfl, _, rfl, rfl⟩
theorem ln6_9 : sLn RX6 9 0 := ⟨_, rfl, sW_in (List.mem_of_getElem? (i := 57) (by decide +kernel)) rfl⟩
theorem ln6_16 : sLn RX6 16 2 := ⟨_, rfl, sW_in (List.mem_of_getElem? (i := 73) (by decide +kernel)) rfl⟩
theorem ln6_43 : sLn RX6 43 1 := ⟨_, rfl, sW_in (List.mem_of_getElem? (i := 92) (by decide +kernel)) rfl⟩
theorem lx6_57 : Cond.classLink RX6 57 "[I" ∈ sW := sW_in (List.mem_of_getElem? (i := 217) (by decide +kernel)) rfl
theorem ln2_9 : sLn RX2 9 4 := ⟨_, rfl, sW_in (List.mem_of_getElem? (i := 79) (by decide +kernel)) rfl⟩
theorem ln2_62 : sLn RX2 62 1 := ⟨_, rfl, sW_in (List.mem_of_getElem? (i := 478) (by decide +kernel)) rfl⟩
theorem ln3_15 : sLn RX3 15 5 := ⟨_, rfl, sW_in (List.mem_of_getElem? (i := 263) (by decide +kernel)) rfl⟩
theorem ln4_9 : sLn RX4 9 1 := ⟨_, rfl, sW_in (List.mem_of_getElem? (i := 85) (by decide +kernel)) rfl⟩
theorem ln4_17 : sLn RX4 17 3 := ⟨_, rfl, sW_in (List.mem_of_getElem? (i := 87) (by decide +kernel)) rfl⟩
theorem ln5_15 : sLn RX5 15 1 := ⟨_, rfl, sW_in (List.mem_of_getElem? (i := 441) (by decide +kernel)) rfl⟩
theorem lnL_7 : sLn RL 7 6 := ⟨_, rfl, sW_in (List.mem_of_getElem? (i := 49) (by decide +kernel)) rfl⟩
theorem lnL_10 : sLn RL 10 7 := ⟨_, rfl, sW_in (List.mem_of_getElem? (i := 553) (by decide +kernel)) rfl⟩
theorem ld7_62 : Cond.constant RX7 62 57600 ∈ sW := sW_in (List.mem_of_getElem? (i := 559) (by decide +kernel)) rfl
theorem mb0 : (sm 0).2.1 = cX0_init := rfl
theorem mb1 : (sm 1).2.1 = cX0_add := rfl
theorem mb2 : (sm 2).2.1 = cX1_init := rfl
theorem mb3 : (sm 3).2.1 = cX1_isFailure := rfl
theorem mb4 : (sm 4).2.1 = cX1_hasInt := rfl
theorem mb5 : (sm 5).2.1 = cX1_intAt := rfl
theorem mb6 : (sm 6).2.1 = cX1_hasStretch := rfl
theorem mb7 : (sm 7).2.1 = cX1_isSameAs := rfl
theorem mb8 : (sm 8).2.1 = cX2_init := rfl
theorem mb9 : (sm 9).2.1 = cX2_run := rfl
theorem mb10 : (sm 10).2.1 = cX2_ringBehind := rfl
theorem mb11 : (sm 11).2.1 = cX2_outcomeOf := rfl
theorem mb12 : (sm 12).2.1 = cX2_closeRing := rfl
theorem mb13 : (sm 13).2.1 = cX2_makeRule := rfl
theorem mb14 : (sm 14).2.1 = cX2_lookAt := rfl
theorem mb15 : (sm 15).2.1 = cX2_firstOther := rfl
theorem mb16 : (sm 16).2.1 = cX2_work := rfl
theorem mb17 : (sm 17).2.1 = cX2_noteWorked := rfl
theorem mb18 : (sm 18).2.1 = cX2_readInOrder := rfl
theorem mb19 : (sm 19).2.1 = cX2_rowOf := rfl
theorem mb20 : (sm 20).2.1 = cX2_sort := rfl
theorem mb21 : (sm 21).2.1 = cX2_readPicked := rfl
theorem mb22 : (sm 22).2.1 = cX2_readInput := rfl
theorem mb23 : (sm 23).2.1 = cX3_init := rfl
theorem mb24 : (sm 24).2.1 = cX3_hasInput := rfl
theorem mb25 : (sm 25).2.1 = cX3_traceAt := rfl
theorem mb26 : (sm 26).2.1 = cX3_dropTraces := rfl
theorem mb27 : (sm 27).2.1 = cX3_spareTrace := rfl
theorem mb28 : (sm 28).2.1 = cX3_keepSpare := rfl
theorem mb29 : (sm 29).2.1 = cX3_bringForward := rfl
theorem mb30 : (sm 30).2.1 = cX3_beginRound := rfl
theorem mb31 : (sm 31).2.1 = cX4_init := rfl
theorem mb32 : (sm 32).2.1 = cX4_sourceAt := rfl
theorem mb33 : (sm 33).2.1 = cX4_putRow := rfl
theorem mb34 : (sm 34).2.1 = cX4_ruleAt := rfl
theorem mb35 : (sm 35).2.1 = cX4_addRule := rfl
theorem mb36 : (sm 36).2.1 = cX4_keptTraces := rfl
theorem mb37 : (sm 37).2.1 = cX5_init := rfl
theorem mb38 : (sm 38).2.1 = cX5_addRead := rfl
theorem mb39 : (sm 39).2.1 = cX5_nameAt := rfl
theorem mb40 : (sm 40).2.1 = cX5_outcomeAt := rfl
theorem mb41 : (sm 41).2.1 = cX5_lengthAt := rfl
theorem mb42 : (sm 42).2.1 = cX5_joinedFrom := rfl
theorem mb43 : (sm 43).2.1 = cX5_sum := rfl
theorem mb44 : (sm 44).2.1 = cX6_init := rfl
theorem mb45 : (sm 45).2.1 = cX6_source := rfl
theorem mb46 : (sm 46).2.1 = cX6_set := rfl
theorem mb47 : (sm 47).2.1 = cX6_miss := rfl
theorem mb48 : (sm 48).2.1 = cX6_copy := rfl
theorem mb49 : (sm 49).2.1 = cX6_size := rfl
theorem mb50 : (sm 50).2.1 = cX6_told := rfl
theorem mb51 : (sm 51).2.1 = cX6_rule := rfl
theorem mb52 : (sm 52).2.1 = cX6_input := rfl
theorem mb53 : (sm 53).2.1 = cX6_turn := rfl
theorem mb54 : (sm 54).2.1 = cX6_become := rfl
theorem mb55 : (sm 55).2.1 = cX6_forget := rfl
theorem mb56 : (sm 56).2.1 = cX6_of := rfl
theorem mb57 : (sm 57).2.1 = cX6_trace := rfl
theorem mb58 : (sm 58).2.1 = cX6_make := rfl
theorem mb59 : (sm 59).2.1 = cX6_anew := rfl
theorem mb60 : (sm 60).2.1 = cX6_outcome := rfl
theorem mb61 : (sm 61).2.1 = cX6_part := rfl
theorem mb62 : (sm 62).2.1 = cX6_ring := rfl
theorem mb63 : (sm 63).2.1 = cX6_worked := rfl
theorem mb64 : (sm 64).2.1 = cX6_looked := rfl
theorem mb65 : (sm 65).2.1 = cX6_stale := rfl
theorem mb66 : (sm 66).2.1 = cX6_count := rfl
theorem mb67 : (sm 67).2.1 = cX6_found := rfl
theorem mb68 : (sm 68).2.1 = cX6_isKind := rfl
theorem mb69 : (sm 69).2.1 = cX6_isName := rfl
theorem mb70 : (sm 70).2.1 = cX6_isIn := rfl
theorem mb71 : (sm 71).2.1 = cX6_failureOf := rfl
theorem mb72 : (sm 72).2.1 = cX7_init := rfl
theorem mb73 : (sm 73).2.1 = cX7_find := rfl
theorem mb74 : (sm 74).2.1 = cX7_isSource := rfl
theorem mb75 : (sm 75).2.1 = cX7_isRule := rfl
theorem mb76 : (sm 76).2.1 = cX7_isName := rfl
theorem mb77 : (sm 77).2.1 = cX7_source := rfl
theorem mb78 : (sm 78).2.1 = cX7_set := rfl
theorem mb79 : (sm 79).2.1 = cX7_miss := rfl
theorem mb80 : (sm 80).2.1 = cX7_copy := rfl
theorem mb81 : (sm 81).2.1 = cX7_size := rfl
theorem mb82 : (sm 82).2.1 = cX7_told := rfl
theorem mb83 : (sm 83).2.1 = cX7_rule := rfl
theorem mb84 : (sm 84).2.1 = cX7_input := rfl
theorem mb85 : (sm 85).2.1 = cX7_turn := rfl
theorem mb86 : (sm 86).2.1 = cX7_become := rfl
theorem mb87 : (sm 87).2.1 = cX7_forget := rfl
theorem mb88 : (sm 88).2.1 = cX7_of := rfl
theorem mb89 : (sm 89).2.1 = cX7_trace := rfl
theorem mb90 : (sm 90).2.1 = cX7_slotOf := rfl
theorem mb91 : (sm 91).2.1 = cX7_gotFailure := rfl
theorem mb92 : (sm 92).2.1 = cX7_gotRow := rfl
theorem mb93 : (sm 93).2.1 = cX7_get := rfl
theorem mb94 : (sm 94).2.1 = cX7_isRing := rfl
theorem mb95 : (sm 95).2.1 = cX7_least := rfl
theorem mb96 : (sm 96).2.1 = cX7_opened := rfl
theorem mb97 : (sm 97).2.1 = cX7_closed := rfl
theorem mb98 : (sm 98).2.1 = cX7_goRound := rfl
theorem mb99 : (sm 99).2.1 = cX7_goes := rfl
theorem mb100 : (sm 100).2.1 = cX7_nextOld := rfl
theorem mb101 : (sm 101).2.1 = cX7_compares := rfl
theorem mb102 : (sm 102).2.1 = cX7_isFit := rfl
theorem mb103 : (sm 103).2.1 = cX7_used := rfl
theorem mb104 : (sm 104).2.1 = cX7_freeSlot := rfl
theorem mb105 : (sm 105).2.1 = cX7_keeps := rfl
theorem mb106 : (sm 106).2.1 = cX7_keepsRead := rfl
theorem mb107 : (sm 107).2.1 = cX7_begins := rfl
theorem mb108 : (sm 108).2.1 = cX7_nextRead := rfl
theorem mb109 : (sm 109).2.1 = cX7_takes := rfl
theorem mb110 : (sm 110).2.1 = cX7_endsWith := rfl
theorem mb111 : (sm 111).2.1 = cX7_appends := rfl
theorem mb112 : (sm 112).2.1 = cX7_finishes := rfl
theorem mb113 : (sm 113).2.1 = cX7_sorts := rfl
theorem mb114 : (sm 114).2.1 = cX7_answer := rfl
theorem mb115 : (sm 115).2.1 = cX7_make := rfl
theorem mb116 : (sm 116).2.1 = cX7_anew := rfl
theorem mb117 : (sm 117).2.1 = cX7_outcome := rfl
theorem mb118 : (sm 118).2.1 = cX7_part := rfl
theorem mb119 : (sm 119).2.1 = cX7_ring := rfl
theorem mb120 : (sm 120).2.1 = cX7_worked := rfl
theorem mb121 : (sm 121).2.1 = cX7_looked := rfl
theorem mb122 : (sm 122).2.1 = cX7_stale := rfl
theorem mb123 : (sm 123).2.1 = cX7_count := rfl
theorem mb124 : (sm 124).2.1 = cX7_found := rfl
theorem mb125 : (sm 125).2.1 = cJ9_floorMod_7cf53 := rfl
theorem mb126 : (sm 126).2.1 = cJ7_fill_53178 := rfl
theorem mb200 : (sm 200).2.1 = cL_law := rfl
