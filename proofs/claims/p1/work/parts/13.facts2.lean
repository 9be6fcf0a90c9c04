/-! The words of calls: own work. -/
def xm_cd (k : Nat) : Cond := Cond.code (xm_y k) (xm_b k) (xm_n k) (xm_r k)
theorem xm_w0 : xm_cd 0 ∈ xm_ws := List.mem_filter.mpr ⟨xm_tb_in (j := 1) (List.mem_of_getElem? (i := 18) rfl), rfl⟩
theorem xm_w1 : xm_cd 1 ∈ xm_ws := List.mem_filter.mpr ⟨xm_tb_in (j := 1) (List.mem_of_getElem? (i := 103) rfl), rfl⟩
theorem xm_w2 : xm_cd 2 ∈ xm_ws := List.mem_filter.mpr ⟨xm_tb_in (j := 1) (List.mem_of_getElem? (i := 162) rfl), rfl⟩
theorem xm_w3 : xm_cd 3 ∈ xm_ws := List.mem_filter.mpr ⟨xm_tb_in (j := 1) (List.mem_of_getElem? (i := 182) rfl), rfl⟩
theorem xm_w4 : xm_cd 4 ∈ xm_ws := List.mem_filter.mpr ⟨xm_tb_in (j := 1) (List.mem_of_getElem? (i := 193) rfl), rfl⟩
theorem xm_w5 : xm_cd 5 ∈ xm_ws := List.mem_filter.mpr ⟨xm_tb_in (j := 1) (List.mem_of_getElem? (i := 200) rfl), rfl⟩
theorem xm_w6 : xm_cd 6 ∈ xm_ws := List.mem_filter.mpr ⟨xm_tb_in (j := 1) (List.mem_of_getElem? (i := 236) rfl), rfl⟩
theorem xm_w7 : xm_cd 7 ∈ xm_ws := List.mem_filter.mpr ⟨xm_tb_in (j := 2) (List.mem_of_getElem? (i := 16) rfl), rfl⟩
theorem xm_w8 : xm_cd 8 ∈ xm_ws := List.mem_filter.mpr ⟨xm_tb_in (j := 2) (List.mem_of_getElem? (i := 39) rfl), rfl⟩
theorem xm_w9 : xm_cd 9 ∈ xm_ws := List.mem_filter.mpr ⟨xm_tb_in (j := 2) (List.mem_of_getElem? (i := 47) rfl), rfl⟩
theorem xm_w10 : xm_cd 10 ∈ xm_ws := List.mem_filter.mpr ⟨xm_tb_in (j := 2) (List.mem_of_getElem? (i := 76) rfl), rfl⟩
theorem xm_w11 : xm_cd 11 ∈ xm_ws := List.mem_filter.mpr ⟨xm_tb_in (j := 2) (List.mem_of_getElem? (i := 51) rfl), rfl⟩
theorem xm_w12 : xm_cd 12 ∈ xm_ws := List.mem_filter.mpr ⟨xm_tb_in (j := 2) (List.mem_of_getElem? (i := 59) rfl), rfl⟩
theorem xm_w13 : xm_cd 13 ∈ xm_ws := List.mem_filter.mpr ⟨xm_tb_in (j := 2) (List.mem_of_getElem? (i := 63) rfl), rfl⟩
theorem xm_w14 : xm_cd 14 ∈ xm_ws := List.mem_filter.mpr ⟨xm_tb_in (j := 2) (List.mem_of_getElem? (i := 67) rfl), rfl⟩
theorem xm_w15 : xm_cd 15 ∈ xm_ws := List.mem_filter.mpr ⟨xm_tb_in (j := 1) (List.mem_of_getElem? (i := 106) rfl), rfl⟩
theorem xm_w16 : xm_cd 16 ∈ xm_ws := List.mem_filter.mpr ⟨xm_tb_in (j := 1) (List.mem_of_getElem? (i := 166) rfl), rfl⟩
theorem xm_w17 : xm_cd 17 ∈ xm_ws := List.mem_filter.mpr ⟨xm_tb_in (j := 1) (List.mem_of_getElem? (i := 158) rfl), rfl⟩
theorem xm_w18 : xm_cd 18 ∈ xm_ws := List.mem_filter.mpr ⟨xm_tb_in (j := 1) (List.mem_of_getElem? (i := 114) rfl), rfl⟩
theorem xm_w19 : xm_cd 19 ∈ xm_ws := List.mem_filter.mpr ⟨xm_tb_in (j := 1) (List.mem_of_getElem? (i := 109) rfl), rfl⟩
theorem xm_w20 : xm_cd 20 ∈ xm_ws := List.mem_filter.mpr ⟨xm_tb_in (j := 1) (List.mem_of_getElem? (i := 185) rfl), rfl⟩
theorem xm_w21 : xm_cd 21 ∈ xm_ws := List.mem_filter.mpr ⟨xm_tb_in (j := 1) (List.mem_of_getElem? (i := 196) rfl), rfl⟩
theorem xm_w22 : xm_cd 22 ∈ xm_ws := List.mem_filter.mpr ⟨xm_tb_in (j := 2) (List.mem_of_getElem? (i := 35) rfl), rfl⟩
theorem xm_w23 : xm_cd 23 ∈ xm_ws := List.mem_filter.mpr ⟨xm_tb_in (j := 1) (List.mem_of_getElem? (i := 178) rfl), rfl⟩
theorem xm_w24 : xm_cd 24 ∈ xm_ws := List.mem_filter.mpr ⟨xm_tb_in (j := 1) (List.mem_of_getElem? (i := 189) rfl), rfl⟩
theorem xm_w25 : xm_cd 25 ∈ xm_ws := List.mem_filter.mpr ⟨xm_tb_in (j := 1) (List.mem_of_getElem? (i := 170) rfl), rfl⟩
theorem xm_w26 : xm_cd 26 ∈ xm_ws := List.mem_filter.mpr ⟨xm_tb_in (j := 1) (List.mem_of_getElem? (i := 174) rfl), rfl⟩
theorem xm_w27 : xm_cd 27 ∈ xm_ws := List.mem_filter.mpr ⟨xm_tb_in (j := 2) (List.mem_of_getElem? (i := 199) rfl), rfl⟩
theorem xm_w28 : xm_cd 28 ∈ xm_ws := List.mem_filter.mpr ⟨xm_tb_in (j := 2) (List.mem_of_getElem? (i := 195) rfl), rfl⟩
theorem xm_w29 : xm_cd 29 ∈ xm_ws := List.mem_filter.mpr ⟨xm_tb_in (j := 2) (List.mem_of_getElem? (i := 8) rfl), rfl⟩
theorem xm_w30 : xm_cd 30 ∈ xm_ws := List.mem_filter.mpr ⟨xm_tb_in (j := 2) (List.mem_of_getElem? (i := 4) rfl), rfl⟩
theorem xm_w31 : xm_cd 31 ∈ xm_ws := List.mem_filter.mpr ⟨xm_tb_in (j := 2) (List.mem_of_getElem? (i := 32) rfl), rfl⟩
theorem xm_w32 : xm_cd 32 ∈ xm_ws := List.mem_filter.mpr ⟨xm_tb_in (j := 2) (List.mem_of_getElem? (i := 28) rfl), rfl⟩
theorem xm_w33 : xm_cd 33 ∈ xm_ws := List.mem_filter.mpr ⟨xm_tb_in (j := 2) (List.mem_of_getElem? (i := 186) rfl), rfl⟩
theorem xm_w34 : xm_cd 34 ∈ xm_ws := List.mem_filter.mpr ⟨xm_tb_in (j := 1) (List.mem_of_getElem? (i := 205) rfl), rfl⟩
theorem xm_w35 : xm_cd 35 ∈ xm_ws := List.mem_filter.mpr ⟨xm_tb_in (j := 2) (List.mem_of_getElem? (i := 0) rfl), rfl⟩
theorem xm_w36 : xm_cd 36 ∈ xm_ws := List.mem_filter.mpr ⟨xm_tb_in (j := 2) (List.mem_of_getElem? (i := 12) rfl), rfl⟩
theorem xm_w37 : xm_cd 37 ∈ xm_ws := List.mem_filter.mpr ⟨xm_tb_in (j := 2) (List.mem_of_getElem? (i := 20) rfl), rfl⟩
theorem xm_w38 : xm_cd 38 ∈ xm_ws := List.mem_filter.mpr ⟨xm_tb_in (j := 2) (List.mem_of_getElem? (i := 24) rfl), rfl⟩
theorem xm_w39 : xm_cd 39 ∈ xm_ws := List.mem_filter.mpr ⟨xm_tb_in (j := 1) (List.mem_of_getElem? (i := 119) rfl), rfl⟩
theorem xm_w40 : xm_cd 40 ∈ xm_ws := List.mem_filter.mpr ⟨xm_tb_in (j := 2) (List.mem_of_getElem? (i := 190) rfl), rfl⟩
theorem xm_w41 : xm_cd 41 ∈ xm_ws := List.mem_filter.mpr ⟨xm_tb_in (j := 3) (List.mem_of_getElem? (i := 10) rfl), rfl⟩
theorem xm_w42 : xm_cd 42 ∈ xm_ws := List.mem_filter.mpr ⟨xm_tb_in (j := 1) (List.mem_of_getElem? (i := 28) rfl), rfl⟩
theorem xm_w43 : xm_cd 43 ∈ xm_ws := List.mem_filter.mpr ⟨xm_tb_in (j := 2) (List.mem_of_getElem? (i := 55) rfl), rfl⟩
theorem xm_w44 : xm_cd 44 ∈ xm_ws := List.mem_filter.mpr ⟨xm_tb_in (j := 2) (List.mem_of_getElem? (i := 43) rfl), rfl⟩
theorem xm_w45 : xm_cd 45 ∈ xm_ws := List.mem_filter.mpr ⟨xm_tb_in (j := 2) (List.mem_of_getElem? (i := 146) rfl), rfl⟩
theorem xm_w46 : xm_cd 46 ∈ xm_ws := List.mem_filter.mpr ⟨xm_tb_in (j := 3) (List.mem_of_getElem? (i := 86) rfl), rfl⟩
theorem xm_w47 : xm_cd 47 ∈ xm_ws := List.mem_filter.mpr ⟨xm_tb_in (j := 3) (List.mem_of_getElem? (i := 90) rfl), rfl⟩
theorem xm_w48 : xm_cd 48 ∈ xm_ws := List.mem_filter.mpr ⟨xm_tb_in (j := 2) (List.mem_of_getElem? (i := 224) rfl), rfl⟩
theorem xm_w49 : xm_cd 49 ∈ xm_ws := List.mem_filter.mpr ⟨xm_tb_in (j := 2) (List.mem_of_getElem? (i := 231) rfl), rfl⟩
theorem xm_w50 : xm_cd 50 ∈ xm_ws := List.mem_filter.mpr ⟨xm_tb_in (j := 2) (List.mem_of_getElem? (i := 220) rfl), rfl⟩
theorem xm_w51 : xm_cd 51 ∈ xm_ws := List.mem_filter.mpr ⟨xm_tb_in (j := 3) (List.mem_of_getElem? (i := 2) rfl), rfl⟩
theorem xm_w52 : xm_cd 52 ∈ xm_ws := List.mem_filter.mpr ⟨xm_tb_in (j := 3) (List.mem_of_getElem? (i := 6) rfl), rfl⟩
theorem xm_w53 : xm_cd 53 ∈ xm_ws := List.mem_filter.mpr ⟨xm_tb_in (j := 1) (List.mem_of_getElem? (i := 45) rfl), rfl⟩
theorem xm_w54 : xm_cd 54 ∈ xm_ws := List.mem_filter.mpr ⟨xm_tb_in (j := 2) (List.mem_of_getElem? (i := 142) rfl), rfl⟩
theorem xm_w55 : xm_cd 55 ∈ xm_ws := List.mem_filter.mpr ⟨xm_tb_in (j := 2) (List.mem_of_getElem? (i := 151) rfl), rfl⟩
theorem xm_w56 : xm_cd 56 ∈ xm_ws := List.mem_filter.mpr ⟨xm_tb_in (j := 2) (List.mem_of_getElem? (i := 174) rfl), rfl⟩
theorem xm_w57 : xm_cd 57 ∈ xm_ws := List.mem_filter.mpr ⟨xm_tb_in (j := 2) (List.mem_of_getElem? (i := 170) rfl), rfl⟩
theorem xm_w58 : xm_cd 58 ∈ xm_ws := List.mem_filter.mpr ⟨xm_tb_in (j := 2) (List.mem_of_getElem? (i := 178) rfl), rfl⟩
theorem xm_w59 : xm_cd 59 ∈ xm_ws := List.mem_filter.mpr ⟨xm_tb_in (j := 2) (List.mem_of_getElem? (i := 211) rfl), rfl⟩
theorem xm_w60 : xm_cd 60 ∈ xm_ws := List.mem_filter.mpr ⟨xm_tb_in (j := 2) (List.mem_of_getElem? (i := 182) rfl), rfl⟩
theorem xm_w61 : xm_cd 61 ∈ xm_ws := List.mem_filter.mpr ⟨xm_tb_in (j := 2) (List.mem_of_getElem? (i := 207) rfl), rfl⟩
theorem xm_w62 : xm_cd 62 ∈ xm_ws := List.mem_filter.mpr ⟨xm_tb_in (j := 3) (List.mem_of_getElem? (i := 65) rfl), rfl⟩
theorem xm_w63 : xm_cd 63 ∈ xm_ws := List.mem_filter.mpr ⟨xm_tb_in (j := 3) (List.mem_of_getElem? (i := 69) rfl), rfl⟩
theorem xm_w64 : xm_cd 64 ∈ xm_ws := List.mem_filter.mpr ⟨xm_tb_in (j := 3) (List.mem_of_getElem? (i := 73) rfl), rfl⟩
theorem xm_w65 : xm_cd 65 ∈ xm_ws := List.mem_filter.mpr ⟨xm_tb_in (j := 3) (List.mem_of_getElem? (i := 77) rfl), rfl⟩
theorem xm_w66 : xm_cd 66 ∈ xm_ws := List.mem_filter.mpr ⟨xm_tb_in (j := 3) (List.mem_of_getElem? (i := 81) rfl), rfl⟩
theorem xm_w67 : xm_cd 67 ∈ xm_ws := List.mem_filter.mpr ⟨xm_tb_in (j := 3) (List.mem_of_getElem? (i := 22) rfl), rfl⟩
theorem xm_w68 : xm_cd 68 ∈ xm_ws := List.mem_filter.mpr ⟨xm_tb_in (j := 3) (List.mem_of_getElem? (i := 39) rfl), rfl⟩
theorem xm_w69 : xm_cd 69 ∈ xm_ws := List.mem_filter.mpr ⟨xm_tb_in (j := 3) (List.mem_of_getElem? (i := 27) rfl), rfl⟩
theorem xm_w70 : xm_cd 70 ∈ xm_ws := List.mem_filter.mpr ⟨xm_tb_in (j := 3) (List.mem_of_getElem? (i := 31) rfl), rfl⟩
theorem xm_w71 : xm_cd 71 ∈ xm_ws := List.mem_filter.mpr ⟨xm_tb_in (j := 3) (List.mem_of_getElem? (i := 35) rfl), rfl⟩
theorem xm_w72 : xm_cd 72 ∈ xm_ws := List.mem_filter.mpr ⟨xm_tb_in (j := 3) (List.mem_of_getElem? (i := 60) rfl), rfl⟩
theorem xm_w73 : xm_cd 73 ∈ xm_ws := List.mem_filter.mpr ⟨xm_tb_in (j := 3) (List.mem_of_getElem? (i := 43) rfl), rfl⟩
theorem xm_w74 : xm_cd 74 ∈ xm_ws := List.mem_filter.mpr ⟨xm_tb_in (j := 3) (List.mem_of_getElem? (i := 46) rfl), rfl⟩
theorem xm_w75 : xm_cd 75 ∈ xm_ws := List.mem_filter.mpr ⟨xm_tb_in (j := 3) (List.mem_of_getElem? (i := 49) rfl), rfl⟩
theorem xm_w76 : xm_cd 76 ∈ xm_ws := List.mem_filter.mpr ⟨xm_tb_in (j := 3) (List.mem_of_getElem? (i := 53) rfl), rfl⟩
theorem xm_w77 : xm_cd 77 ∈ xm_ws := List.mem_filter.mpr ⟨xm_tb_in (j := 3) (List.mem_of_getElem? (i := 18) rfl), rfl⟩
theorem xm_w78 : xm_cd 78 ∈ xm_ws := List.mem_filter.mpr ⟨xm_tb_in (j := 3) (List.mem_of_getElem? (i := 14) rfl), rfl⟩
theorem xm_w79 : xm_cd 79 ∈ xm_ws := List.mem_filter.mpr ⟨xm_tb_in (j := 2) (List.mem_of_getElem? (i := 203) rfl), rfl⟩
theorem xm_w80 : xm_cd 80 ∈ xm_ws := List.mem_filter.mpr ⟨xm_tb_in (j := 2) (List.mem_of_getElem? (i := 216) rfl), rfl⟩
theorem xm_w81 : xm_cd 81 ∈ xm_ws := List.mem_filter.mpr ⟨xm_tb_in (j := 2) (List.mem_of_getElem? (i := 235) rfl), rfl⟩
theorem xm_w82 : xm_cd 82 ∈ xm_ws := List.mem_filter.mpr ⟨xm_tb_in (j := 3) (List.mem_of_getElem? (i := 98) rfl), rfl⟩
theorem xm_w83 : xm_cd 83 ∈ xm_ws := List.mem_filter.mpr ⟨xm_tb_in (j := 4) (List.mem_of_getElem? (i := 6) rfl), rfl⟩
theorem xm_w84 : xm_cd 84 ∈ xm_ws := List.mem_filter.mpr ⟨xm_tb_in (j := 4) (List.mem_of_getElem? (i := 79) rfl), rfl⟩
theorem xm_w85 : xm_cd 85 ∈ xm_ws := List.mem_filter.mpr ⟨xm_tb_in (j := 4) (List.mem_of_getElem? (i := 22) rfl), rfl⟩
theorem xm_w86 : xm_cd 86 ∈ xm_ws := List.mem_filter.mpr ⟨xm_tb_in (j := 4) (List.mem_of_getElem? (i := 14) rfl), rfl⟩
theorem xm_w87 : xm_cd 87 ∈ xm_ws := List.mem_filter.mpr ⟨xm_tb_in (j := 4) (List.mem_of_getElem? (i := 10) rfl), rfl⟩
theorem xm_w88 : xm_cd 88 ∈ xm_ws := List.mem_filter.mpr ⟨xm_tb_in (j := 4) (List.mem_of_getElem? (i := 18) rfl), rfl⟩
theorem xm_w89 : xm_cd 89 ∈ xm_ws := List.mem_filter.mpr ⟨xm_tb_in (j := 4) (List.mem_of_getElem? (i := 30) rfl), rfl⟩
theorem xm_w90 : xm_cd 90 ∈ xm_ws := List.mem_filter.mpr ⟨xm_tb_in (j := 4) (List.mem_of_getElem? (i := 26) rfl), rfl⟩
theorem xm_w91 : xm_cd 91 ∈ xm_ws := List.mem_filter.mpr ⟨xm_tb_in (j := 4) (List.mem_of_getElem? (i := 35) rfl), rfl⟩
theorem xm_w92 : xm_cd 92 ∈ xm_ws := List.mem_filter.mpr ⟨xm_tb_in (j := 4) (List.mem_of_getElem? (i := 39) rfl), rfl⟩
theorem xm_w93 : xm_cd 93 ∈ xm_ws := List.mem_filter.mpr ⟨xm_tb_in (j := 4) (List.mem_of_getElem? (i := 47) rfl), rfl⟩
theorem xm_w94 : xm_cd 94 ∈ xm_ws := List.mem_filter.mpr ⟨xm_tb_in (j := 4) (List.mem_of_getElem? (i := 43) rfl), rfl⟩
theorem xm_w95 : xm_cd 95 ∈ xm_ws := List.mem_filter.mpr ⟨xm_tb_in (j := 4) (List.mem_of_getElem? (i := 63) rfl), rfl⟩
theorem xm_w96 : xm_cd 96 ∈ xm_ws := List.mem_filter.mpr ⟨xm_tb_in (j := 4) (List.mem_of_getElem? (i := 59) rfl), rfl⟩
theorem xm_w97 : xm_cd 97 ∈ xm_ws := List.mem_filter.mpr ⟨xm_tb_in (j := 4) (List.mem_of_getElem? (i := 55) rfl), rfl⟩
theorem xm_w98 : xm_cd 98 ∈ xm_ws := List.mem_filter.mpr ⟨xm_tb_in (j := 4) (List.mem_of_getElem? (i := 51) rfl), rfl⟩
theorem xm_w99 : xm_cd 99 ∈ xm_ws := List.mem_filter.mpr ⟨xm_tb_in (j := 4) (List.mem_of_getElem? (i := 67) rfl), rfl⟩
theorem xm_w100 : xm_cd 100 ∈ xm_ws := List.mem_filter.mpr ⟨xm_tb_in (j := 4) (List.mem_of_getElem? (i := 71) rfl), rfl⟩
theorem xm_w101 : xm_cd 101 ∈ xm_ws := List.mem_filter.mpr ⟨xm_tb_in (j := 4) (List.mem_of_getElem? (i := 95) rfl), rfl⟩
theorem xm_w102 : xm_cd 102 ∈ xm_ws := List.mem_filter.mpr ⟨xm_tb_in (j := 4) (List.mem_of_getElem? (i := 91) rfl), rfl⟩
theorem xm_w103 : xm_cd 103 ∈ xm_ws := List.mem_filter.mpr ⟨xm_tb_in (j := 4) (List.mem_of_getElem? (i := 87) rfl), rfl⟩
theorem xm_w104 : xm_cd 104 ∈ xm_ws := List.mem_filter.mpr ⟨xm_tb_in (j := 4) (List.mem_of_getElem? (i := 107) rfl), rfl⟩
theorem xm_w105 : xm_cd 105 ∈ xm_ws := List.mem_filter.mpr ⟨xm_tb_in (j := 4) (List.mem_of_getElem? (i := 124) rfl), rfl⟩
theorem xm_w106 : xm_cd 106 ∈ xm_ws := List.mem_filter.mpr ⟨xm_tb_in (j := 4) (List.mem_of_getElem? (i := 153) rfl), rfl⟩
theorem xm_w107 : xm_cd 107 ∈ xm_ws := List.mem_filter.mpr ⟨xm_tb_in (j := 4) (List.mem_of_getElem? (i := 149) rfl), rfl⟩
theorem xm_w108 : xm_cd 108 ∈ xm_ws := List.mem_filter.mpr ⟨xm_tb_in (j := 4) (List.mem_of_getElem? (i := 157) rfl), rfl⟩
theorem xm_w109 : xm_cd 109 ∈ xm_ws := List.mem_filter.mpr ⟨xm_tb_in (j := 4) (List.mem_of_getElem? (i := 145) rfl), rfl⟩
theorem xm_w110 : xm_cd 110 ∈ xm_ws := List.mem_filter.mpr ⟨xm_tb_in (j := 4) (List.mem_of_getElem? (i := 177) rfl), rfl⟩
theorem xm_w111 : xm_cd 111 ∈ xm_ws := List.mem_filter.mpr ⟨xm_tb_in (j := 4) (List.mem_of_getElem? (i := 189) rfl), rfl⟩
theorem xm_w112 : xm_cd 112 ∈ xm_ws := List.mem_filter.mpr ⟨xm_tb_in (j := 4) (List.mem_of_getElem? (i := 185) rfl), rfl⟩
theorem xm_w113 : xm_cd 113 ∈ xm_ws := List.mem_filter.mpr ⟨xm_tb_in (j := 4) (List.mem_of_getElem? (i := 173) rfl), rfl⟩
theorem xm_w114 : xm_cd 114 ∈ xm_ws := List.mem_filter.mpr ⟨xm_tb_in (j := 4) (List.mem_of_getElem? (i := 169) rfl), rfl⟩
theorem xm_w115 : xm_cd 115 ∈ xm_ws := List.mem_filter.mpr ⟨xm_tb_in (j := 4) (List.mem_of_getElem? (i := 120) rfl), rfl⟩
theorem xm_w116 : xm_cd 116 ∈ xm_ws := List.mem_filter.mpr ⟨xm_tb_in (j := 4) (List.mem_of_getElem? (i := 116) rfl), rfl⟩
theorem xm_w117 : xm_cd 117 ∈ xm_ws := List.mem_filter.mpr ⟨xm_tb_in (j := 4) (List.mem_of_getElem? (i := 112) rfl), rfl⟩
theorem xm_w118 : xm_cd 118 ∈ xm_ws := List.mem_filter.mpr ⟨xm_tb_in (j := 4) (List.mem_of_getElem? (i := 136) rfl), rfl⟩
theorem xm_w119 : xm_cd 119 ∈ xm_ws := List.mem_filter.mpr ⟨xm_tb_in (j := 4) (List.mem_of_getElem? (i := 141) rfl), rfl⟩
theorem xm_w120 : xm_cd 120 ∈ xm_ws := List.mem_filter.mpr ⟨xm_tb_in (j := 4) (List.mem_of_getElem? (i := 128) rfl), rfl⟩
theorem xm_w121 : xm_cd 121 ∈ xm_ws := List.mem_filter.mpr ⟨xm_tb_in (j := 4) (List.mem_of_getElem? (i := 103) rfl), rfl⟩
theorem xm_w122 : xm_cd 122 ∈ xm_ws := List.mem_filter.mpr ⟨xm_tb_in (j := 4) (List.mem_of_getElem? (i := 161) rfl), rfl⟩
theorem xm_w123 : xm_cd 123 ∈ xm_ws := List.mem_filter.mpr ⟨xm_tb_in (j := 4) (List.mem_of_getElem? (i := 83) rfl), rfl⟩
theorem xm_w124 : xm_cd 124 ∈ xm_ws := List.mem_filter.mpr ⟨xm_tb_in (j := 4) (List.mem_of_getElem? (i := 99) rfl), rfl⟩
theorem xm_w125 : xm_cd 125 ∈ xm_ws := List.mem_filter.mpr ⟨xm_tb_in (j := 4) (List.mem_of_getElem? (i := 181) rfl), rfl⟩
theorem xm_w126 : xm_cd 126 ∈ xm_ws := List.mem_filter.mpr ⟨xm_tb_in (j := 4) (List.mem_of_getElem? (i := 193) rfl), rfl⟩
theorem xm_w127 : xm_cd 127 ∈ xm_ws := List.mem_filter.mpr ⟨xm_tb_in (j := 4) (List.mem_of_getElem? (i := 197) rfl), rfl⟩
theorem xm_w128 : xm_cd 128 ∈ xm_ws := List.mem_filter.mpr ⟨xm_tb_in (j := 4) (List.mem_of_getElem? (i := 165) rfl), rfl⟩
theorem xm_w129 : xm_cd 129 ∈ xm_ws := List.mem_filter.mpr ⟨xm_tb_in (j := 4) (List.mem_of_getElem? (i := 75) rfl), rfl⟩
theorem xm_w130 : xm_cd 130 ∈ xm_ws := List.mem_filter.mpr ⟨xm_tb_in (j := 4) (List.mem_of_getElem? (i := 201) rfl), rfl⟩
theorem xm_w131 : xm_cd 131 ∈ xm_ws := List.mem_filter.mpr ⟨xm_tb_in (j := 4) (List.mem_of_getElem? (i := 205) rfl), rfl⟩
theorem xm_w132 : xm_cd 132 ∈ xm_ws := List.mem_filter.mpr ⟨xm_tb_in (j := 4) (List.mem_of_getElem? (i := 209) rfl), rfl⟩
theorem xm_w133 : xm_cd 133 ∈ xm_ws := List.mem_filter.mpr ⟨xm_tb_in (j := 4) (List.mem_of_getElem? (i := 213) rfl), rfl⟩
theorem xm_wall : ∀ k ∈ ([0, 1, 2, 3, 4, 5, 6, 7, 8, 9, 10, 11, 12, 13, 14, 15, 16, 17, 18, 19, 20, 21, 22, 23, 24, 25, 26, 27, 28, 29, 30, 31, 32, 33, 34, 35, 36, 37, 38, 39, 40, 41, 42, 43, 44, 45, 46, 47, 48, 49, 50, 51, 52, 53, 54, 55, 56, 57, 58, 59, 60, 61, 62, 63, 64, 65, 66, 67, 68, 69, 70, 71, 72, 73, 74, 75, 76, 77, 78, 79, 80, 81, 82, 83, 84, 85, 86, 87, 88, 89, 90, 91, 92, 93, 94, 95, 96, 97, 98, 99, 100, 101, 102, 103, 104, 105, 106, 107, 108, 109, 110, 111, 112, 113, 114, 115, 116, 117, 118, 119, 120, 121, 122, 123, 124, 125, 126, 127, 128, 129, 130, 131, 132, 133] : List Nat), xm_cd k ∈ xm_ws := List.forall_mem_cons.mpr ⟨xm_w0, List.forall_mem_cons.mpr ⟨xm_w1, List.forall_mem_cons.mpr ⟨xm_w2, List.forall_mem_cons.mpr ⟨xm_w3, List.forall_mem_cons.mpr ⟨xm_w4, List.forall_mem_cons.mpr ⟨xm_w5, List.forall_mem_cons.mpr ⟨xm_w6, List.forall_mem_cons.mpr ⟨xm_w7, List.forall_mem_cons.mpr ⟨xm_w8, List.forall_mem_cons.mpr ⟨xm_w9, List.forall_mem_cons.mpr ⟨xm_w10, List.forall_mem_cons.mpr ⟨xm_w11, List.forall_mem_cons.mpr ⟨xm_w12, List.forall_mem_cons.mpr ⟨xm_w13, List.forall_mem_cons.mpr ⟨xm_w14, List.forall_mem_cons.mpr ⟨xm_w15, List.forall_mem_cons.mpr ⟨xm_w16, List.forall_mem_cons.mpr ⟨xm_w17, List.forall_mem_cons.mpr ⟨xm_w18, List.forall_mem_cons.mpr ⟨xm_w19, List.forall_mem_cons.mpr ⟨xm_w20, List.forall_mem_cons.mpr ⟨xm_w21, List.forall_mem_cons.mpr ⟨xm_w22, List.forall_mem_cons.mpr ⟨xm_w23, List.forall_mem_cons.mpr ⟨xm_w24, List.forall_mem_cons.mpr ⟨xm_w25, List.forall_mem_cons.mpr ⟨xm_w26, List.forall_mem_cons.mpr ⟨xm_w27, List.forall_mem_cons.mpr ⟨xm_w28, List.forall_mem_cons.mpr ⟨xm_w29, List.forall_mem_cons.mpr ⟨xm_w30, List.forall_mem_cons.mpr ⟨xm_w31, List.forall_mem_cons.mpr ⟨xm_w32, List.forall_mem_cons.mpr ⟨xm_w33, List.forall_mem_cons.mpr ⟨xm_w34, List.forall_mem_cons.mpr ⟨xm_w35, List.forall_mem_cons.mpr ⟨xm_w36, List.forall_mem_cons.mpr ⟨xm_w37, List.forall_mem_cons.mpr ⟨xm_w38, List.forall_mem_cons.mpr ⟨xm_w39, List.forall_mem_cons.mpr ⟨xm_w40, List.forall_mem_cons.mpr ⟨xm_w41, List.forall_mem_cons.mpr ⟨xm_w42, List.forall_mem_cons.mpr ⟨xm_w43, List.forall_mem_cons.mpr ⟨xm_w44, List.forall_mem_cons.mpr ⟨xm_w45, List.forall_mem_cons.mpr ⟨xm_w46, List.forall_mem_cons.mpr ⟨xm_w47, List.forall_mem_cons.mpr ⟨xm_w48, List.forall_mem_cons.mpr ⟨xm_w49, List.forall_mem_cons.mpr ⟨xm_w50, List.forall_mem_cons.mpr ⟨xm_w51, List.forall_mem_cons.mpr ⟨xm_w52, List.forall_mem_cons.mpr ⟨xm_w53, List.forall_mem_cons.mpr ⟨xm_w54, List.forall_mem_cons.mpr ⟨xm_w55, List.forall_mem_cons.mpr ⟨xm_w56, List.forall_mem_cons.mpr ⟨xm_w57, List.forall_mem_cons.mpr ⟨xm_w58, List.forall_mem_cons.mpr ⟨xm_w59, List.forall_mem_cons.mpr ⟨xm_w60, List.forall_mem_cons.mpr ⟨xm_w61, List.forall_mem_cons.mpr ⟨xm_w62, List.forall_mem_cons.mpr ⟨xm_w63, List.forall_mem_cons.mpr ⟨xm_w64, List.forall_mem_cons.mpr ⟨xm_w65, List.forall_mem_cons.mpr ⟨xm_w66, List.forall_mem_cons.mpr ⟨xm_w67, List.forall_mem_cons.mpr ⟨xm_w68, List.forall_mem_cons.mpr ⟨xm_w69, List.forall_mem_cons.mpr ⟨xm_w70, List.forall_mem_cons.mpr ⟨xm_w71, List.forall_mem_cons.mpr ⟨xm_w72, List.forall_mem_cons.mpr ⟨xm_w73, List.forall_mem_cons.mpr ⟨xm_w74, List.forall_mem_cons.mpr ⟨xm_w75, List.forall_mem_cons.mpr ⟨xm_w76, List.forall_mem_cons.mpr ⟨xm_w77, List.forall_mem_cons.mpr ⟨xm_w78, List.forall_mem_cons.mpr ⟨xm_w79, List.forall_mem_cons.mpr ⟨xm_w80, List.forall_mem_cons.mpr ⟨xm_w81, List.forall_mem_cons.mpr ⟨xm_w82, List.forall_mem_cons.mpr ⟨xm_w83, List.forall_mem_cons.mpr ⟨xm_w84, List.forall_mem_cons.mpr ⟨xm_w85, List.forall_mem_cons.mpr ⟨xm_w86, List.forall_mem_cons.mpr ⟨xm_w87, List.forall_mem_cons.mpr ⟨xm_w88, List.forall_mem_cons.mpr ⟨xm_w89, List.forall_mem_cons.mpr ⟨xm_w90, List.forall_mem_cons.mpr ⟨xm_w91, List.forall_mem_cons.mpr ⟨xm_w92, List.forall_mem_cons.mpr ⟨xm_w93, List.forall_mem_cons.mpr ⟨xm_w94, List.forall_mem_cons.mpr ⟨xm_w95, List.forall_mem_cons.mpr ⟨xm_w96, List.forall_mem_cons.mpr ⟨xm_w97, List.forall_mem_cons.mpr ⟨xm_w98, List.forall_mem_cons.mpr ⟨xm_w99, List.forall_mem_cons.mpr ⟨xm_w100, List.forall_mem_cons.mpr ⟨xm_w101, List.forall_mem_cons.mpr ⟨xm_w102, List.forall_mem_cons.mpr ⟨xm_w103, List.forall_mem_cons.mpr ⟨xm_w104, List.forall_mem_cons.mpr ⟨xm_w105, List.forall_mem_cons.mpr ⟨xm_w106, List.forall_mem_cons.mpr ⟨xm_w107, List.forall_mem_cons.mpr ⟨xm_w108, List.forall_mem_cons.mpr ⟨xm_w109, List.forall_mem_cons.mpr ⟨xm_w110, List.forall_mem_cons.mpr ⟨xm_w111, List.forall_mem_cons.mpr ⟨xm_w112, List.forall_mem_cons.mpr ⟨xm_w113, List.forall_mem_cons.mpr ⟨xm_w114, List.forall_mem_cons.mpr ⟨xm_w115, List.forall_mem_cons.mpr ⟨xm_w116, List.forall_mem_cons.mpr ⟨xm_w117, List.forall_mem_cons.mpr ⟨xm_w118, List.forall_mem_cons.mpr ⟨xm_w119, List.forall_mem_cons.mpr ⟨xm_w120, List.forall_mem_cons.mpr ⟨xm_w121, List.forall_mem_cons.mpr ⟨xm_w122, List.forall_mem_cons.mpr ⟨xm_w123, List.forall_mem_cons.mpr ⟨xm_w124, List.forall_mem_cons.mpr ⟨xm_w125, List.forall_mem_cons.mpr ⟨xm_w126, List.forall_mem_cons.mpr ⟨xm_w127, List.forall_mem_cons.mpr ⟨xm_w128, List.forall_mem_cons.mpr ⟨xm_w129, List.forall_mem_cons.mpr ⟨xm_w130, List.forall_mem_cons.mpr ⟨xm_w131, List.forall_mem_cons.mpr ⟨xm_w132, List.forall_mem_cons.mpr ⟨xm_w133, fun _ h => absurd h List.not_mem_nil⟩⟩⟩⟩⟩⟩⟩⟩⟩⟩⟩⟩⟩⟩⟩⟩⟩⟩⟩⟩⟩⟩⟩⟩⟩⟩⟩⟩⟩⟩⟩⟩⟩⟩⟩⟩⟩⟩⟩⟩⟩⟩⟩⟩⟩⟩⟩⟩⟩⟩⟩⟩⟩⟩⟩⟩⟩⟩⟩⟩⟩⟩⟩⟩⟩⟩⟩⟩⟩⟩⟩⟩⟩⟩⟩⟩⟩⟩⟩⟩⟩⟩⟩⟩⟩⟩⟩⟩⟩⟩⟩⟩⟩⟩⟩⟩⟩⟩⟩⟩⟩⟩⟩⟩⟩⟩⟩⟩⟩⟩⟩⟩⟩⟩⟩⟩⟩⟩⟩⟩⟩⟩⟩⟩⟩⟩⟩⟩⟩⟩⟩⟩⟩⟩
theorem xm_wrng : List.range 134 = [0, 1, 2, 3, 4, 5, 6, 7, 8, 9, 10, 11, 12, 13, 14, 15, 16, 17, 18, 19, 20, 21, 22, 23, 24, 25, 26, 27, 28, 29, 30, 31, 32, 33, 34, 35, 36, 37, 38, 39, 40, 41, 42, 43, 44, 45, 46, 47, 48, 49, 50, 51, 52, 53, 54, 55, 56, 57, 58, 59, 60, 61, 62, 63, 64, 65, 66, 67, 68, 69, 70, 71, 72, 73, 74, 75, 76, 77, 78, 79, 80, 81, 82, 83, 84, 85, 86, 87, 88, 89, 90, 91, 92, 93, 94, 95, 96, 97, 98, 99, 100, 101, 102, 103, 104, 105, 106, 107, 108, 109, 110, 111, 112, 113, 114, 115, 116, 117, 118, 119, 120, 121, 122, 123, 124, 125, 126, 127, 128, 129, 130, 131, 132, 133] := by decide +kernel
theorem xm_t_wk {k : Nat} (h : k < 134) : ∀ w ∈ xm_wk k, w ∈ xm_ws := by
  intro w hw
  rcases List.mem_cons.mp hw with rfl | hw
  · exact xm_wall k (by rw [← xm_wrng]; exact List.mem_range.mpr h)
  · exact hw
theorem xm_gi {t : List Cond} (h : ∀ w ∈ t, w ∈ xm_ws) : GoodIn xm_ws t := fun w hw => ⟨h w hw, good_of_word (xm_ws_good w (h w hw))⟩
theorem xm_mh_in {k z : Nat} (h : xm_mh k z = true) : ((xm_y k).cls ≠ "java/lang/invoke/MethodHandle" ∧ (xm_y k).cls ≠ "java/lang/invoke/VarHandle" ∧ (parseMethodDescriptor (xm_y k).desc).map (fun d => d.parameters.length) = some z) ∧ xm_n k ≤ 41 := by
  unfold xm_mh at h
  rw [Bool.and_eq_true] at h
  exact ⟨of_decide_eq_true h.1, of_decide_eq_true h.2⟩
theorem xm_t_v {k a k2 z : Nat} (h : xm_cp k a = some (1, k2, z)) : GoodIn xm_ws (wsV (xm_own k) a (xm_own k2) (xm_y k2) (xm_wk k2)) ∧ ((xm_y k2).cls ≠ "java/lang/invoke/MethodHandle" ∧ (xm_y k2).cls ≠ "java/lang/invoke/VarHandle" ∧ (parseMethodDescriptor (xm_y k2).desc).map (fun d => d.parameters.length) = some z) ∧ (∃ r : vw_C, xm_cls[xm_rc k2]? = some r ∧ r.1 = xm_own k2) ∧ xm_hh k2 = [] ∧ xm_n k2 ≤ 41 := by
  obtain ⟨⟨ps, h1⟩, h2⟩ := xm_cp_in h
  have h3 : xm_ck1 ps (xm_kc k) a k2 z = true := h1
  unfold xm_ck1 at h3
  simp only [Bool.and_eq_true] at h3
  obtain ⟨⟨b1, b2, b3, b4⟩, b5, b6, b7, b8⟩ := h3
  have b6 := of_decide_eq_true b6
  refine ⟨xm_gi (fun w hw => ?_), (xm_mh_in b5).1, ?_, of_decide_eq_true b7, (xm_mh_in b5).2⟩
  · unfold wsV at hw
    rcases List.mem_append.mp hw with hw | hw
    · simp only [List.mem_cons, List.not_mem_nil, or_false] at hw
      rcases hw with rfl | rfl | rfl | rfl
      · rw [h2]; exact xm_inw_in b1
      · exact xm_inw_in b2
      · exact xm_inw_in b3
      · exact xm_inw_in b4
    · exact xm_t_wk (of_decide_eq_true b8) w hw
  · cases hr : xm_cls[xm_rc k2]? with
    | none => rw [hr] at b6; cases b6
    | some r => rw [hr] at b6; exact ⟨r, rfl, Option.some.inj b6⟩
theorem xm_t_s {k a k2 z : Nat} (h : xm_cp k a = some (2, k2, z)) : GoodIn xm_ws (va_wsS (xm_own k) a (xm_y k2) (xm_wk k2)) ∧ ((xm_y k2).cls ≠ "java/lang/invoke/MethodHandle" ∧ (xm_y k2).cls ≠ "java/lang/invoke/VarHandle" ∧ (parseMethodDescriptor (xm_y k2).desc).map (fun d => d.parameters.length) = some z) ∧ xm_hh k2 = [] ∧ xm_n k2 ≤ 41 := by
  obtain ⟨⟨ps, h1⟩, h2⟩ := xm_cp_in h
  have h3 : xm_ck2 ps (xm_kc k) a k2 z = true := h1
  unfold xm_ck2 at h3
  simp only [Bool.and_eq_true] at h3
  obtain ⟨⟨b1, b2, b3⟩, b5, b7, b8⟩ := h3
  refine ⟨xm_gi (fun w hw => ?_), (xm_mh_in b5).1, of_decide_eq_true b7, (xm_mh_in b5).2⟩
  unfold va_wsS at hw
  rcases List.mem_append.mp hw with hw | hw
  · simp only [List.mem_cons, List.not_mem_nil, or_false] at hw
    rcases hw with rfl | rfl | rfl
    · rw [h2]; exact xm_inw_in b1
    · exact xm_inw_in b2
    · exact xm_inw_in b3
  · exact xm_t_wk (of_decide_eq_true b8) w hw
theorem xm_t_i {k a k2 z : Nat} (h : xm_cp k a = some (3, k2, z)) : GoodIn xm_ws (xm_wk k2) ∧ Cond.initialized (xm_y k2).cls ∈ xm_ws ∧ Cond.methodLink (xm_own k) a (xm_y k2) ∈ xm_ws ∧ Cond.instanceMethod (xm_y k2) ∈ xm_ws ∧ (xm_y k2).name = "<init>" ∧ ((xm_y k2).cls ≠ "java/lang/invoke/MethodHandle" ∧ (xm_y k2).cls ≠ "java/lang/invoke/VarHandle" ∧ (parseMethodDescriptor (xm_y k2).desc).map (fun d => d.parameters.length) = some z) ∧ xm_r k2 = none ∧ xm_hh k2 = [] ∧ xm_n k2 ≤ 41 := by
  obtain ⟨⟨ps, h1⟩, h2⟩ := xm_cp_in h
  have h3 : xm_ck3 ps (xm_kc k) a k2 z = true := h1
  unfold xm_ck3 at h3
  simp only [Bool.and_eq_true] at h3
  obtain ⟨⟨b1, b2, b3⟩, b5, b7, b8, b9, b10⟩ := h3
  exact ⟨xm_gi (xm_t_wk (of_decide_eq_true b8)), xm_inw_in b3, by rw [h2]; exact xm_inw_in b1, xm_inw_in b2, of_decide_eq_true b9, (xm_mh_in b5).1, of_decide_eq_true b10, of_decide_eq_true b7, (xm_mh_in b5).2⟩
theorem xm_t_in {k a k2 z : Nat} (h : xm_cp k a = some (13, k2, z)) : GoodIn xm_ws (xm_wk k2) ∧ Cond.initialized (xm_y k2).cls ∈ xm_ws ∧ Cond.methodLinkNest (xm_own k) a (xm_y k2) "TagCoder" ∈ xm_xw ∧ Cond.instanceMethod (xm_y k2) ∈ xm_ws ∧ (xm_y k2).name = "<init>" ∧ ((xm_y k2).cls ≠ "java/lang/invoke/MethodHandle" ∧ (xm_y k2).cls ≠ "java/lang/invoke/VarHandle" ∧ (parseMethodDescriptor (xm_y k2).desc).map (fun d => d.parameters.length) = some z) ∧ xm_r k2 = none ∧ xm_hh k2 = [] ∧ xm_n k2 ≤ 41 := by
  obtain ⟨⟨ps, h1⟩, h2⟩ := xm_cp_in h
  have h3 : xm_ck13 ps (xm_kc k) a k2 z = true := h1
  unfold xm_ck13 at h3
  simp only [Bool.and_eq_true] at h3
  obtain ⟨⟨b1, b2, b3⟩, b5, b7, b8, b9, b10⟩ := h3
  exact ⟨xm_gi (xm_t_wk (of_decide_eq_true b8)), xm_inw_in b3, by rw [h2]; exact of_decide_eq_true b1, xm_inw_in b2, of_decide_eq_true b9, (xm_mh_in b5).1, of_decide_eq_true b10, of_decide_eq_true b7, (xm_mh_in b5).2⟩
