/-! what the statement gives of the strings -/
def sTm (i : Nat) : Term := Term.string "DusterRounds$Tape" (zz_pool.getD i 0)
set_option maxRecDepth 1000000 in
set_option maxHeartbeats 4000000 in
theorem st_ex : ∀ i : Nat, i < 14 → Cond.exactly (sTm i) "java/lang/String" ∈ flatC (Jvm.Cond.and given_1 narrow_1) := by decide +kernel
set_option maxRecDepth 1000000 in
set_option maxHeartbeats 4000000 in
theorem st_co : ∀ i : Nat, i < 14 → Cond.eq (.field (sTm i) "java/lang/String" "coder" "B") (.int 0) ∈ flatC (Jvm.Cond.and given_1 narrow_1) := by decide +kernel
set_option maxRecDepth 1000000 in
set_option maxHeartbeats 4000000 in
theorem st_ar : ∀ i : Nat, i < 14 → Cond.arrayOf (.field (sTm i) "java/lang/String" "value" "[B") .byte ∈ flatC (Jvm.Cond.and given_1 narrow_1) := by decide +kernel
set_option maxRecDepth 1000000 in
set_option maxHeartbeats 4000000 in
theorem st_le : ∀ i : Nat, i < 14 → Cond.eq (.length (.field (sTm i) "java/lang/String" "value" "[B")) (.int (Int32.ofNat (zz_len.getD i 0))) ∈ flatC (Jvm.Cond.and given_1 narrow_1) := by decide +kernel
set_option maxRecDepth 1000000 in
set_option maxHeartbeats 4000000 in
theorem st_el : ∀ i : Nat, i < 14 → ∀ j : Nat, j < zz_len.getD i 0 → Cond.eq (.elem (.field (sTm i) "java/lang/String" "value" "[B") (.int (Int32.ofNat j))) (.int ((zz_byt.getD i []).getD j 0)) ∈ flatC (Jvm.Cond.and given_1 narrow_1) := by decide +kernel
theorem sn_0_1 : Cond.not (Cond.eq (sTm 0) (sTm 1)) ∈ flatC (Jvm.Cond.and given_1 narrow_1) := List.mem_of_getElem? (i := 29) (by decide +kernel)
theorem sn_0_2 : Cond.not (Cond.eq (sTm 0) (sTm 2)) ∈ flatC (Jvm.Cond.and given_1 narrow_1) := List.mem_of_getElem? (i := 39) (by decide +kernel)
theorem sn_1_2 : Cond.not (Cond.eq (sTm 1) (sTm 2)) ∈ flatC (Jvm.Cond.and given_1 narrow_1) := List.mem_of_getElem? (i := 40) (by decide +kernel)
theorem sn_0_3 : Cond.not (Cond.eq (sTm 0) (sTm 3)) ∈ flatC (Jvm.Cond.and given_1 narrow_1) := List.mem_of_getElem? (i := 49) (by decide +kernel)
theorem sn_1_3 : Cond.not (Cond.eq (sTm 1) (sTm 3)) ∈ flatC (Jvm.Cond.and given_1 narrow_1) := List.mem_of_getElem? (i := 50) (by decide +kernel)
theorem sn_2_3 : Cond.not (Cond.eq (sTm 2) (sTm 3)) ∈ flatC (Jvm.Cond.and given_1 narrow_1) := List.mem_of_getElem? (i := 51) (by decide +kernel)
theorem sn_0_4 : Cond.not (Cond.eq (sTm 0) (sTm 4)) ∈ flatC (Jvm.Cond.and given_1 narrow_1) := List.mem_of_getElem? (i := 63) (by decide +kernel)
theorem sn_1_4 : Cond.not (Cond.eq (sTm 1) (sTm 4)) ∈ flatC (Jvm.Cond.and given_1 narrow_1) := List.mem_of_getElem? (i := 64) (by decide +kernel)
theorem sn_2_4 : Cond.not (Cond.eq (sTm 2) (sTm 4)) ∈ flatC (Jvm.Cond.and given_1 narrow_1) := List.mem_of_getElem? (i := 65) (by decide +kernel)
theorem sn_3_4 : Cond.not (Cond.eq (sTm 3) (sTm 4)) ∈ flatC (Jvm.Cond.and given_1 narrow_1) := List.mem_of_getElem? (i := 66) (by decide +kernel)
theorem sn_0_5 : Cond.not (Cond.eq (sTm 0) (sTm 5)) ∈ flatC (Jvm.Cond.and given_1 narrow_1) := List.mem_of_getElem? (i := 75) (by decide +kernel)
theorem sn_1_5 : Cond.not (Cond.eq (sTm 1) (sTm 5)) ∈ flatC (Jvm.Cond.and given_1 narrow_1) := List.mem_of_getElem? (i := 76) (by decide +kernel)
theorem sn_2_5 : Cond.not (Cond.eq (sTm 2) (sTm 5)) ∈ flatC (Jvm.Cond.and given_1 narrow_1) := List.mem_of_getElem? (i := 77) (by decide +kernel)
theorem sn_3_5 : Cond.not (Cond.eq (sTm 3) (sTm 5)) ∈ flatC (Jvm.Cond.and given_1 narrow_1) := List.mem_of_getElem? (i := 78) (by decide +kernel)
theorem sn_4_5 : Cond.not (Cond.eq (sTm 4) (sTm 5)) ∈ flatC (Jvm.Cond.and given_1 narrow_1) := List.mem_of_getElem? (i := 79) (by decide +kernel)
theorem sn_0_6 : Cond.not (Cond.eq (sTm 0) (sTm 6)) ∈ flatC (Jvm.Cond.and given_1 narrow_1) := List.mem_of_getElem? (i := 89) (by decide +kernel)
theorem sn_1_6 : Cond.not (Cond.eq (sTm 1) (sTm 6)) ∈ flatC (Jvm.Cond.and given_1 narrow_1) := List.mem_of_getElem? (i := 90) (by decide +kernel)
theorem sn_2_6 : Cond.not (Cond.eq (sTm 2) (sTm 6)) ∈ flatC (Jvm.Cond.and given_1 narrow_1) := List.mem_of_getElem? (i := 91) (by decide +kernel)
theorem sn_3_6 : Cond.not (Cond.eq (sTm 3) (sTm 6)) ∈ flatC (Jvm.Cond.and given_1 narrow_1) := List.mem_of_getElem? (i := 92) (by decide +kernel)
theorem sn_4_6 : Cond.not (Cond.eq (sTm 4) (sTm 6)) ∈ flatC (Jvm.Cond.and given_1 narrow_1) := List.mem_of_getElem? (i := 93) (by decide +kernel)
theorem sn_5_6 : Cond.not (Cond.eq (sTm 5) (sTm 6)) ∈ flatC (Jvm.Cond.and given_1 narrow_1) := List.mem_of_getElem? (i := 94) (by decide +kernel)
theorem sn_0_7 : Cond.not (Cond.eq (sTm 0) (sTm 7)) ∈ flatC (Jvm.Cond.and given_1 narrow_1) := List.mem_of_getElem? (i := 104) (by decide +kernel)
theorem sn_1_7 : Cond.not (Cond.eq (sTm 1) (sTm 7)) ∈ flatC (Jvm.Cond.and given_1 narrow_1) := List.mem_of_getElem? (i := 105) (by decide +kernel)
theorem sn_2_7 : Cond.not (Cond.eq (sTm 2) (sTm 7)) ∈ flatC (Jvm.Cond.and given_1 narrow_1) := List.mem_of_getElem? (i := 106) (by decide +kernel)
theorem sn_3_7 : Cond.not (Cond.eq (sTm 3) (sTm 7)) ∈ flatC (Jvm.Cond.and given_1 narrow_1) := List.mem_of_getElem? (i := 107) (by decide +kernel)
theorem sn_4_7 : Cond.not (Cond.eq (sTm 4) (sTm 7)) ∈ flatC (Jvm.Cond.and given_1 narrow_1) := List.mem_of_getElem? (i := 108) (by decide +kernel)
theorem sn_5_7 : Cond.not (Cond.eq (sTm 5) (sTm 7)) ∈ flatC (Jvm.Cond.and given_1 narrow_1) := List.mem_of_getElem? (i := 109) (by decide +kernel)
theorem sn_6_7 : Cond.not (Cond.eq (sTm 6) (sTm 7)) ∈ flatC (Jvm.Cond.and given_1 narrow_1) := List.mem_of_getElem? (i := 110) (by decide +kernel)
theorem sn_0_8 : Cond.not (Cond.eq (sTm 0) (sTm 8)) ∈ flatC (Jvm.Cond.and given_1 narrow_1) := List.mem_of_getElem? (i := 119) (by decide +kernel)
theorem sn_1_8 : Cond.not (Cond.eq (sTm 1) (sTm 8)) ∈ flatC (Jvm.Cond.and given_1 narrow_1) := List.mem_of_getElem? (i := 120) (by decide +kernel)
theorem sn_2_8 : Cond.not (Cond.eq (sTm 2) (sTm 8)) ∈ flatC (Jvm.Cond.and given_1 narrow_1) := List.mem_of_getElem? (i := 121) (by decide +kernel)
theorem sn_3_8 : Cond.not (Cond.eq (sTm 3) (sTm 8)) ∈ flatC (Jvm.Cond.and given_1 narrow_1) := List.mem_of_getElem? (i := 122) (by decide +kernel)
theorem sn_4_8 : Cond.not (Cond.eq (sTm 4) (sTm 8)) ∈ flatC (Jvm.Cond.and given_1 narrow_1) := List.mem_of_getElem? (i := 123) (by decide +kernel)
theorem sn_5_8 : Cond.not (Cond.eq (sTm 5) (sTm 8)) ∈ flatC (Jvm.Cond.and given_1 narrow_1) := List.mem_of_getElem? (i := 124) (by decide +kernel)
theorem sn_6_8 : Cond.not (Cond.eq (sTm 6) (sTm 8)) ∈ flatC (Jvm.Cond.and given_1 narrow_1) := List.mem_of_getElem? (i := 125) (by decide +kernel)
theorem sn_7_8 : Cond.not (Cond.eq (sTm 7) (sTm 8)) ∈ flatC (Jvm.Cond.and given_1 narrow_1) := List.mem_of_getElem? (i := 126) (by decide +kernel)
theorem sn_0_9 : Cond.not (Cond.eq (sTm 0) (sTm 9)) ∈ flatC (Jvm.Cond.and given_1 narrow_1) := List.mem_of_getElem? (i := 135) (by decide +kernel)
theorem sn_1_9 : Cond.not (Cond.eq (sTm 1) (sTm 9)) ∈ flatC (Jvm.Cond.and given_1 narrow_1) := List.mem_of_getElem? (i := 136) (by decide +kernel)
theorem sn_2_9 : Cond.not (Cond.eq (sTm 2) (sTm 9)) ∈ flatC (Jvm.Cond.and given_1 narrow_1) := List.mem_of_getElem? (i := 137) (by decide +kernel)
theorem sn_3_9 : Cond.not (Cond.eq (sTm 3) (sTm 9)) ∈ flatC (Jvm.Cond.and given_1 narrow_1) := List.mem_of_getElem? (i := 138) (by decide +kernel)
theorem sn_4_9 : Cond.not (Cond.eq (sTm 4) (sTm 9)) ∈ flatC (Jvm.Cond.and given_1 narrow_1) := List.mem_of_getElem? (i := 139) (by decide +kernel)
theorem sn_5_9 : Cond.not (Cond.eq (sTm 5) (sTm 9)) ∈ flatC (Jvm.Cond.and given_1 narrow_1) := List.mem_of_getElem? (i := 140) (by decide +kernel)
theorem sn_6_9 : Cond.not (Cond.eq (sTm 6) (sTm 9)) ∈ flatC (Jvm.Cond.and given_1 narrow_1) := List.mem_of_getElem? (i := 141) (by decide +kernel)
theorem sn_7_9 : Cond.not (Cond.eq (sTm 7) (sTm 9)) ∈ flatC (Jvm.Cond.and given_1 narrow_1) := List.mem_of_getElem? (i := 142) (by decide +kernel)
theorem sn_8_9 : Cond.not (Cond.eq (sTm 8) (sTm 9)) ∈ flatC (Jvm.Cond.and given_1 narrow_1) := List.mem_of_getElem? (i := 143) (by decide +kernel)
theorem sn_0_10 : Cond.not (Cond.eq (sTm 0) (sTm 10)) ∈ flatC (Jvm.Cond.and given_1 narrow_1) := List.mem_of_getElem? (i := 151) (by decide +kernel)
theorem sn_1_10 : Cond.not (Cond.eq (sTm 1) (sTm 10)) ∈ flatC (Jvm.Cond.and given_1 narrow_1) := List.mem_of_getElem? (i := 152) (by decide +kernel)
theorem sn_2_10 : Cond.not (Cond.eq (sTm 2) (sTm 10)) ∈ flatC (Jvm.Cond.and given_1 narrow_1) := List.mem_of_getElem? (i := 153) (by decide +kernel)
theorem sn_3_10 : Cond.not (Cond.eq (sTm 3) (sTm 10)) ∈ flatC (Jvm.Cond.and given_1 narrow_1) := List.mem_of_getElem? (i := 154) (by decide +kernel)
theorem sn_4_10 : Cond.not (Cond.eq (sTm 4) (sTm 10)) ∈ flatC (Jvm.Cond.and given_1 narrow_1) := List.mem_of_getElem? (i := 155) (by decide +kernel)
theorem sn_5_10 : Cond.not (Cond.eq (sTm 5) (sTm 10)) ∈ flatC (Jvm.Cond.and given_1 narrow_1) := List.mem_of_getElem? (i := 156) (by decide +kernel)
theorem sn_6_10 : Cond.not (Cond.eq (sTm 6) (sTm 10)) ∈ flatC (Jvm.Cond.and given_1 narrow_1) := List.mem_of_getElem? (i := 157) (by decide +kernel)
theorem sn_7_10 : Cond.not (Cond.eq (sTm 7) (sTm 10)) ∈ flatC (Jvm.Cond.and given_1 narrow_1) := List.mem_of_getElem? (i := 158) (by decide +kernel)
theorem sn_8_10 : Cond.not (Cond.eq (sTm 8) (sTm 10)) ∈ flatC (Jvm.Cond.and given_1 narrow_1) := List.mem_of_getElem? (i := 159) (by decide +kernel)
theorem sn_9_10 : Cond.not (Cond.eq (sTm 9) (sTm 10)) ∈ flatC (Jvm.Cond.and given_1 narrow_1) := List.mem_of_getElem? (i := 160) (by decide +kernel)
theorem sn_0_11 : Cond.not (Cond.eq (sTm 0) (sTm 11)) ∈ flatC (Jvm.Cond.and given_1 narrow_1) := List.mem_of_getElem? (i := 170) (by decide +kernel)
theorem sn_1_11 : Cond.not (Cond.eq (sTm 1) (sTm 11)) ∈ flatC (Jvm.Cond.and given_1 narrow_1) := List.mem_of_getElem? (i := 171) (by decide +kernel)
theorem sn_2_11 : Cond.not (Cond.eq (sTm 2) (sTm 11)) ∈ flatC (Jvm.Cond.and given_1 narrow_1) := List.mem_of_getElem? (i := 172) (by decide +kernel)
theorem sn_3_11 : Cond.not (Cond.eq (sTm 3) (sTm 11)) ∈ flatC (Jvm.Cond.and given_1 narrow_1) := List.mem_of_getElem? (i := 173) (by decide +kernel)
theorem sn_4_11 : Cond.not (Cond.eq (sTm 4) (sTm 11)) ∈ flatC (Jvm.Cond.and given_1 narrow_1) := List.mem_of_getElem? (i := 174) (by decide +kernel)
theorem sn_5_11 : Cond.not (Cond.eq (sTm 5) (sTm 11)) ∈ flatC (Jvm.Cond.and given_1 narrow_1) := List.mem_of_getElem? (i := 175) (by decide +kernel)
theorem sn_6_11 : Cond.not (Cond.eq (sTm 6) (sTm 11)) ∈ flatC (Jvm.Cond.and given_1 narrow_1) := List.mem_of_getElem? (i := 176) (by decide +kernel)
theorem sn_7_11 : Cond.not (Cond.eq (sTm 7) (sTm 11)) ∈ flatC (Jvm.Cond.and given_1 narrow_1) := List.mem_of_getElem? (i := 177) (by decide +kernel)
theorem sn_8_11 : Cond.not (Cond.eq (sTm 8) (sTm 11)) ∈ flatC (Jvm.Cond.and given_1 narrow_1) := List.mem_of_getElem? (i := 178) (by decide +kernel)
theorem sn_9_11 : Cond.not (Cond.eq (sTm 9) (sTm 11)) ∈ flatC (Jvm.Cond.and given_1 narrow_1) := List.mem_of_getElem? (i := 179) (by decide +kernel)
theorem sn_10_11 : Cond.not (Cond.eq (sTm 10) (sTm 11)) ∈ flatC (Jvm.Cond.and given_1 narrow_1) := List.mem_of_getElem? (i := 180) (by decide +kernel)
theorem sn_0_12 : Cond.not (Cond.eq (sTm 0) (sTm 12)) ∈ flatC (Jvm.Cond.and given_1 narrow_1) := List.mem_of_getElem? (i := 189) (by decide +kernel)
theorem sn_1_12 : Cond.not (Cond.eq (sTm 1) (sTm 12)) ∈ flatC (Jvm.Cond.and given_1 narrow_1) := List.mem_of_getElem? (i := 190) (by decide +kernel)
theorem sn_2_12 : Cond.not (Cond.eq (sTm 2) (sTm 12)) ∈ flatC (Jvm.Cond.and given_1 narrow_1) := List.mem_of_getElem? (i := 191) (by decide +kernel)
theorem sn_3_12 : Cond.not (Cond.eq (sTm 3) (sTm 12)) ∈ flatC (Jvm.Cond.and given_1 narrow_1) := List.mem_of_getElem? (i := 192) (by decide +kernel)
theorem sn_4_12 : Cond.not (Cond.eq (sTm 4) (sTm 12)) ∈ flatC (Jvm.Cond.and given_1 narrow_1) := List.mem_of_getElem? (i := 193) (by decide +kernel)
theorem sn_5_12 : Cond.not (Cond.eq (sTm 5) (sTm 12)) ∈ flatC (Jvm.Cond.and given_1 narrow_1) := List.mem_of_getElem? (i := 194) (by decide +kernel)
theorem sn_6_12 : Cond.not (Cond.eq (sTm 6) (sTm 12)) ∈ flatC (Jvm.Cond.and given_1 narrow_1) := List.mem_of_getElem? (i := 195) (by decide +kernel)
theorem sn_7_12 : Cond.not (Cond.eq (sTm 7) (sTm 12)) ∈ flatC (Jvm.Cond.and given_1 narrow_1) := List.mem_of_getElem? (i := 196) (by decide +kernel)
theorem sn_8_12 : Cond.not (Cond.eq (sTm 8) (sTm 12)) ∈ flatC (Jvm.Cond.and given_1 narrow_1) := List.mem_of_getElem? (i := 197) (by decide +kernel)
theorem sn_9_12 : Cond.not (Cond.eq (sTm 9) (sTm 12)) ∈ flatC (Jvm.Cond.and given_1 narrow_1) := List.mem_of_getElem? (i := 198) (by decide +kernel)
theorem sn_10_12 : Cond.not (Cond.eq (sTm 10) (sTm 12)) ∈ flatC (Jvm.Cond.and given_1 narrow_1) := List.mem_of_getElem? (i := 199) (by decide +kernel)
theorem sn_11_12 : Cond.not (Cond.eq (sTm 11) (sTm 12)) ∈ flatC (Jvm.Cond.and given_1 narrow_1) := List.mem_of_getElem? (i := 200) (by decide +kernel)
theorem sn_0_13 : Cond.not (Cond.eq (sTm 0) (sTm 13)) ∈ flatC (Jvm.Cond.and given_1 narrow_1) := List.mem_of_getElem? (i := 205) (by decide +kernel)
theorem sn_1_13 : Cond.not (Cond.eq (sTm 1) (sTm 13)) ∈ flatC (Jvm.Cond.and given_1 narrow_1) := List.mem_of_getElem? (i := 206) (by decide +kernel)
theorem sn_2_13 : Cond.not (Cond.eq (sTm 2) (sTm 13)) ∈ flatC (Jvm.Cond.and given_1 narrow_1) := List.mem_of_getElem? (i := 207) (by decide +kernel)
theorem sn_3_13 : Cond.not (Cond.eq (sTm 3) (sTm 13)) ∈ flatC (Jvm.Cond.and given_1 narrow_1) := List.mem_of_getElem? (i := 208) (by decide +kernel)
theorem sn_4_13 : Cond.not (Cond.eq (sTm 4) (sTm 13)) ∈ flatC (Jvm.Cond.and given_1 narrow_1) := List.mem_of_getElem? (i := 209) (by decide +kernel)
theorem sn_5_13 : Cond.not (Cond.eq (sTm 5) (sTm 13)) ∈ flatC (Jvm.Cond.and given_1 narrow_1) := List.mem_of_getElem? (i := 210) (by decide +kernel)
theorem sn_6_13 : Cond.not (Cond.eq (sTm 6) (sTm 13)) ∈ flatC (Jvm.Cond.and given_1 narrow_1) := List.mem_of_getElem? (i := 211) (by decide +kernel)
theorem sn_7_13 : Cond.not (Cond.eq (sTm 7) (sTm 13)) ∈ flatC (Jvm.Cond.and given_1 narrow_1) := List.mem_of_getElem? (i := 212) (by decide +kernel)
theorem sn_8_13 : Cond.not (Cond.eq (sTm 8) (sTm 13)) ∈ flatC (Jvm.Cond.and given_1 narrow_1) := List.mem_of_getElem? (i := 213) (by decide +kernel)
theorem sn_9_13 : Cond.not (Cond.eq (sTm 9) (sTm 13)) ∈ flatC (Jvm.Cond.and given_1 narrow_1) := List.mem_of_getElem? (i := 214) (by decide +kernel)
theorem sn_10_13 : Cond.not (Cond.eq (sTm 10) (sTm 13)) ∈ flatC (Jvm.Cond.and given_1 narrow_1) := List.mem_of_getElem? (i := 215) (by decide +kernel)
theorem sn_11_13 : Cond.not (Cond.eq (sTm 11) (sTm 13)) ∈ flatC (Jvm.Cond.and given_1 narrow_1) := List.mem_of_getElem? (i := 216) (by decide +kernel)
theorem sn_12_13 : Cond.not (Cond.eq (sTm 12) (sTm 13)) ∈ flatC (Jvm.Cond.and given_1 narrow_1) := List.mem_of_getElem? (i := 217) (by decide +kernel)
theorem st_lt : ∀ i : Nat, i < 14 → ∀ j : Nat, j < i → Cond.not (Cond.eq (sTm j) (sTm i)) ∈ flatC (Jvm.Cond.and given_1 narrow_1) := by
  intro i hi j hj
  match i, j, hi, hj with
  | 0, k + 0, _, hk => exact absurd hk (by omega)
  | 1, 0, _, _ => exact sn_0_1
  | 1, k + 1, _, hk => exact absurd hk (by omega)
  | 2, 0, _, _ => exact sn_0_2
  | 2, 1, _, _ => exact sn_1_2
  | 2, k + 2, _, hk => exact absurd hk (by omega)
  | 3, 0, _, _ => exact sn_0_3
  | 3, 1, _, _ => exact sn_1_3
  | 3, 2, _, _ => exact sn_2_3
  | 3, k + 3, _, hk => exact absurd hk (by omega)
  | 4, 0, _, _ => exact sn_0_4
  | 4, 1, _, _ => exact sn_1_4
  | 4, 2, _, _ => exact sn_2_4
  | 4, 3, _, _ => exact sn_3_4
  | 4, k + 4, _, hk => exact absurd hk (by omega)
  | 5, 0, _, _ => exact sn_0_5
  | 5, 1, _, _ => exact sn_1_5
  | 5, 2, _, _ => exact sn_2_5
  | 5, 3, _, _ => exact sn_3_5
  | 5, 4, _, _ => exact sn_4_5
  | 5, k + 5, _, hk => exact absurd hk (by omega)
  | 6, 0, _, _ => exact sn_0_6
  | 6, 1, _, _ => exact sn_1_6
  | 6, 2, _, _ => exact sn_2_6
  | 6, 3, _, _ => exact sn_3_6
  | 6, 4, _, _ => exact sn_4_6
  | 6, 5, _, _ => exact sn_5_6
  | 6, k + 6, _, hk => exact absurd hk (by omega)
  | 7, 0, _, _ => exact sn_0_7
  | 7, 1, _, _ => exact sn_1_7
  | 7, 2, _, _ => exact sn_2_7
  | 7, 3, _, _ => exact sn_3_7
  | 7, 4, _, _ => exact sn_4_7
  | 7, 5, _, _ => exact sn_5_7
  | 7, 6, _, _ => exact sn_6_7
  | 7, k + 7, _, hk => exact absurd hk (by omega)
  | 8, 0, _, _ => exact sn_0_8
  | 8, 1, _, _ => exact sn_1_8
  | 8, 2, _, _ => exact sn_2_8
  | 8, 3, _, _ => exact sn_3_8
  | 8, 4, _, _ => exact sn_4_8
  | 8, 5, _, _ => exact sn_5_8
  | 8, 6, _, _ => exact sn_6_8
  | 8, 7, _, _ => exact sn_7_8
  | 8, k + 8, _, hk => exact absurd hk (by omega)
  | 9, 0, _, _ => exact sn_0_9
  | 9, 1, _, _ => exact sn_1_9
  | 9, 2, _, _ => exact sn_2_9
  | 9, 3, _, _ => exact sn_3_9
  | 9, 4, _, _ => exact sn_4_9
  | 9, 5, _, _ => exact sn_5_9
  | 9, 6, _, _ => exact sn_6_9
  | 9, 7, _, _ => exact sn_7_9
  | 9, 8, _, _ => exact sn_8_9
  | 9, k + 9, _, hk => exact absurd hk (by omega)
  | 10, 0, _, _ => exact sn_0_10
  | 10, 1, _, _ => exact sn_1_10
  | 10, 2, _, _ => exact sn_2_10
  | 10, 3, _, _ => exact sn_3_10
  | 10, 4, _, _ => exact sn_4_10
  | 10, 5, _, _ => exact sn_5_10
  | 10, 6, _, _ => exact sn_6_10
  | 10, 7, _, _ => exact sn_7_10
  | 10, 8, _, _ => exact sn_8_10
  | 10, 9, _, _ => exact sn_9_10
  | 10, k + 10, _, hk => exact absurd hk (by omega)
  | 11, 0, _, _ => exact sn_0_11
  | 11, 1, _, _ => exact sn_1_11
  | 11, 2, _, _ => exact sn_2_11
  | 11, 3, _, _ => exact sn_3_11
  | 11, 4, _, _ => exact sn_4_11
  | 11, 5, _, _ => exact sn_5_11
  | 11, 6, _, _ => exact sn_6_11
  | 11, 7, _, _ => exact sn_7_11
  | 11, 8, _, _ => exact sn_8_11
  | 11, 9, _, _ => exact sn_9_11
  | 11, 10, _, _ => exact sn_10_11
  | 11, k + 11, _, hk => exact absurd hk (by omega)
  | 12, 0, _, _ => exact sn_0_12
  | 12, 1, _, _ => exact sn_1_12
  | 12, 2, _, _ => exact sn_2_12
  | 12, 3, _, _ => exact sn_3_12
  | 12, 4, _, _ => exact sn_4_12
  | 12, 5, _, _ => exact sn_5_12
  | 12, 6, _, _ => exact sn_6_12
  | 12, 7, _, _ => exact sn_7_12
  | 12, 8, _, _ => exact sn_8_12
  | 12, 9, _, _ => exact sn_9_12
  | 12, 10, _, _ => exact sn_10_12
  | 12, 11, _, _ => exact sn_11_12
  | 12, k + 12, _, hk => exact absurd hk (by omega)
  | 13, 0, _, _ => exact sn_0_13
  | 13, 1, _, _ => exact sn_1_13
  | 13, 2, _, _ => exact sn_2_13
  | 13, 3, _, _ => exact sn_3_13
  | 13, 4, _, _ => exact sn_4_13
  | 13, 5, _, _ => exact sn_5_13
  | 13, 6, _, _ => exact sn_6_13
  | 13, 7, _, _ => exact sn_7_13
  | 13, 8, _, _ => exact sn_8_13
  | 13, 9, _, _ => exact sn_9_13
  | 13, 10, _, _ => exact sn_10_13
  | 13, 11, _, _ => exact sn_11_13
  | 13, 12, _, _ => exact sn_12_13
  | 13, k + 13, _, hk => exact absurd hk (by omega)
  | k + 14, _, hk, _ => exact absurd hk (by omega)
theorem st_ne (i j : Nat) (hi : i < 14) (hj : j < 14) (hij : i ≠ j) : Cond.not (Cond.eq (sTm i) (sTm j)) ∈ flatC (Jvm.Cond.and given_1 narrow_1) ∨ Cond.not (Cond.eq (sTm j) (sTm i)) ∈ flatC (Jvm.Cond.and given_1 narrow_1) := by
  rcases Nat.lt_or_gt_of_ne hij with h | h
  · exact Or.inl (st_lt j hj i h)
  · exact Or.inr (st_lt i hi j h)
theorem st_cs : Cond.eq (.static "java/lang/String" "COMPACT_STRINGS" "Z") (.int 1) ∈ flatC (Jvm.Cond.and given_1 narrow_1) := by decide +kernel
theorem st_fm : Cond.isRef (.static "jdk/internal/util/Preconditions" "SIOOBE_FORMATTER" "Ljava/util/function/BiFunction;") ∈ flatC (Jvm.Cond.and given_1 narrow_1) := by decide +kernel
