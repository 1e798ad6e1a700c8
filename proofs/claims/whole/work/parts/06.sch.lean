def fdM_0 : List (Nat × Nat) := [(1, 1), (0, 0), (1, 2), (0, 0), (0, 0), (0, 0), (1, 3), (1, 4), (1, 5), (1, 6), (1, 7), (1, 8), (1, 9), (1, 10), (1, 11), (0, 0), (1, 12), (1, 13), (1, 14), (0, 0), (1, 15), (1, 16), (1, 17), (1, 18), (1, 19), (0, 0), (1, 20), (1, 21), (1, 22), (1, 23), (0, 0), (1, 24), (0, 0), (0, 0), (0, 0), (0, 0), (0, 0), (0, 0), (1, 25), (0, 0), (1, 26), (1, 27), (0, 0), (1, 28), (0, 0), (1, 29), (1, 30), (1, 31), (0, 0), (0, 0), (1, 32), (0, 0), (0, 0), (0, 0), (0, 0), (1, 33), (1, 34), (1, 35), (1, 36), (1, 37), (1, 38), (1, 39), (1, 40), (1, 41), (1, 42), (1, 43), (0, 0), (0, 0), (0, 0), (0, 0), (0, 0), (1, 44), (0, 0), (0, 0)]
def KM : List CK := [(3, 9, fdM_0), (0, 400, []), (0, 400, []), (0, 401, []), (0, 401, []), (0, 401, []), (0, 401, []), (0, 401, []), (0, 401, []), (0, 401, []), (0, 401, []), (0, 401, []), (0, 401, []), (0, 401, []), (0, 401, []), (0, 64, []), (0, 64, []), (0, 64, []), (0, 64, []), (0, 64, []), (0, 12, []), (1, 12, []), (0, 12, []), (0, 12, []), (0, 16, []), (0, 8, []), (0, 31, []), (0, 372, []), (0, 31, []), (1, 100, []), (1, 12, []), (1, 16, []), (0, 3300, []), (0, 12, []), (0, 12, []), (0, 12, []), (0, 252, []), (0, 150, []), (0, 8, []), (0, 8, []), (0, 8, []), (0, 8, []), (0, 8, []), (1, 8, []), (0, 16, [])]
theorem kM_0 : KM[0]? = some (3, 9, fdM_0) := rfl
theorem fM_0_0 : fdM_0[0]? = some (1, 1) := rfl
theorem fM_0_1 : fdM_0[1]? = some (0, 0) := rfl
theorem fM_0_2 : fdM_0[2]? = some (1, 2) := rfl
theorem fM_0_3 : fdM_0[3]? = some (0, 0) := rfl
theorem fM_0_4 : fdM_0[4]? = some (0, 0) := rfl
theorem fM_0_5 : fdM_0[5]? = some (0, 0) := rfl
theorem fM_0_6 : fdM_0[6]? = some (1, 3) := rfl
theorem fM_0_7 : fdM_0[7]? = some (1, 4) := rfl
theorem fM_0_8 : fdM_0[8]? = some (1, 5) := rfl
theorem fM_0_9 : fdM_0[9]? = some (1, 6) := rfl
theorem fM_0_10 : fdM_0[10]? = some (1, 7) := rfl
theorem fM_0_11 : fdM_0[11]? = some (1, 8) := rfl
theorem fM_0_12 : fdM_0[12]? = some (1, 9) := rfl
theorem fM_0_13 : fdM_0[13]? = some (1, 10) := rfl
theorem fM_0_14 : fdM_0[14]? = some (1, 11) := rfl
theorem fM_0_15 : fdM_0[15]? = some (0, 0) := rfl
theorem fM_0_16 : fdM_0[16]? = some (1, 12) := rfl
theorem fM_0_17 : fdM_0[17]? = some (1, 13) := rfl
theorem fM_0_18 : fdM_0[18]? = some (1, 14) := rfl
theorem fM_0_19 : fdM_0[19]? = some (0, 0) := rfl
theorem fM_0_20 : fdM_0[20]? = some (1, 15) := rfl
theorem fM_0_21 : fdM_0[21]? = some (1, 16) := rfl
theorem fM_0_22 : fdM_0[22]? = some (1, 17) := rfl
theorem fM_0_23 : fdM_0[23]? = some (1, 18) := rfl
theorem fM_0_24 : fdM_0[24]? = some (1, 19) := rfl
theorem fM_0_25 : fdM_0[25]? = some (0, 0) := rfl
theorem fM_0_26 : fdM_0[26]? = some (1, 20) := rfl
theorem fM_0_27 : fdM_0[27]? = some (1, 21) := rfl
theorem fM_0_28 : fdM_0[28]? = some (1, 22) := rfl
theorem fM_0_29 : fdM_0[29]? = some (1, 23) := rfl
theorem fM_0_30 : fdM_0[30]? = some (0, 0) := rfl
theorem fM_0_31 : fdM_0[31]? = some (1, 24) := rfl
theorem fM_0_32 : fdM_0[32]? = some (0, 0) := rfl
theorem fM_0_33 : fdM_0[33]? = some (0, 0) := rfl
theorem fM_0_34 : fdM_0[34]? = some (0, 0) := rfl
theorem fM_0_35 : fdM_0[35]? = some (0, 0) := rfl
theorem fM_0_36 : fdM_0[36]? = some (0, 0) := rfl
theorem fM_0_37 : fdM_0[37]? = some (0, 0) := rfl
theorem fM_0_38 : fdM_0[38]? = some (1, 25) := rfl
theorem fM_0_39 : fdM_0[39]? = some (0, 0) := rfl
theorem fM_0_40 : fdM_0[40]? = some (1, 26) := rfl
theorem fM_0_41 : fdM_0[41]? = some (1, 27) := rfl
theorem fM_0_42 : fdM_0[42]? = some (0, 0) := rfl
theorem fM_0_43 : fdM_0[43]? = some (1, 28) := rfl
theorem fM_0_44 : fdM_0[44]? = some (0, 0) := rfl
theorem fM_0_45 : fdM_0[45]? = some (1, 29) := rfl
theorem fM_0_46 : fdM_0[46]? = some (1, 30) := rfl
theorem fM_0_47 : fdM_0[47]? = some (1, 31) := rfl
theorem fM_0_48 : fdM_0[48]? = some (0, 0) := rfl
theorem fM_0_49 : fdM_0[49]? = some (0, 0) := rfl
theorem fM_0_50 : fdM_0[50]? = some (1, 32) := rfl
theorem fM_0_51 : fdM_0[51]? = some (0, 0) := rfl
theorem fM_0_52 : fdM_0[52]? = some (0, 0) := rfl
theorem fM_0_53 : fdM_0[53]? = some (0, 0) := rfl
theorem fM_0_54 : fdM_0[54]? = some (0, 0) := rfl
theorem fM_0_55 : fdM_0[55]? = some (1, 33) := rfl
theorem fM_0_56 : fdM_0[56]? = some (1, 34) := rfl
theorem fM_0_57 : fdM_0[57]? = some (1, 35) := rfl
theorem fM_0_58 : fdM_0[58]? = some (1, 36) := rfl
theorem fM_0_59 : fdM_0[59]? = some (1, 37) := rfl
theorem fM_0_60 : fdM_0[60]? = some (1, 38) := rfl
theorem fM_0_61 : fdM_0[61]? = some (1, 39) := rfl
theorem fM_0_62 : fdM_0[62]? = some (1, 40) := rfl
theorem fM_0_63 : fdM_0[63]? = some (1, 41) := rfl
theorem fM_0_64 : fdM_0[64]? = some (1, 42) := rfl
theorem fM_0_65 : fdM_0[65]? = some (1, 43) := rfl
theorem fM_0_66 : fdM_0[66]? = some (0, 0) := rfl
theorem fM_0_67 : fdM_0[67]? = some (0, 0) := rfl
theorem fM_0_68 : fdM_0[68]? = some (0, 0) := rfl
theorem fM_0_69 : fdM_0[69]? = some (0, 0) := rfl
theorem fM_0_70 : fdM_0[70]? = some (0, 0) := rfl
theorem fM_0_71 : fdM_0[71]? = some (1, 44) := rfl
theorem fM_0_72 : fdM_0[72]? = some (0, 0) := rfl
theorem fM_0_73 : fdM_0[73]? = some (0, 0) := rfl
theorem kM_1 : KM[1]? = some (0, 400, []) := rfl
theorem kM_2 : KM[2]? = some (0, 400, []) := rfl
theorem kM_3 : KM[3]? = some (0, 401, []) := rfl
theorem kM_4 : KM[4]? = some (0, 401, []) := rfl
theorem kM_5 : KM[5]? = some (0, 401, []) := rfl
theorem kM_6 : KM[6]? = some (0, 401, []) := rfl
theorem kM_7 : KM[7]? = some (0, 401, []) := rfl
theorem kM_8 : KM[8]? = some (0, 401, []) := rfl
theorem kM_9 : KM[9]? = some (0, 401, []) := rfl
theorem kM_10 : KM[10]? = some (0, 401, []) := rfl
theorem kM_11 : KM[11]? = some (0, 401, []) := rfl
theorem kM_12 : KM[12]? = some (0, 401, []) := rfl
theorem kM_13 : KM[13]? = some (0, 401, []) := rfl
theorem kM_14 : KM[14]? = some (0, 401, []) := rfl
theorem kM_15 : KM[15]? = some (0, 64, []) := rfl
theorem kM_16 : KM[16]? = some (0, 64, []) := rfl
theorem kM_17 : KM[17]? = some (0, 64, []) := rfl
theorem kM_18 : KM[18]? = some (0, 64, []) := rfl
theorem kM_19 : KM[19]? = some (0, 64, []) := rfl
theorem kM_20 : KM[20]? = some (0, 12, []) := rfl
theorem kM_21 : KM[21]? = some (1, 12, []) := rfl
theorem kM_22 : KM[22]? = some (0, 12, []) := rfl
theorem kM_23 : KM[23]? = some (0, 12, []) := rfl
theorem kM_24 : KM[24]? = some (0, 16, []) := rfl
theorem kM_25 : KM[25]? = some (0, 8, []) := rfl
theorem kM_26 : KM[26]? = some (0, 31, []) := rfl
theorem kM_27 : KM[27]? = some (0, 372, []) := rfl
theorem kM_28 : KM[28]? = some (0, 31, []) := rfl
theorem kM_29 : KM[29]? = some (1, 100, []) := rfl
theorem kM_30 : KM[30]? = some (1, 12, []) := rfl
theorem kM_31 : KM[31]? = some (1, 16, []) := rfl
theorem kM_32 : KM[32]? = some (0, 3300, []) := rfl
theorem kM_33 : KM[33]? = some (0, 12, []) := rfl
theorem kM_34 : KM[34]? = some (0, 12, []) := rfl
theorem kM_35 : KM[35]? = some (0, 12, []) := rfl
theorem kM_36 : KM[36]? = some (0, 252, []) := rfl
theorem kM_37 : KM[37]? = some (0, 150, []) := rfl
theorem kM_38 : KM[38]? = some (0, 8, []) := rfl
theorem kM_39 : KM[39]? = some (0, 8, []) := rfl
theorem kM_40 : KM[40]? = some (0, 8, []) := rfl
theorem kM_41 : KM[41]? = some (0, 8, []) := rfl
theorem kM_42 : KM[42]? = some (0, 8, []) := rfl
theorem kM_43 : KM[43]? = some (1, 8, []) := rfl
theorem kM_44 : KM[44]? = some (0, 16, []) := rfl
theorem kM_ok : KOk KM := by
  intro c k h
  have h2 : ∀ k ∈ KM, k.2.1 < 2147483648 := by decide
  exact h2 k (List.mem_of_getElem? h)
def fdC_0 : List (Nat × Nat) := [(1, 1), (0, 0), (2, 0), (2, 0), (1, 38), (1, 44), (1, 48), (1, 52), (1, 65)]
def fdC_2 : List (Nat × Nat) := [(0, 0), (1, 3), (1, 4), (1, 5), (1, 6), (1, 7), (1, 8), (1, 9), (1, 10), (1, 11), (0, 0), (1, 15), (1, 16), (0, 0), (0, 0), (1, 17), (1, 18), (1, 19), (0, 0)]
def fdC_11 : List (Nat × Nat) := [(0, 0), (1, 12), (1, 13), (1, 14)]
def fdC_20 : List (Nat × Nat) := [(0, 0), (1, 21), (1, 22), (1, 23), (1, 24), (1, 25), (1, 26), (1, 27), (1, 28), (1, 29), (0, 0), (1, 33), (1, 34), (0, 0), (0, 0), (1, 35), (1, 36), (1, 37), (0, 0)]
def fdC_29 : List (Nat × Nat) := [(0, 0), (1, 30), (1, 31), (1, 32)]
def fdC_38 : List (Nat × Nat) := [(2, 0), (0, 0), (0, 0), (0, 0), (0, 0), (0, 0), (0, 0), (0, 0), (0, 0), (1, 39), (1, 40), (1, 41), (1, 42), (1, 43)]
def fdC_44 : List (Nat × Nat) := [(2, 0), (0, 0), (0, 0), (0, 0), (0, 0), (0, 0), (0, 0), (0, 0), (0, 0), (0, 0), (1, 45)]
def fdC_45 : List (Nat × Nat) := [(0, 0), (1, 46), (1, 47)]
def fdC_48 : List (Nat × Nat) := [(0, 0), (0, 0), (1, 49), (1, 50), (1, 51)]
def fdC_52 : List (Nat × Nat) := [(1, 61), (0, 0), (0, 0), (0, 0), (0, 0), (0, 0), (1, 53), (1, 54), (1, 55), (1, 56), (1, 57), (1, 58), (1, 59), (1, 60)]
def fdC_61 : List (Nat × Nat) := [(2, 0), (0, 0), (0, 0), (0, 0), (0, 0), (0, 0), (0, 0), (0, 0), (0, 0), (0, 0), (1, 62)]
def fdC_62 : List (Nat × Nat) := [(0, 0), (1, 63), (1, 64)]
def fdC_65 : List (Nat × Nat) := [(2, 0), (0, 0), (0, 0), (1, 66), (1, 67), (1, 68), (1, 69), (1, 70), (1, 71), (0, 0), (0, 0)]
def KC : List CK := [(3, 8, fdC_0), (0, 400, []), (3, 6, fdC_2), (0, 400, []), (0, 400, []), (0, 400, []), (0, 400, []), (0, 400, []), (0, 400, []), (0, 400, []), (0, 400, []), (3, 7, fdC_11), (0, 200, []), (0, 200, []), (0, 200, []), (0, 12, []), (0, 12, []), (0, 16, []), (0, 16, []), (0, 16, []), (3, 6, fdC_20), (0, 400, []), (0, 400, []), (0, 400, []), (0, 400, []), (0, 400, []), (0, 400, []), (0, 400, []), (0, 400, []), (3, 7, fdC_29), (0, 200, []), (0, 200, []), (0, 200, []), (0, 12, []), (0, 12, []), (0, 16, []), (0, 16, []), (0, 16, []), (3, 5, fdC_38), (0, 12, []), (0, 7, []), (1, 7, []), (0, 400, []), (0, 400, []), (3, 4, fdC_44), (3, 3, fdC_45), (0, 20, []), (1, 100, []), (3, 2, fdC_48), (2, 12, []), (0, 12, []), (0, 240, []), (3, 1, fdC_52), (2, 300, []), (0, 300, []), (0, 300, []), (0, 300, []), (0, 12, []), (0, 12, []), (0, 12, []), (0, 12, []), (3, 4, fdC_61), (3, 3, fdC_62), (0, 20, []), (1, 100, []), (3, 0, fdC_65), (2, 12, []), (2, 16, []), (2, 400, []), (0, 400, []), (0, 400, []), (0, 16, [])]
theorem kC_0 : KC[0]? = some (3, 8, fdC_0) := rfl
theorem fC_0_0 : fdC_0[0]? = some (1, 1) := rfl
theorem fC_0_1 : fdC_0[1]? = some (0, 0) := rfl
theorem fC_0_2 : fdC_0[2]? = some (2, 0) := rfl
theorem fC_0_3 : fdC_0[3]? = some (2, 0) := rfl
theorem fC_0_4 : fdC_0[4]? = some (1, 38) := rfl
theorem fC_0_5 : fdC_0[5]? = some (1, 44) := rfl
theorem fC_0_6 : fdC_0[6]? = some (1, 48) := rfl
theorem fC_0_7 : fdC_0[7]? = some (1, 52) := rfl
theorem fC_0_8 : fdC_0[8]? = some (1, 65) := rfl
theorem kC_1 : KC[1]? = some (0, 400, []) := rfl
theorem kC_2 : KC[2]? = some (3, 6, fdC_2) := rfl
theorem fC_2_0 : fdC_2[0]? = some (0, 0) := rfl
theorem fC_2_1 : fdC_2[1]? = some (1, 3) := rfl
theorem fC_2_2 : fdC_2[2]? = some (1, 4) := rfl
theorem fC_2_3 : fdC_2[3]? = some (1, 5) := rfl
theorem fC_2_4 : fdC_2[4]? = some (1, 6) := rfl
theorem fC_2_5 : fdC_2[5]? = some (1, 7) := rfl
theorem fC_2_6 : fdC_2[6]? = some (1, 8) := rfl
theorem fC_2_7 : fdC_2[7]? = some (1, 9) := rfl
theorem fC_2_8 : fdC_2[8]? = some (1, 10) := rfl
theorem fC_2_9 : fdC_2[9]? = some (1, 11) := rfl
theorem fC_2_10 : fdC_2[10]? = some (0, 0) := rfl
theorem fC_2_11 : fdC_2[11]? = some (1, 15) := rfl
theorem fC_2_12 : fdC_2[12]? = some (1, 16) := rfl
theorem fC_2_13 : fdC_2[13]? = some (0, 0) := rfl
theorem fC_2_14 : fdC_2[14]? = some (0, 0) := rfl
theorem fC_2_15 : fdC_2[15]? = some (1, 17) := rfl
theorem fC_2_16 : fdC_2[16]? = some (1, 18) := rfl
theorem fC_2_17 : fdC_2[17]? = some (1, 19) := rfl
theorem fC_2_18 : fdC_2[18]? = some (0, 0) := rfl
theorem kC_3 : KC[3]? = some (0, 400, []) := rfl
theorem kC_4 : KC[4]? = some (0, 400, []) := rfl
theorem kC_5 : KC[5]? = some (0, 400, []) := rfl
theorem kC_6 : KC[6]? = some (0, 400, []) := rfl
theorem kC_7 : KC[7]? = some (0, 400, []) := rfl
theorem kC_8 : KC[8]? = some (0, 400, []) := rfl
theorem kC_9 : KC[9]? = some (0, 400, []) := rfl
theorem kC_10 : KC[10]? = some (0, 400, []) := rfl
theorem kC_11 : KC[11]? = some (3, 7, fdC_11) := rfl
theorem fC_11_0 : fdC_11[0]? = some (0, 0) := rfl
theorem fC_11_1 : fdC_11[1]? = some (1, 12) := rfl
theorem fC_11_2 : fdC_11[2]? = some (1, 13) := rfl
theorem fC_11_3 : fdC_11[3]? = some (1, 14) := rfl
theorem kC_12 : KC[12]? = some (0, 200, []) := rfl
theorem kC_13 : KC[13]? = some (0, 200, []) := rfl
theorem kC_14 : KC[14]? = some (0, 200, []) := rfl
theorem kC_15 : KC[15]? = some (0, 12, []) := rfl
theorem kC_16 : KC[16]? = some (0, 12, []) := rfl
theorem kC_17 : KC[17]? = some (0, 16, []) := rfl
theorem kC_18 : KC[18]? = some (0, 16, []) := rfl
theorem kC_19 : KC[19]? = some (0, 16, []) := rfl
theorem kC_20 : KC[20]? = some (3, 6, fdC_20) := rfl
theorem fC_20_0 : fdC_20[0]? = some (0, 0) := rfl
theorem fC_20_1 : fdC_20[1]? = some (1, 21) := rfl
theorem fC_20_2 : fdC_20[2]? = some (1, 22) := rfl
theorem fC_20_3 : fdC_20[3]? = some (1, 23) := rfl
theorem fC_20_4 : fdC_20[4]? = some (1, 24) := rfl
theorem fC_20_5 : fdC_20[5]? = some (1, 25) := rfl
theorem fC_20_6 : fdC_20[6]? = some (1, 26) := rfl
theorem fC_20_7 : fdC_20[7]? = some (1, 27) := rfl
theorem fC_20_8 : fdC_20[8]? = some (1, 28) := rfl
theorem fC_20_9 : fdC_20[9]? = some (1, 29) := rfl
theorem fC_20_10 : fdC_20[10]? = some (0, 0) := rfl
theorem fC_20_11 : fdC_20[11]? = some (1, 33) := rfl
theorem fC_20_12 : fdC_20[12]? = some (1, 34) := rfl
theorem fC_20_13 : fdC_20[13]? = some (0, 0) := rfl
theorem fC_20_14 : fdC_20[14]? = some (0, 0) := rfl
theorem fC_20_15 : fdC_20[15]? = some (1, 35) := rfl
theorem fC_20_16 : fdC_20[16]? = some (1, 36) := rfl
theorem fC_20_17 : fdC_20[17]? = some (1, 37) := rfl
theorem fC_20_18 : fdC_20[18]? = some (0, 0) := rfl
theorem kC_21 : KC[21]? = some (0, 400, []) := rfl
theorem kC_22 : KC[22]? = some (0, 400, []) := rfl
theorem kC_23 : KC[23]? = some (0, 400, []) := rfl
theorem kC_24 : KC[24]? = some (0, 400, []) := rfl
theorem kC_25 : KC[25]? = some (0, 400, []) := rfl
theorem kC_26 : KC[26]? = some (0, 400, []) := rfl
theorem kC_27 : KC[27]? = some (0, 400, []) := rfl
theorem kC_28 : KC[28]? = some (0, 400, []) := rfl
theorem kC_29 : KC[29]? = some (3, 7, fdC_29) := rfl
theorem fC_29_0 : fdC_29[0]? = some (0, 0) := rfl
theorem fC_29_1 : fdC_29[1]? = some (1, 30) := rfl
theorem fC_29_2 : fdC_29[2]? = some (1, 31) := rfl
theorem fC_29_3 : fdC_29[3]? = some (1, 32) := rfl
theorem kC_30 : KC[30]? = some (0, 200, []) := rfl
theorem kC_31 : KC[31]? = some (0, 200, []) := rfl
theorem kC_32 : KC[32]? = some (0, 200, []) := rfl
theorem kC_33 : KC[33]? = some (0, 12, []) := rfl
theorem kC_34 : KC[34]? = some (0, 12, []) := rfl
theorem kC_35 : KC[35]? = some (0, 16, []) := rfl
theorem kC_36 : KC[36]? = some (0, 16, []) := rfl
theorem kC_37 : KC[37]? = some (0, 16, []) := rfl
theorem kC_38 : KC[38]? = some (3, 5, fdC_38) := rfl
theorem fC_38_0 : fdC_38[0]? = some (2, 0) := rfl
theorem fC_38_1 : fdC_38[1]? = some (0, 0) := rfl
theorem fC_38_2 : fdC_38[2]? = some (0, 0) := rfl
theorem fC_38_3 : fdC_38[3]? = some (0, 0) := rfl
theorem fC_38_4 : fdC_38[4]? = some (0, 0) := rfl
theorem fC_38_5 : fdC_38[5]? = some (0, 0) := rfl
theorem fC_38_6 : fdC_38[6]? = some (0, 0) := rfl
theorem fC_38_7 : fdC_38[7]? = some (0, 0) := rfl
theorem fC_38_8 : fdC_38[8]? = some (0, 0) := rfl
theorem fC_38_9 : fdC_38[9]? = some (1, 39) := rfl
theorem fC_38_10 : fdC_38[10]? = some (1, 40) := rfl
theorem fC_38_11 : fdC_38[11]? = some (1, 41) := rfl
theorem fC_38_12 : fdC_38[12]? = some (1, 42) := rfl
theorem fC_38_13 : fdC_38[13]? = some (1, 43) := rfl
theorem kC_39 : KC[39]? = some (0, 12, []) := rfl
theorem kC_40 : KC[40]? = some (0, 7, []) := rfl
theorem kC_41 : KC[41]? = some (1, 7, []) := rfl
theorem kC_42 : KC[42]? = some (0, 400, []) := rfl
theorem kC_43 : KC[43]? = some (0, 400, []) := rfl
theorem kC_44 : KC[44]? = some (3, 4, fdC_44) := rfl
theorem fC_44_0 : fdC_44[0]? = some (2, 0) := rfl
theorem fC_44_1 : fdC_44[1]? = some (0, 0) := rfl
theorem fC_44_2 : fdC_44[2]? = some (0, 0) := rfl
theorem fC_44_3 : fdC_44[3]? = some (0, 0) := rfl
theorem fC_44_4 : fdC_44[4]? = some (0, 0) := rfl
theorem fC_44_5 : fdC_44[5]? = some (0, 0) := rfl
theorem fC_44_6 : fdC_44[6]? = some (0, 0) := rfl
theorem fC_44_7 : fdC_44[7]? = some (0, 0) := rfl
theorem fC_44_8 : fdC_44[8]? = some (0, 0) := rfl
theorem fC_44_9 : fdC_44[9]? = some (0, 0) := rfl
theorem fC_44_10 : fdC_44[10]? = some (1, 45) := rfl
theorem kC_45 : KC[45]? = some (3, 3, fdC_45) := rfl
theorem fC_45_0 : fdC_45[0]? = some (0, 0) := rfl
theorem fC_45_1 : fdC_45[1]? = some (1, 46) := rfl
theorem fC_45_2 : fdC_45[2]? = some (1, 47) := rfl
theorem kC_46 : KC[46]? = some (0, 20, []) := rfl
theorem kC_47 : KC[47]? = some (1, 100, []) := rfl
theorem kC_48 : KC[48]? = some (3, 2, fdC_48) := rfl
theorem fC_48_0 : fdC_48[0]? = some (0, 0) := rfl
theorem fC_48_1 : fdC_48[1]? = some (0, 0) := rfl
theorem fC_48_2 : fdC_48[2]? = some (1, 49) := rfl
theorem fC_48_3 : fdC_48[3]? = some (1, 50) := rfl
theorem fC_48_4 : fdC_48[4]? = some (1, 51) := rfl
theorem kC_49 : KC[49]? = some (2, 12, []) := rfl
theorem kC_50 : KC[50]? = some (0, 12, []) := rfl
theorem kC_51 : KC[51]? = some (0, 240, []) := rfl
theorem kC_52 : KC[52]? = some (3, 1, fdC_52) := rfl
theorem fC_52_0 : fdC_52[0]? = some (1, 61) := rfl
theorem fC_52_1 : fdC_52[1]? = some (0, 0) := rfl
theorem fC_52_2 : fdC_52[2]? = some (0, 0) := rfl
theorem fC_52_3 : fdC_52[3]? = some (0, 0) := rfl
theorem fC_52_4 : fdC_52[4]? = some (0, 0) := rfl
theorem fC_52_5 : fdC_52[5]? = some (0, 0) := rfl
theorem fC_52_6 : fdC_52[6]? = some (1, 53) := rfl
theorem fC_52_7 : fdC_52[7]? = some (1, 54) := rfl
theorem fC_52_8 : fdC_52[8]? = some (1, 55) := rfl
theorem fC_52_9 : fdC_52[9]? = some (1, 56) := rfl
theorem fC_52_10 : fdC_52[10]? = some (1, 57) := rfl
theorem fC_52_11 : fdC_52[11]? = some (1, 58) := rfl
theorem fC_52_12 : fdC_52[12]? = some (1, 59) := rfl
theorem fC_52_13 : fdC_52[13]? = some (1, 60) := rfl
theorem kC_53 : KC[53]? = some (2, 300, []) := rfl
theorem kC_54 : KC[54]? = some (0, 300, []) := rfl
theorem kC_55 : KC[55]? = some (0, 300, []) := rfl
theorem kC_56 : KC[56]? = some (0, 300, []) := rfl
theorem kC_57 : KC[57]? = some (0, 12, []) := rfl
theorem kC_58 : KC[58]? = some (0, 12, []) := rfl
theorem kC_59 : KC[59]? = some (0, 12, []) := rfl
theorem kC_60 : KC[60]? = some (0, 12, []) := rfl
theorem kC_61 : KC[61]? = some (3, 4, fdC_61) := rfl
theorem fC_61_0 : fdC_61[0]? = some (2, 0) := rfl
theorem fC_61_1 : fdC_61[1]? = some (0, 0) := rfl
theorem fC_61_2 : fdC_61[2]? = some (0, 0) := rfl
theorem fC_61_3 : fdC_61[3]? = some (0, 0) := rfl
theorem fC_61_4 : fdC_61[4]? = some (0, 0) := rfl
theorem fC_61_5 : fdC_61[5]? = some (0, 0) := rfl
theorem fC_61_6 : fdC_61[6]? = some (0, 0) := rfl
theorem fC_61_7 : fdC_61[7]? = some (0, 0) := rfl
theorem fC_61_8 : fdC_61[8]? = some (0, 0) := rfl
theorem fC_61_9 : fdC_61[9]? = some (0, 0) := rfl
theorem fC_61_10 : fdC_61[10]? = some (1, 62) := rfl
theorem kC_62 : KC[62]? = some (3, 3, fdC_62) := rfl
theorem fC_62_0 : fdC_62[0]? = some (0, 0) := rfl
theorem fC_62_1 : fdC_62[1]? = some (1, 63) := rfl
theorem fC_62_2 : fdC_62[2]? = some (1, 64) := rfl
theorem kC_63 : KC[63]? = some (0, 20, []) := rfl
theorem kC_64 : KC[64]? = some (1, 100, []) := rfl
theorem kC_65 : KC[65]? = some (3, 0, fdC_65) := rfl
theorem fC_65_0 : fdC_65[0]? = some (2, 0) := rfl
theorem fC_65_1 : fdC_65[1]? = some (0, 0) := rfl
theorem fC_65_2 : fdC_65[2]? = some (0, 0) := rfl
theorem fC_65_3 : fdC_65[3]? = some (1, 66) := rfl
theorem fC_65_4 : fdC_65[4]? = some (1, 67) := rfl
theorem fC_65_5 : fdC_65[5]? = some (1, 68) := rfl
theorem fC_65_6 : fdC_65[6]? = some (1, 69) := rfl
theorem fC_65_7 : fdC_65[7]? = some (1, 70) := rfl
theorem fC_65_8 : fdC_65[8]? = some (1, 71) := rfl
theorem fC_65_9 : fdC_65[9]? = some (0, 0) := rfl
theorem fC_65_10 : fdC_65[10]? = some (0, 0) := rfl
theorem kC_66 : KC[66]? = some (2, 12, []) := rfl
theorem kC_67 : KC[67]? = some (2, 16, []) := rfl
theorem kC_68 : KC[68]? = some (2, 400, []) := rfl
theorem kC_69 : KC[69]? = some (0, 400, []) := rfl
theorem kC_70 : KC[70]? = some (0, 400, []) := rfl
theorem kC_71 : KC[71]? = some (0, 16, []) := rfl
theorem kC_ok : KOk KC := by
  intro c k h
  have h2 : ∀ k ∈ KC, k.2.1 < 2147483648 := by decide
  exact h2 k (List.mem_of_getElem? h)
def isS (c : Nat) : Prop := c = 2 ∨ c = 20
def fdX7_0 (c : Nat) : List (Nat × Nat) := [(0, 0), (1, c + 1), (1, c + 2), (1, c + 3), (1, c + 4), (1, c + 5), (1, c + 6), (1, c + 7), (1, c + 8), (1, c + 9), (0, 0), (1, c + 13), (1, c + 14), (0, 0), (0, 0), (1, c + 15), (1, c + 16), (1, c + 17), (0, 0)]
theorem kX7_0 {c : Nat} (h : isS c) : KC[c]? = some (3, 6, fdX7_0 c) := by
  rcases h with rfl | rfl <;> rfl
theorem fIX7_0 (c : Nat) : (fdX7_0 c)[0]? = some (0, 0) := rfl
theorem fIX7_1 (c : Nat) : (fdX7_0 c)[1]? = some (1, c + 1) := rfl
theorem fIX7_2 (c : Nat) : (fdX7_0 c)[2]? = some (1, c + 2) := rfl
theorem fIX7_3 (c : Nat) : (fdX7_0 c)[3]? = some (1, c + 3) := rfl
theorem fIX7_4 (c : Nat) : (fdX7_0 c)[4]? = some (1, c + 4) := rfl
theorem fIX7_5 (c : Nat) : (fdX7_0 c)[5]? = some (1, c + 5) := rfl
theorem fIX7_6 (c : Nat) : (fdX7_0 c)[6]? = some (1, c + 6) := rfl
theorem fIX7_7 (c : Nat) : (fdX7_0 c)[7]? = some (1, c + 7) := rfl
theorem fIX7_8 (c : Nat) : (fdX7_0 c)[8]? = some (1, c + 8) := rfl
theorem fIX7_9 (c : Nat) : (fdX7_0 c)[9]? = some (1, c + 9) := rfl
theorem fIX7_10 (c : Nat) : (fdX7_0 c)[10]? = some (0, 0) := rfl
theorem fIX7_11 (c : Nat) : (fdX7_0 c)[11]? = some (1, c + 13) := rfl
theorem fIX7_12 (c : Nat) : (fdX7_0 c)[12]? = some (1, c + 14) := rfl
theorem fIX7_13 (c : Nat) : (fdX7_0 c)[13]? = some (0, 0) := rfl
theorem fIX7_14 (c : Nat) : (fdX7_0 c)[14]? = some (0, 0) := rfl
theorem fIX7_15 (c : Nat) : (fdX7_0 c)[15]? = some (1, c + 15) := rfl
theorem fIX7_16 (c : Nat) : (fdX7_0 c)[16]? = some (1, c + 16) := rfl
theorem fIX7_17 (c : Nat) : (fdX7_0 c)[17]? = some (1, c + 17) := rfl
theorem fIX7_18 (c : Nat) : (fdX7_0 c)[18]? = some (0, 0) := rfl
theorem kX7_1 {c : Nat} (h : isS c) : KC[c + 1]? = some (0, 400, []) := by
  rcases h with rfl | rfl <;> rfl
theorem kX7_2 {c : Nat} (h : isS c) : KC[c + 2]? = some (0, 400, []) := by
  rcases h with rfl | rfl <;> rfl
theorem kX7_3 {c : Nat} (h : isS c) : KC[c + 3]? = some (0, 400, []) := by
  rcases h with rfl | rfl <;> rfl
theorem kX7_4 {c : Nat} (h : isS c) : KC[c + 4]? = some (0, 400, []) := by
  rcases h with rfl | rfl <;> rfl
theorem kX7_5 {c : Nat} (h : isS c) : KC[c + 5]? = some (0, 400, []) := by
  rcases h with rfl | rfl <;> rfl
theorem kX7_6 {c : Nat} (h : isS c) : KC[c + 6]? = some (0, 400, []) := by
  rcases h with rfl | rfl <;> rfl
theorem kX7_7 {c : Nat} (h : isS c) : KC[c + 7]? = some (0, 400, []) := by
  rcases h with rfl | rfl <;> rfl
theorem kX7_8 {c : Nat} (h : isS c) : KC[c + 8]? = some (0, 400, []) := by
  rcases h with rfl | rfl <;> rfl
def fdX7_9 (c : Nat) : List (Nat × Nat) := [(0, 0), (1, c + 10), (1, c + 11), (1, c + 12)]
theorem kX7_9 {c : Nat} (h : isS c) : KC[c + 9]? = some (3, 7, fdX7_9 c) := by
  rcases h with rfl | rfl <;> rfl
theorem fOX7_9_0 (c : Nat) : (fdX7_9 c)[0]? = some (0, 0) := rfl
theorem fOX7_9_1 (c : Nat) : (fdX7_9 c)[1]? = some (1, c + 10) := rfl
theorem fOX7_9_2 (c : Nat) : (fdX7_9 c)[2]? = some (1, c + 11) := rfl
theorem fOX7_9_3 (c : Nat) : (fdX7_9 c)[3]? = some (1, c + 12) := rfl
theorem kX7_10 {c : Nat} (h : isS c) : KC[c + 10]? = some (0, 200, []) := by
  rcases h with rfl | rfl <;> rfl
theorem kX7_11 {c : Nat} (h : isS c) : KC[c + 11]? = some (0, 200, []) := by
  rcases h with rfl | rfl <;> rfl
theorem kX7_12 {c : Nat} (h : isS c) : KC[c + 12]? = some (0, 200, []) := by
  rcases h with rfl | rfl <;> rfl
theorem kX7_13 {c : Nat} (h : isS c) : KC[c + 13]? = some (0, 12, []) := by
  rcases h with rfl | rfl <;> rfl
theorem kX7_14 {c : Nat} (h : isS c) : KC[c + 14]? = some (0, 12, []) := by
  rcases h with rfl | rfl <;> rfl
theorem kX7_15 {c : Nat} (h : isS c) : KC[c + 15]? = some (0, 16, []) := by
  rcases h with rfl | rfl <;> rfl
theorem kX7_16 {c : Nat} (h : isS c) : KC[c + 16]? = some (0, 16, []) := by
  rcases h with rfl | rfl <;> rfl
theorem kX7_17 {c : Nat} (h : isS c) : KC[c + 17]? = some (0, 16, []) := by
  rcases h with rfl | rfl <;> rfl
def isT (c : Nat) : Prop := c = 11 ∨ c = 29
def fdX8_0 (c : Nat) : List (Nat × Nat) := [(0, 0), (1, c + 1), (1, c + 2), (1, c + 3)]
theorem kX8_0 {c : Nat} (h : isT c) : KC[c]? = some (3, 7, fdX8_0 c) := by
  rcases h with rfl | rfl <;> rfl
theorem fIX8_0 (c : Nat) : (fdX8_0 c)[0]? = some (0, 0) := rfl
theorem fIX8_1 (c : Nat) : (fdX8_0 c)[1]? = some (1, c + 1) := rfl
theorem fIX8_2 (c : Nat) : (fdX8_0 c)[2]? = some (1, c + 2) := rfl
theorem fIX8_3 (c : Nat) : (fdX8_0 c)[3]? = some (1, c + 3) := rfl
theorem kX8_1 {c : Nat} (h : isT c) : KC[c + 1]? = some (0, 200, []) := by
  rcases h with rfl | rfl <;> rfl
theorem kX8_2 {c : Nat} (h : isT c) : KC[c + 2]? = some (0, 200, []) := by
  rcases h with rfl | rfl <;> rfl
theorem kX8_3 {c : Nat} (h : isT c) : KC[c + 3]? = some (0, 200, []) := by
  rcases h with rfl | rfl <;> rfl
def isP (c : Nat) : Prop := c = 44 ∨ c = 61
def fdX5_0 (c : Nat) : List (Nat × Nat) := [(2, 0), (0, 0), (0, 0), (0, 0), (0, 0), (0, 0), (0, 0), (0, 0), (0, 0), (0, 0), (1, c + 1)]
theorem kX5_0 {c : Nat} (h : isP c) : KC[c]? = some (3, 4, fdX5_0 c) := by
  rcases h with rfl | rfl <;> rfl
theorem fIX5_0 (c : Nat) : (fdX5_0 c)[0]? = some (2, 0) := rfl
theorem fIX5_1 (c : Nat) : (fdX5_0 c)[1]? = some (0, 0) := rfl
theorem fIX5_2 (c : Nat) : (fdX5_0 c)[2]? = some (0, 0) := rfl
theorem fIX5_3 (c : Nat) : (fdX5_0 c)[3]? = some (0, 0) := rfl
theorem fIX5_4 (c : Nat) : (fdX5_0 c)[4]? = some (0, 0) := rfl
theorem fIX5_5 (c : Nat) : (fdX5_0 c)[5]? = some (0, 0) := rfl
theorem fIX5_6 (c : Nat) : (fdX5_0 c)[6]? = some (0, 0) := rfl
theorem fIX5_7 (c : Nat) : (fdX5_0 c)[7]? = some (0, 0) := rfl
theorem fIX5_8 (c : Nat) : (fdX5_0 c)[8]? = some (0, 0) := rfl
theorem fIX5_9 (c : Nat) : (fdX5_0 c)[9]? = some (0, 0) := rfl
theorem fIX5_10 (c : Nat) : (fdX5_0 c)[10]? = some (1, c + 1) := rfl
def fdX5_1 (c : Nat) : List (Nat × Nat) := [(0, 0), (1, c + 2), (1, c + 3)]
theorem kX5_1 {c : Nat} (h : isP c) : KC[c + 1]? = some (3, 3, fdX5_1 c) := by
  rcases h with rfl | rfl <;> rfl
theorem fOX5_1_0 (c : Nat) : (fdX5_1 c)[0]? = some (0, 0) := rfl
theorem fOX5_1_1 (c : Nat) : (fdX5_1 c)[1]? = some (1, c + 2) := rfl
theorem fOX5_1_2 (c : Nat) : (fdX5_1 c)[2]? = some (1, c + 3) := rfl
theorem kX5_2 {c : Nat} (h : isP c) : KC[c + 2]? = some (0, 20, []) := by
  rcases h with rfl | rfl <;> rfl
theorem kX5_3 {c : Nat} (h : isP c) : KC[c + 3]? = some (1, 100, []) := by
  rcases h with rfl | rfl <;> rfl
def isN (c : Nat) : Prop := c = 45 ∨ c = 62
def fdX4_0 (c : Nat) : List (Nat × Nat) := [(0, 0), (1, c + 1), (1, c + 2)]
theorem kX4_0 {c : Nat} (h : isN c) : KC[c]? = some (3, 3, fdX4_0 c) := by
  rcases h with rfl | rfl <;> rfl
theorem fIX4_0 (c : Nat) : (fdX4_0 c)[0]? = some (0, 0) := rfl
theorem fIX4_1 (c : Nat) : (fdX4_0 c)[1]? = some (1, c + 1) := rfl
theorem fIX4_2 (c : Nat) : (fdX4_0 c)[2]? = some (1, c + 2) := rfl
theorem kX4_1 {c : Nat} (h : isN c) : KC[c + 1]? = some (0, 20, []) := by
  rcases h with rfl | rfl <;> rfl
theorem kX4_2 {c : Nat} (h : isN c) : KC[c + 2]? = some (1, 100, []) := by
  rcases h with rfl | rfl <;> rfl
theorem inX0 : ∀ w ∈ u_ws RX0 TX0 11, w ∈ lw_tbl ∧ Tm w = true := in_places [393, 395, 397, 399, 401, 403, 405, 407, 409, 411, 413] (by decide +kernel) (by decide +kernel)
theorem inX1 : ∀ w ∈ u_ws RX1 TX1 14, w ∈ lw_tbl ∧ Tm w = true := in_places [341, 343, 345, 347, 349, 351, 353, 355, 357, 359, 361, 363, 365, 367] (by decide +kernel) (by decide +kernel)
theorem inX2 : ∀ w ∈ u_ws RX2 TX2 5, w ∈ lw_tbl ∧ Tm w = true := in_places [300, 302, 304, 306, 308] (by decide +kernel) (by decide +kernel)
theorem inX4 : ∀ w ∈ u_ws RX4 TX4 3, w ∈ lw_tbl ∧ Tm w = true := in_places [234, 236, 238] (by decide +kernel) (by decide +kernel)
theorem inX5 : ∀ w ∈ u_ws RX5 TX5 11, w ∈ lw_tbl ∧ Tm w = true := in_places [265, 267, 269, 271, 273, 275, 277, 279, 281, 283, 285] (by decide +kernel) (by decide +kernel)
theorem inX6 : ∀ w ∈ u_ws RX6 TX6 14, w ∈ lw_tbl ∧ Tm w = true := in_places [185, 187, 189, 191, 193, 195, 197, 199, 201, 203, 205, 207, 209, 211] (by decide +kernel) (by decide +kernel)
theorem inX7 : ∀ w ∈ u_ws RX7 TX7 19, w ∈ lw_tbl ∧ Tm w = true := in_places [126, 128, 130, 132, 134, 136, 138, 140, 142, 144, 146, 148, 150, 152, 154, 156, 158, 160, 162] (by decide +kernel) (by decide +kernel)
theorem inX8 : ∀ w ∈ u_ws RX8 TX8 4, w ∈ lw_tbl ∧ Tm w = true := in_places [48, 50, 52, 54] (by decide +kernel) (by decide +kernel)
theorem inX9 : ∀ w ∈ u_ws RX9 TX9 9, w ∈ lw_tbl ∧ Tm w = true := in_places [425, 427, 429, 431, 433, 435, 437, 439, 441] (by decide +kernel) (by decide +kernel)
theorem inX10 : ∀ w ∈ u_ws RX10 TX10 74, w ∈ lw_tbl ∧ Tm w = true := in_places [1380, 1382, 1384, 1386, 1388, 1390, 1392, 1394, 1396, 1398, 1400, 1402, 1404, 1406, 1408, 1410, 1412, 1414, 1416, 1418, 1420, 1422, 1424, 1426, 1428, 1430, 1432, 1434, 1436, 1438, 1440, 1442, 1444, 1446, 1448, 1450, 1452, 1454, 1456, 1458, 1460, 1462, 1464, 1466, 1468, 1470, 1472, 1474, 1476, 1478, 1480, 1482, 1484, 1486, 1488, 1490, 1492, 1494, 1496, 1498, 1500, 1502, 1504, 1506, 1508, 1510, 1512, 1514, 1516, 1518, 1520, 1522, 1524, 1526] (by decide +kernel) (by decide +kernel)
