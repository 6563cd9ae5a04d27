theorem am_in {i : Int32} {n : Nat} (h : decide (0 ≤ i.toInt ∧ i.toInt < (n : Int)) = true) : vp_in i n := vp_in_iff.mpr (of_decide_eq_true h)
section AR2
variable {G : AG} {cc : ByteArray} {cx : ACx} {nL : Nat} {rt : Option FieldType} {d : Nat} {Q : AQ} {pc : Nat} {l : AL} {st : List Value} {M : AM}
theorem av_ialdK {a n j : Nat} {i : Int32} (hd : decode cc pc = .ok (.iaload, 1)) (ha : G.1[a]? = some (.inr (false, n))) (hi : vp_in i n) (hj : i.toNatClampNeg = j) (k : av G cc cx nL rt d Q (pc + 1) l (.int (M.1 a j) :: st) M) : av G cc cx nL rt d Q pc l (.int i :: .ref a :: st) M := av_iald hd ha hi (by rw [hj]; exact k)
theorem av_ialdSK {a n j : Nat} {f : Nat → Int32} {i : Int32} (hd : decode cc pc = .ok (.iaload, 1)) (ha : G.2.1 a = some (n, f)) (hi : vp_in i n) (hj : i.toNatClampNeg = j) (k : av G cc cx nL rt d Q (pc + 1) l (.int (f j) :: st) M) : av G cc cx nL rt d Q pc l (.int i :: .ref a :: st) M := av_ialdS hd ha hi (by rw [hj]; exact k)
theorem av_iastK {a n j : Nat} {i v : Int32} (hd : decode cc pc = .ok (.iastore, 1)) (ha : G.1[a]? = some (.inr (false, n))) (hi : vp_in i n) (hj : i.toNatClampNeg = j) (k : av G cc cx nL rt d Q (pc + 1) l st (am_wi M a j v)) : av G cc cx nL rt d Q pc l (.int v :: .int i :: .ref a :: st) M := av_iast hd ha hi (by rw [hj]; exact k)
end AR2
theorem kc_bipush_m100 : (Int8.ofInt (-100)).toInt32 = (-100) := by decide
theorem kc_bipush_m14 : (Int8.ofInt (-14)).toInt32 = (-14) := by decide
theorem kc_bipush_m13 : (Int8.ofInt (-13)).toInt32 = (-13) := by decide
theorem kc_bipush_m12 : (Int8.ofInt (-12)).toInt32 = (-12) := by decide
theorem kc_bipush_m11 : (Int8.ofInt (-11)).toInt32 = (-11) := by decide
theorem kc_bipush_m5 : (Int8.ofInt (-5)).toInt32 = (-5) := by decide
theorem kc_bipush_m3 : (Int8.ofInt (-3)).toInt32 = (-3) := by decide
theorem kc_bipush_m2 : (Int8.ofInt (-2)).toInt32 = (-2) := by decide
theorem kc_bipush_6 : (Int8.ofInt (6)).toInt32 = 6 := by decide
theorem kc_bipush_7 : (Int8.ofInt (7)).toInt32 = 7 := by decide
theorem kc_bipush_8 : (Int8.ofInt (8)).toInt32 = 8 := by decide
theorem kc_bipush_10 : (Int8.ofInt (10)).toInt32 = 10 := by decide
theorem kc_bipush_11 : (Int8.ofInt (11)).toInt32 = 11 := by decide
theorem kc_bipush_12 : (Int8.ofInt (12)).toInt32 = 12 := by decide
theorem kc_bipush_13 : (Int8.ofInt (13)).toInt32 = 13 := by decide
theorem kc_bipush_14 : (Int8.ofInt (14)).toInt32 = 14 := by decide
theorem kc_bipush_15 : (Int8.ofInt (15)).toInt32 = 15 := by decide
theorem kc_bipush_16 : (Int8.ofInt (16)).toInt32 = 16 := by decide
theorem kc_bipush_17 : (Int8.ofInt (17)).toInt32 = 17 := by decide
theorem kc_bipush_20 : (Int8.ofInt (20)).toInt32 = 20 := by decide
theorem kc_bipush_24 : (Int8.ofInt (24)).toInt32 = 24 := by decide
theorem kc_bipush_30 : (Int8.ofInt (30)).toInt32 = 30 := by decide
theorem kc_bipush_33 : (Int8.ofInt (33)).toInt32 = 33 := by decide
theorem kc_bipush_37 : (Int8.ofInt (37)).toInt32 = 37 := by decide
theorem kc_bipush_38 : (Int8.ofInt (38)).toInt32 = 38 := by decide
theorem kc_bipush_39 : (Int8.ofInt (39)).toInt32 = 39 := by decide
theorem kc_bipush_40 : (Int8.ofInt (40)).toInt32 = 40 := by decide
theorem kc_bipush_41 : (Int8.ofInt (41)).toInt32 = 41 := by decide
theorem kc_bipush_42 : (Int8.ofInt (42)).toInt32 = 42 := by decide
theorem kc_bipush_43 : (Int8.ofInt (43)).toInt32 = 43 := by decide
theorem kc_bipush_45 : (Int8.ofInt (45)).toInt32 = 45 := by decide
theorem kc_bipush_47 : (Int8.ofInt (47)).toInt32 = 47 := by decide
theorem kc_bipush_48 : (Int8.ofInt (48)).toInt32 = 48 := by decide
theorem kc_bipush_50 : (Int8.ofInt (50)).toInt32 = 50 := by decide
theorem kc_bipush_51 : (Int8.ofInt (51)).toInt32 = 51 := by decide
theorem kc_bipush_57 : (Int8.ofInt (57)).toInt32 = 57 := by decide
theorem kc_bipush_59 : (Int8.ofInt (59)).toInt32 = 59 := by decide
theorem kc_bipush_60 : (Int8.ofInt (60)).toInt32 = 60 := by decide
theorem kc_bipush_61 : (Int8.ofInt (61)).toInt32 = 61 := by decide
theorem kc_bipush_62 : (Int8.ofInt (62)).toInt32 = 62 := by decide
theorem kc_bipush_63 : (Int8.ofInt (63)).toInt32 = 63 := by decide
theorem kc_bipush_70 : (Int8.ofInt (70)).toInt32 = 70 := by decide
theorem kc_bipush_80 : (Int8.ofInt (80)).toInt32 = 80 := by decide
theorem kc_bipush_81 : (Int8.ofInt (81)).toInt32 = 81 := by decide
theorem kc_bipush_97 : (Int8.ofInt (97)).toInt32 = 97 := by decide
theorem kc_bipush_99 : (Int8.ofInt (99)).toInt32 = 99 := by decide
theorem kc_bipush_100 : (Int8.ofInt (100)).toInt32 = 100 := by decide
theorem kc_bipush_101 : (Int8.ofInt (101)).toInt32 = 101 := by decide
theorem kc_bipush_104 : (Int8.ofInt (104)).toInt32 = 104 := by decide
theorem kc_bipush_107 : (Int8.ofInt (107)).toInt32 = 107 := by decide
theorem kc_bipush_110 : (Int8.ofInt (110)).toInt32 = 110 := by decide
theorem kc_bipush_115 : (Int8.ofInt (115)).toInt32 = 115 := by decide
theorem kc_bipush_119 : (Int8.ofInt (119)).toInt32 = 119 := by decide
theorem kc_bipush_120 : (Int8.ofInt (120)).toInt32 = 120 := by decide
theorem kc_bipush_121 : (Int8.ofInt (121)).toInt32 = 121 := by decide
theorem kc_bipush_122 : (Int8.ofInt (122)).toInt32 = 122 := by decide
theorem kc_bipush_124 : (Int8.ofInt (124)).toInt32 = 124 := by decide
theorem kc_bipush_126 : (Int8.ofInt (126)).toInt32 = 126 := by decide
theorem kc_iconst_m1 : Int32.ofInt (-1) = (-1) := by decide
theorem kc_iconst_0 : Int32.ofInt (0) = 0 := by decide
theorem kc_iconst_1 : Int32.ofInt (1) = 1 := by decide
theorem kc_iconst_2 : Int32.ofInt (2) = 2 := by decide
theorem kc_iconst_3 : Int32.ofInt (3) = 3 := by decide
theorem kc_iconst_4 : Int32.ofInt (4) = 4 := by decide
theorem kc_iconst_5 : Int32.ofInt (5) = 5 := by decide
theorem kc_sipush_220 : (Int16.ofInt (220)).toInt32 = 220 := by decide
theorem kc_sipush_255 : (Int16.ofInt (255)).toInt32 = 255 := by decide
theorem kc_sipush_999 : (Int16.ofInt (999)).toInt32 = 999 := by decide
theorem kc_sipush_1000 : (Int16.ofInt (1000)).toInt32 = 1000 := by decide
theorem kc_sipush_1001 : (Int16.ofInt (1001)).toInt32 = 1001 := by decide
theorem kc_sipush_12345 : (Int16.ofInt (12345)).toInt32 = 12345 := by decide
abbrev c_Acts_isKind : Nat := 0
abbrev c_Acts_isUnder : Nat := 1
abbrev c_Acts_size : Nat := 2
abbrev c_Acts_has : Nat := 3
abbrev c_Acts_kindOf : Nat := 4
abbrev c_Acts_joins : Nat := 5
abbrev c_Acts_ranLast : Nat := 6
abbrev c_Acts_traced : Nat := 7
abbrev c_Acts_does : Nat := 8
abbrev c_Acts_holder : Nat := 9
abbrev c_Acts_notes : Nat := 10
abbrev c_Acts_plays : Nat := 11
abbrev c_Changes_undoable : Nat := 12
abbrev c_Changes_redoable : Nat := 13
abbrev c_Changes_happens : Nat := 14
abbrev c_Changes_forgetsOldest : Nat := 15
abbrev c_Changes_undoes : Nat := 16
abbrev c_Changes_redoes : Nat := 17
abbrev c_Crowd_isNumber : Nat := 18
abbrev c_Crowd_fits : Nat := 19
abbrev c_Crowd_size : Nat := 20
abbrev c_Crowd_has : Nat := 21
abbrev c_Crowd_everyone : Nat := 22
abbrev c_Crowd_number : Nat := 23
abbrev c_Crowd_setNumber : Nat := 24
abbrev c_Crowd_joins : Nat := 25
abbrev c_Crowd_shrinks : Nat := 26
abbrev c_Crowd_becomes : Nat := 27
abbrev c_Crowd_waiting : Nat := 28
abbrev c_Crowd_thereAt : Nat := 29
abbrev c_Crowd_comeBy : Nat := 30
abbrev c_Crowd_priceOf : Nat := 31
abbrev c_Day_who : Nat := 32
abbrev c_Day_begins : Nat := 33
abbrev c_Day_again : Nat := 34
abbrev c_Day_againWith : Nat := 35
abbrev c_Day_opens : Nat := 36
abbrev c_Day_passes : Nat := 37
abbrev c_Day_runs : Nat := 38
abbrev c_Day_till : Nat := 39
abbrev c_Day_twoGates : Nat := 40
abbrev c_Day_allAreIn : Nat := 41
abbrev c_Day_stillOutside : Nat := 42
abbrev c_Day_inSince : Nat := 43
abbrev c_Day_waitedLast : Nat := 44
abbrev c_Day_mostWaited : Nat := 45
abbrev c_Day_wentWithout : Nat := 46
abbrev c_Day_waitsWithin : Nat := 47
abbrev c_Day_heightsWithin : Nat := 48
abbrev c_Day_lastIn : Nat := 49
abbrev c_Deed_leads : Nat := 50
abbrev c_Deed_waitingNow : Nat := 51
abbrev c_Deed_numberIn : Nat := 52
abbrev c_Deed_inSince : Nat := 53
abbrev c_Deed_opensNow : Nat := 54
abbrev c_Deed_sendsAway : Nat := 55
abbrev c_Deed_dawns : Nat := 56
abbrev c_Deed_hasImage : Nat := 57
abbrev c_Deed_keepsImage : Nat := 58
abbrev c_Deed_laysBack : Nat := 59
abbrev c_Law_learns : Nat := 60
abbrev c_Law_tallness : Nat := 61
abbrev c_Law_joined : Nat := 62
abbrev c_Picker_picks : Nat := 63
abbrev c_Reader_isFull : Nat := 64
abbrev c_Reader_size : Nat := 65
abbrev c_Reader_takes : Nat := 66
abbrev c_Reader_clears : Nat := 67
abbrev c_Reader_faultOfText : Nat := 68
abbrev c_Reader_copySteps : Nat := 69
abbrev c_Reader_reads : Nat := 70
abbrev c_Reader_layer : Nat := 71
abbrev c_Reader_operand : Nat := 72
abbrev c_Reader_digits : Nat := 73
abbrev c_Reader_sign : Nat := 74
abbrev c_Reader_makes : Nat := 75
abbrev c_Reader_isDigit : Nat := 76
abbrev c_Reader_isName : Nat := 77
abbrev c_Reader_rankOf : Nat := 78
abbrev c_Seen_firstUnlike : Nat := 79
abbrev c_Seen_goesOnUnlike : Nat := 80
abbrev c_Seen_setsThatFit : Nat := 81
abbrev c_Seen_leastHeeled : Nat := 82
abbrev c_Seen_drawnDays : Nat := 83
abbrev c_Shelves_isShelf : Nat := 84
abbrev c_Shelves_isBare : Nat := 85
abbrev c_Shelves_bodyOn : Nat := 86
abbrev c_Shelves_holdsRow : Nat := 87
abbrev c_Shelves_holdsLikeRows : Nat := 88
abbrev c_Shelves_sizeOf : Nat := 89
abbrev c_Shelves_isPlace : Nat := 90
abbrev c_Shelves_isSpan : Nat := 91
abbrev c_Shelves_holds : Nat := 92
abbrev c_Shelves_lays : Nat := 93
abbrev c_Shelves_cell : Nat := 94
abbrev c_Shelves_sets : Nat := 95
abbrev c_Shelves_narrowed : Nat := 96
abbrev c_Shelves_moves : Nat := 97
abbrev c_Wishes_sentAway : Nat := 98
abbrev c_Wishes_isBetter : Nat := 99
abbrev c_Wishes_boysFor : Nat := 100
abbrev c_Wishes_heightOfBoys : Nat := 101
abbrev c_Wishes_heelsFor : Nat := 102
abbrev c_Wishes_comesBest : Nat := 103
abbrev c_Wishes_allChoose : Nat := 104
abbrev c_Wishes_earliestHeels : Nat := 105
abbrev c_Wishes_betterGate : Nat := 106
abbrev c_Wishes_fullestSet : Nat := 107
abbrev c_Wishes_placeForAll : Nat := 108
abbrev c_Mo_person : Nat := 109
abbrev c_Mo_people : Nat := 110
abbrev c_Mo_joinFromRow : Nat := 111
abbrev c_Mo_mend : Nat := 112
abbrev c_Mo_of : Nat := 113
abbrev c_Mo_feed : Nat := 114
abbrev c_Mo_law : Nat := 115
abbrev c_Mo_tall : Nat := 116
abbrev c_Mo_enters : Nat := 117
abbrev c_Mo_stroke : Nat := 118
abbrev c_Mo_day : Nat := 119
abbrev c_Mo_mean : Nat := 120
abbrev c_Mo_sharedDivisor : Nat := 121
abbrev c_Mo_sent : Nat := 122
abbrev c_Mo_brought : Nat := 123
abbrev c_Mo_heels : Nat := 124
abbrev c_Mo_later : Nat := 125
abbrev c_Mo_allWear : Nat := 126
abbrev c_Mo_gates : Nat := 127
abbrev c_Mo_where : Nat := 128
abbrev c_Mo_bestSet : Nat := 129
abbrev c_Mo_atLast : Nat := 130
abbrev c_Mo_rule : Nat := 131
abbrev c_Mo_judge : Nat := 132
abbrev c_Mo_with : Nat := 133
abbrev c_Mo_heeled : Nat := 134
abbrev c_Mo_drawn : Nat := 135
abbrev c_Mo_refusedAsSeen : Nat := 136
abbrev c_Mo_strike : Nat := 137
abbrev c_Mo_take : Nat := 138
abbrev c_Mo_dawn : Nat := 139
abbrev c_Mo_led : Nat := 140
abbrev c_Mo_image : Nat := 141
abbrev c_Mo_back : Nat := 142
abbrev c_Mo_undo : Nat := 143
abbrev c_Mo_redo : Nat := 144
abbrev c_Mo_body : Nat := 145
abbrev c_Mo_act : Nat := 146
abbrev c_Mo_trace : Nat := 147
abbrev c_Mo_keep : Nat := 148
abbrev c_Mo_row : Nat := 149
abbrev c_Mo_put : Nat := 150
abbrev c_Mo_element : Nat := 151
abbrev c_Mo_shift : Nat := 152
abbrev c_Mo_taken : Nat := 153
abbrev c_Mo_count : Nat := 154
abbrev c_Mo_refusedAsRow : Nat := 155
abbrev c_Mo_isOneOrAll : Nat := 156
abbrev c_Mo_isDay : Nat := 157
abbrev c_Mo_isEither : Nat := 158
abbrev c_Md_within : Nat := 159
abbrev c_Md_isIn : Nat := 160
abbrev c_Md_bitsOf : Nat := 161
abbrev c_Md_becomes : Nat := 162
abbrev c_Md_undo : Nat := 163
abbrev c_Md_redo : Nat := 164
abbrev c_Md_isOne : Nat := 165
abbrev c_Md_mayCome : Nat := 166
abbrev c_Md_puts : Nat := 167
abbrev c_Md_person : Nat := 168
abbrev c_Md_people : Nat := 169
abbrev c_Md_mayBecome : Nat := 170
abbrev c_Md_mend : Nat := 171
abbrev c_Md_waitsNow : Nat := 172
abbrev c_Md_of : Nat := 173
abbrev c_Md_feed : Nat := 174
abbrev c_Md_byteAt : Nat := 175
abbrev c_Md_wrong : Nat := 176
abbrev c_Md_takes : Nat := 177
abbrev c_Md_either : Nat := 178
abbrev c_Md_both : Nat := 179
abbrev c_Md_compared : Nat := 180
abbrev c_Md_sums : Nat := 181
abbrev c_Md_product : Nat := 182
abbrev c_Md_nameOf : Nat := 183
abbrev c_Md_one : Nat := 184
abbrev c_Md_workOut : Nat := 185
abbrev c_Md_law : Nat := 186
abbrev c_Md_tallAt : Nat := 187
abbrev c_Md_tall : Nat := 188
abbrev c_Md_begins1 : Nat := 189
abbrev c_Md_asksWaiting : Nat := 190
abbrev c_Md_atPlace : Nat := 191
abbrev c_Md_strokes : Nat := 192
abbrev c_Md_goes : Nat := 193
abbrev c_Md_isN : Nat := 194
abbrev c_Md_inMany : Nat := 195
abbrev c_Md_enters : Nat := 196
abbrev c_Md_stroke : Nat := 197
abbrev c_Md_day : Nat := 198
abbrev c_Md_commonOf : Nat := 199
abbrev c_Md_partOf : Nat := 200
abbrev c_Md_mean : Nat := 201
abbrev c_Md_priceOf : Nat := 202
abbrev c_Md_sent : Nat := 203
abbrev c_Md_brought : Nat := 204
abbrev c_Md_wearing : Nat := 205
abbrev c_Md_heels : Nat := 206
abbrev c_Md_later : Nat := 207
abbrev c_Md_chooses : Nat := 208
abbrev c_Md_allWear : Nat := 209
abbrev c_Md_gates : Nat := 210
abbrev c_Md_where : Nat := 211
abbrev c_Md_bestSet : Nat := 212
abbrev c_Md_atLast : Nat := 213
abbrev c_Md_rule : Nat := 214
abbrev c_Md_bytesIs : Nat := 215
abbrev c_Md_firstFalse : Nat := 216
abbrev c_Md_judge : Nat := 217
abbrev c_Md_with : Nat := 218
abbrev c_Md_wears : Nat := 219
abbrev c_Md_heeled : Nat := 220
abbrev c_Md_drawn : Nat := 221
abbrev c_Md_waitMany : Nat := 222
abbrev c_Md_insideMany : Nat := 223
abbrev c_Md_strike : Nat := 224
abbrev c_Md_take : Nat := 225
abbrev c_Md_dawn : Nat := 226
abbrev c_Md_led : Nat := 227
abbrev c_Md_image : Nat := 228
abbrev c_Md_back : Nat := 229
abbrev c_Md_isBody : Nat := 230
abbrev c_Md_kindOf : Nat := 231
abbrev c_Md_body : Nat := 232
abbrev c_Md_above : Nat := 233
abbrev c_Md_begins : Nat := 234
abbrev c_Md_waitsAs : Nat := 235
abbrev c_Md_countsAs : Nat := 236
abbrev c_Md_opensAs : Nat := 237
abbrev c_Md_tellsAs : Nat := 238
abbrev c_Md_act : Nat := 239
abbrev c_Md_trace : Nat := 240
abbrev c_Md_isShelf : Nat := 241
abbrev c_Md_keep : Nat := 242
abbrev c_Md_row : Nat := 243
abbrev c_Md_refusal : Nat := 244
abbrev c_Md_asSort : Nat := 245
abbrev c_Md_put : Nat := 246
abbrev c_Md_element : Nat := 247
abbrev c_Md_shift : Nat := 248
abbrev c_Md_taken : Nat := 249
abbrev c_Md_count : Nat := 250
abbrev c_J_bitCount : Nat := 251
abbrev c_J_rangeCheck : Nat := 252
abbrev c_J_fillL : Nat := 253
abbrev c_J_fillI : Nat := 254
theorem sh_0 : gSh[0]? = some (.inl (11, [some 1, some 4, some 8, some 15, some 20, some 26, some 27, some 32, some 37, some 21])) := rfl
theorem sh_1 : gSh[1]? = some (.inl (2, [some 2, none, some 3, none])) := rfl
theorem sh_2 : gSh[2]? = some (.inr (false, 75)) := rfl
theorem sh_3 : gSh[3]? = some (.inr (false, 100)) := rfl
theorem sh_4 : gSh[4]? = some (.inl (5, [some 5, some 6, none, some 7])) := rfl
theorem sh_5 : gSh[5]? = some (.inr (false, 121)) := rfl
theorem sh_6 : gSh[6]? = some (.inr (false, 121)) := rfl
theorem sh_7 : gSh[7]? = some (.inr (false, 61)) := rfl
theorem sh_8 : gSh[8]? = some (.inl (7, [some 9, none, none, some 10, some 11, none])) := rfl
theorem sh_9 : gSh[9]? = some (.inr (false, 120)) := rfl
theorem sh_10 : gSh[10]? = some (.inr (false, 121)) := rfl
theorem sh_11 : gSh[11]? = some (.inr (false, 121)) := rfl
theorem sh_12 : gSh[12]? = some (.inl (6, [some 4, some 13, some 14])) := rfl
theorem sh_13 : gSh[13]? = some (.inr (false, 15)) := rfl
theorem sh_14 : gSh[14]? = some (.inr (false, 15)) := rfl
theorem sh_15 : gSh[15]? = some (.inl (3, [some 12, some 16, some 19, none, none, none, none])) := rfl
theorem sh_16 : gSh[16]? = some (.inl (2, [some 17, none, some 18, none])) := rfl
theorem sh_17 : gSh[17]? = some (.inr (false, 75)) := rfl
theorem sh_18 : gSh[18]? = some (.inr (false, 100)) := rfl
theorem sh_19 : gSh[19]? = some (.inr (false, 15)) := rfl
theorem sh_20 : gSh[20]? = some (.inl (10, [some 1, some 15, some 12])) := rfl
theorem sh_21 : gSh[21]? = some (.inl (9, [some 22, some 23, some 24, some 25])) := rfl
theorem sh_22 : gSh[22]? = some (.inr (false, 6)) := rfl
theorem sh_23 : gSh[23]? = some (.inr (false, 6)) := rfl
theorem sh_24 : gSh[24]? = some (.inr (false, 6)) := rfl
theorem sh_25 : gSh[25]? = some (.inr (true, 360)) := rfl
theorem sh_26 : gSh[26]? = some (.inl (8, [some 1, some 15, some 21])) := rfl
theorem sh_27 : gSh[27]? = some (.inl (4, [some 1, some 12, some 28, some 29, some 30, some 31, none])) := rfl
theorem sh_28 : gSh[28]? = some (.inr (false, 8)) := rfl
theorem sh_29 : gSh[29]? = some (.inr (false, 12)) := rfl
theorem sh_30 : gSh[30]? = some (.inr (false, 8)) := rfl
theorem sh_31 : gSh[31]? = some (.inr (false, 12)) := rfl
theorem sh_32 : gSh[32]? = some (.inl (1, [some 1, some 33, some 34, some 35, some 36, none, none])) := rfl
theorem sh_33 : gSh[33]? = some (.inr (false, 40)) := rfl
theorem sh_34 : gSh[34]? = some (.inr (false, 40)) := rfl
theorem sh_35 : gSh[35]? = some (.inr (false, 40)) := rfl
theorem sh_36 : gSh[36]? = some (.inr (false, 40)) := rfl
theorem sh_37 : gSh[37]? = some (.inl (0, [some 38, none, some 39, none, none, none])) := rfl
theorem sh_38 : gSh[38]? = some (.inr (false, 50)) := rfl
theorem sh_39 : gSh[39]? = some (.inr (false, 24)) := rfl
theorem sh_40 : gSh[40]? = some (.inl (12, [some 41, some 42, some 43, some 44, none, none, none, none, some 45, none, some 46, none, some 47, none, none, none, none, none, none, some 48, none, none, none, none, some 49, some 50, some 51, none, none, some 52, some 53, none, none, none, none, none, none, none, none, some 54, none, some 55, some 56, none, none, none, some 57, some 58, some 59, some 60])) := rfl
theorem sh_41 : gSh[41]? = some (.inr (false, 75)) := rfl
theorem sh_42 : gSh[42]? = some (.inr (false, 40)) := rfl
theorem sh_43 : gSh[43]? = some (.inr (false, 40)) := rfl
theorem sh_44 : gSh[44]? = some (.inr (false, 40)) := rfl
theorem sh_45 : gSh[45]? = some (.inr (false, 12)) := rfl
theorem sh_46 : gSh[46]? = some (.inr (false, 120)) := rfl
theorem sh_47 : gSh[47]? = some (.inr (false, 120)) := rfl
theorem sh_48 : gSh[48]? = some (.inr (false, 6)) := rfl
theorem sh_49 : gSh[49]? = some (.inr (false, 15)) := rfl
theorem sh_50 : gSh[50]? = some (.inr (false, 15)) := rfl
theorem sh_51 : gSh[51]? = some (.inr (false, 15)) := rfl
theorem sh_52 : gSh[52]? = some (.inr (false, 12)) := rfl
theorem sh_53 : gSh[53]? = some (.inr (false, 12)) := rfl
theorem sh_54 : gSh[54]? = some (.inr (false, 18)) := rfl
theorem sh_55 : gSh[55]? = some (.inr (false, 50)) := rfl
theorem sh_56 : gSh[56]? = some (.inr (false, 24)) := rfl
theorem sh_57 : gSh[57]? = some (.inr (false, 6)) := rfl
theorem sh_58 : gSh[58]? = some (.inr (false, 6)) := rfl
theorem sh_59 : gSh[59]? = some (.inr (true, 360)) := rfl
theorem sh_60 : gSh[60]? = some (.inr (true, 60)) := rfl
def isCr (cr nu th : Nat) : Prop := gSh[cr]? = some (.inl (2, [some nu, none, some th, none])) ∧ gSh[nu]? = some (.inr (false, 75)) ∧ gSh[th]? = some (.inr (false, 100))
theorem isCr1 : isCr 1 2 3 := ⟨rfl, rfl, rfl⟩
theorem isCr2 : isCr 16 17 18 := ⟨rfl, rfl, rfl⟩
theorem st_1000 {L : Nat} {xs : Nat → Int32} : (gG L xs).2.1 1000 = some (5, sLEAST) := rfl
theorem st_1001 {L : Nat} {xs : Nat → Int32} : (gG L xs).2.1 1001 = some (5, sGREATEST) := rfl
theorem st_1002 {L : Nat} {xs : Nat → Int32} : (gG L xs).2.1 1002 = some (8, sABOVE) := rfl
theorem st_1003 {L : Nat} {xs : Nat → Int32} : (gG L xs).2.1 1003 = some (32, sBODY) := rfl
theorem st_1004 {L : Nat} {xs : Nat → Int32} : (gG L xs).2.1 1004 = some (L, xs) := rfl
theorem f_Acts_11 : cx_Acts.1.lookup 11 = some (0, 0, false) := rfl
theorem f_Acts_15 : cx_Acts.1.lookup 15 = some (0, 1, false) := rfl
theorem f_Acts_19 : cx_Acts.1.lookup 19 = some (0, 2, false) := rfl
theorem f_Acts_22 : cx_Acts.1.lookup 22 = some (0, 3, false) := rfl
theorem f_Acts_25 : cx_Acts.1.lookup 25 = some (0, 4, false) := rfl
theorem f_Acts_28 : cx_Acts.1.lookup 28 = some (0, 5, false) := rfl
theorem g_Acts_35 : cx_Acts.2.2.2.2.lookup 35 = some 1002 := rfl
theorem g_Acts_45 : cx_Acts.2.2.2.2.lookup 45 = some 1003 := rfl
theorem q_Acts_31 : cx_Acts.2.1.lookup 31 = some (none, 0, 1) := rfl
theorem q_Acts_38 : cx_Acts.2.1.lookup 38 = some (some 0, 3, 2) := rfl
theorem q_Acts_41 : cx_Acts.2.1.lookup 41 = some (some 0, 11, 5) := rfl
theorem q_Acts_48 : cx_Acts.2.1.lookup 48 = some (none, 9, 2) := rfl
theorem q_Acts_52 : cx_Acts.2.1.lookup 52 = some (some 0, 10, 2) := rfl
theorem f_Changes_9 : cx_Changes.1.lookup 9 = some (1, 1, false) := rfl
theorem f_Changes_13 : cx_Changes.1.lookup 13 = some (1, 2, false) := rfl
theorem f_Changes_16 : cx_Changes.1.lookup 16 = some (1, 3, false) := rfl
theorem f_Changes_19 : cx_Changes.1.lookup 19 = some (1, 4, false) := rfl
theorem f_Changes_22 : cx_Changes.1.lookup 22 = some (1, 5, false) := rfl
theorem f_Changes_26 : cx_Changes.1.lookup 26 = some (1, 6, false) := rfl
theorem f_Changes_29 : cx_Changes.1.lookup 29 = some (1, 0, false) := rfl
theorem q_Changes_33 : cx_Changes.2.1.lookup 33 = some (some 1, 15, 1) := rfl
theorem q_Changes_36 : cx_Changes.2.1.lookup 36 = some (some 2, 23, 3) := rfl
theorem q_Changes_42 : cx_Changes.2.1.lookup 42 = some (some 2, 24, 4) := rfl
theorem q_Changes_46 : cx_Changes.2.1.lookup 46 = some (none, 99999, 5) := rfl
theorem f_Crowd_11 : cx_Crowd.1.lookup 11 = some (2, 0, false) := rfl
theorem f_Crowd_15 : cx_Crowd.1.lookup 15 = some (2, 1, false) := rfl
theorem f_Crowd_19 : cx_Crowd.1.lookup 19 = some (2, 2, false) := rfl
theorem f_Crowd_22 : cx_Crowd.1.lookup 22 = some (2, 3, true) := rfl
theorem g_Crowd_30 : cx_Crowd.2.2.2.2.lookup 30 = some 1000 := rfl
theorem g_Crowd_33 : cx_Crowd.2.2.2.2.lookup 33 = some 1001 := rfl
theorem q_Crowd_26 : cx_Crowd.2.1.lookup 26 = some (none, 18, 1) := rfl
theorem q_Crowd_36 : cx_Crowd.2.1.lookup 36 = some (none, 99999, 5) := rfl
theorem q_Crowd_42 : cx_Crowd.2.1.lookup 42 = some (some 2, 29, 2) := rfl
theorem q_Crowd_46 : cx_Crowd.2.1.lookup 46 = some (none, 254, 2) := rfl
theorem f_Day_12 : cx_Day.1.lookup 12 = some (3, 1, false) := rfl
theorem f_Day_18 : cx_Day.1.lookup 18 = some (3, 2, false) := rfl
theorem f_Day_22 : cx_Day.1.lookup 22 = some (3, 3, false) := rfl
theorem f_Day_26 : cx_Day.1.lookup 26 = some (3, 4, false) := rfl
theorem f_Day_29 : cx_Day.1.lookup 29 = some (3, 5, false) := rfl
theorem f_Day_32 : cx_Day.1.lookup 32 = some (3, 6, false) := rfl
theorem f_Day_35 : cx_Day.1.lookup 35 = some (3, 0, false) := rfl
theorem q_Day_39 : cx_Day.2.1.lookup 39 = some (some 2, 27, 2) := rfl
theorem q_Day_43 : cx_Day.2.1.lookup 43 = some (some 2, 22, 1) := rfl
theorem q_Day_47 : cx_Day.2.1.lookup 47 = some (some 3, 34, 2) := rfl
theorem q_Day_51 : cx_Day.2.1.lookup 51 = some (none, 254, 2) := rfl
theorem q_Day_57 : cx_Day.2.1.lookup 57 = some (some 2, 24, 4) := rfl
theorem q_Day_61 : cx_Day.2.1.lookup 61 = some (some 2, 28, 3) := rfl
theorem q_Day_65 : cx_Day.2.1.lookup 65 = some (none, 251, 1) := rfl
theorem q_Day_71 : cx_Day.2.1.lookup 71 = some (none, 99998, 2) := rfl
theorem q_Day_76 : cx_Day.2.1.lookup 76 = some (some 6, 63, 5) := rfl
theorem q_Day_82 : cx_Day.2.1.lookup 82 = some (some 2, 21, 2) := rfl
theorem q_Day_86 : cx_Day.2.1.lookup 86 = some (some 3, 36, 4) := rfl
theorem q_Day_90 : cx_Day.2.1.lookup 90 = some (some 2, 23, 3) := rfl
theorem q_Day_93 : cx_Day.2.1.lookup 93 = some (none, 99997, 2) := rfl
theorem q_Day_96 : cx_Day.2.1.lookup 96 = some (some 2, 20, 1) := rfl
theorem f_Deed_11 : cx_Deed.1.lookup 11 = some (4, 2, false) := rfl
theorem f_Deed_17 : cx_Deed.1.lookup 17 = some (4, 3, false) := rfl
theorem f_Deed_20 : cx_Deed.1.lookup 20 = some (4, 4, false) := rfl
theorem f_Deed_23 : cx_Deed.1.lookup 23 = some (4, 5, false) := rfl
theorem f_Deed_26 : cx_Deed.1.lookup 26 = some (4, 6, true) := rfl
theorem f_Deed_30 : cx_Deed.1.lookup 30 = some (4, 0, false) := rfl
theorem f_Deed_34 : cx_Deed.1.lookup 34 = some (4, 1, false) := rfl
theorem q_Deed_38 : cx_Deed.2.1.lookup 38 = some (none, 254, 2) := rfl
theorem q_Deed_44 : cx_Deed.2.1.lookup 44 = some (some 2, 22, 1) := rfl
theorem q_Deed_48 : cx_Deed.2.1.lookup 48 = some (some 2, 28, 3) := rfl
theorem q_Deed_52 : cx_Deed.2.1.lookup 52 = some (none, 251, 1) := rfl
theorem q_Deed_58 : cx_Deed.2.1.lookup 58 = some (some 4, 51, 1) := rfl
theorem q_Deed_63 : cx_Deed.2.1.lookup 63 = some (some 6, 63, 5) := rfl
theorem q_Deed_67 : cx_Deed.2.1.lookup 67 = some (none, 99998, 2) := rfl
theorem q_Deed_72 : cx_Deed.2.1.lookup 72 = some (some 4, 52, 1) := rfl
theorem q_Deed_75 : cx_Deed.2.1.lookup 75 = some (none, 99999, 5) := rfl
theorem f_Law_9 : cx_Law.1.lookup 9 = some (5, 0, false) := rfl
theorem f_Law_15 : cx_Law.1.lookup 15 = some (5, 1, false) := rfl
theorem f_Law_18 : cx_Law.1.lookup 18 = some (5, 2, false) := rfl
theorem f_Law_22 : cx_Law.1.lookup 22 = some (5, 3, false) := rfl
theorem q_Law_25 : cx_Law.2.1.lookup 25 = some (some 7, 69, 3) := rfl
theorem q_Law_31 : cx_Law.2.1.lookup 31 = some (some 2, 23, 3) := rfl
theorem q_Law_35 : cx_Law.2.1.lookup 35 = some (none, 99998, 2) := rfl
theorem q_Law_40 : cx_Law.2.1.lookup 40 = some (none, 62, 3) := rfl
theorem f_Picker_11 : cx_Picker.1.lookup 11 = some (6, 1, false) := rfl
theorem f_Picker_17 : cx_Picker.1.lookup 17 = some (6, 2, false) := rfl
theorem f_Picker_20 : cx_Picker.1.lookup 20 = some (6, 0, false) := rfl
theorem q_Picker_24 : cx_Picker.2.1.lookup 24 = some (none, 251, 1) := rfl
theorem q_Picker_30 : cx_Picker.2.1.lookup 30 = some (some 2, 20, 1) := rfl
theorem q_Picker_34 : cx_Picker.2.1.lookup 34 = some (some 5, 61, 5) := rfl
theorem f_Reader_9 : cx_Reader.1.lookup 9 = some (7, 0, false) := rfl
theorem f_Reader_13 : cx_Reader.1.lookup 13 = some (7, 1, false) := rfl
theorem f_Reader_17 : cx_Reader.1.lookup 17 = some (7, 2, false) := rfl
theorem f_Reader_20 : cx_Reader.1.lookup 20 = some (7, 3, false) := rfl
theorem f_Reader_23 : cx_Reader.1.lookup 23 = some (7, 4, false) := rfl
theorem f_Reader_26 : cx_Reader.1.lookup 26 = some (7, 5, false) := rfl
theorem q_Reader_29 : cx_Reader.2.1.lookup 29 = some (some 7, 70, 1) := rfl
theorem q_Reader_33 : cx_Reader.2.1.lookup 33 = some (some 7, 74, 1) := rfl
theorem q_Reader_37 : cx_Reader.2.1.lookup 37 = some (none, 99997, 2) := rfl
theorem q_Reader_43 : cx_Reader.2.1.lookup 43 = some (none, 99999, 5) := rfl
theorem q_Reader_49 : cx_Reader.2.1.lookup 49 = some (some 7, 71, 3) := rfl
theorem q_Reader_53 : cx_Reader.2.1.lookup 53 = some (some 7, 75, 3) := rfl
theorem q_Reader_57 : cx_Reader.2.1.lookup 57 = some (some 7, 72, 2) := rfl
theorem q_Reader_61 : cx_Reader.2.1.lookup 61 = some (none, 78, 1) := rfl
theorem q_Reader_65 : cx_Reader.2.1.lookup 65 = some (none, 76, 1) := rfl
theorem q_Reader_68 : cx_Reader.2.1.lookup 68 = some (some 7, 73, 1) := rfl
theorem q_Reader_71 : cx_Reader.2.1.lookup 71 = some (none, 77, 1) := rfl
theorem f_Seen_9 : cx_Seen.1.lookup 9 = some (8, 0, false) := rfl
theorem f_Seen_15 : cx_Seen.1.lookup 15 = some (8, 1, false) := rfl
theorem f_Seen_19 : cx_Seen.1.lookup 19 = some (8, 2, false) := rfl
theorem q_Seen_23 : cx_Seen.2.1.lookup 23 = some (some 3, 33, 2) := rfl
theorem q_Seen_29 : cx_Seen.2.1.lookup 29 = some (some 8, 80, 2) := rfl
theorem q_Seen_33 : cx_Seen.2.1.lookup 33 = some (some 9, 89, 2) := rfl
theorem q_Seen_38 : cx_Seen.2.1.lookup 38 = some (some 3, 37, 2) := rfl
theorem q_Seen_41 : cx_Seen.2.1.lookup 41 = some (some 9, 94, 3) := rfl
theorem q_Seen_45 : cx_Seen.2.1.lookup 45 = some (some 2, 22, 1) := rfl
theorem q_Seen_51 : cx_Seen.2.1.lookup 51 = some (some 3, 34, 2) := rfl
theorem q_Seen_55 : cx_Seen.2.1.lookup 55 = some (some 2, 20, 1) := rfl
theorem q_Seen_58 : cx_Seen.2.1.lookup 58 = some (some 2, 23, 3) := rfl
theorem q_Seen_62 : cx_Seen.2.1.lookup 62 = some (none, 99997, 2) := rfl
theorem q_Seen_67 : cx_Seen.2.1.lookup 67 = some (some 3, 32, 1) := rfl
theorem q_Seen_71 : cx_Seen.2.1.lookup 71 = some (some 2, 24, 4) := rfl
theorem q_Seen_78 : cx_Seen.2.1.lookup 78 = some (some 3, 38, 3) := rfl
theorem q_Seen_81 : cx_Seen.2.1.lookup 81 = some (some 3, 43, 2) := rfl
theorem kd_Seen_75 : cx_Seen.2.2.1.lookup 75 = some (1103515245) := rfl
theorem f_Shelves_9 : cx_Shelves.1.lookup 9 = some (9, 0, false) := rfl
theorem f_Shelves_13 : cx_Shelves.1.lookup 13 = some (9, 1, false) := rfl
theorem f_Shelves_16 : cx_Shelves.1.lookup 16 = some (9, 2, false) := rfl
theorem f_Shelves_19 : cx_Shelves.1.lookup 19 = some (9, 3, false) := rfl
theorem q_Shelves_23 : cx_Shelves.2.1.lookup 23 = some (none, 254, 2) := rfl
theorem q_Shelves_29 : cx_Shelves.2.1.lookup 29 = some (none, 84, 1) := rfl
theorem q_Shelves_33 : cx_Shelves.2.1.lookup 33 = some (some 9, 89, 2) := rfl
theorem q_Shelves_37 : cx_Shelves.2.1.lookup 37 = some (none, 253, 4) := rfl
theorem q_Shelves_40 : cx_Shelves.2.1.lookup 40 = some (some 9, 90, 3) := rfl
theorem q_Shelves_44 : cx_Shelves.2.1.lookup 44 = some (none, 96, 2) := rfl
theorem q_Shelves_48 : cx_Shelves.2.1.lookup 48 = some (some 9, 91, 4) := rfl
theorem q_Shelves_52 : cx_Shelves.2.1.lookup 52 = some (none, 99999, 5) := rfl
theorem f_Wishes_9 : cx_Wishes.1.lookup 9 = some (10, 0, false) := rfl
theorem f_Wishes_15 : cx_Wishes.1.lookup 15 = some (10, 1, false) := rfl
theorem f_Wishes_19 : cx_Wishes.1.lookup 19 = some (10, 2, false) := rfl
theorem q_Wishes_23 : cx_Wishes.2.1.lookup 23 = some (some 3, 33, 2) := rfl
theorem q_Wishes_29 : cx_Wishes.2.1.lookup 29 = some (some 2, 30, 2) := rfl
theorem q_Wishes_35 : cx_Wishes.2.1.lookup 35 = some (some 2, 31, 2) := rfl
theorem q_Wishes_38 : cx_Wishes.2.1.lookup 38 = some (none, 99, 4) := rfl
theorem q_Wishes_42 : cx_Wishes.2.1.lookup 42 = some (some 2, 22, 1) := rfl
theorem q_Wishes_46 : cx_Wishes.2.1.lookup 46 = some (some 3, 34, 2) := rfl
theorem q_Wishes_50 : cx_Wishes.2.1.lookup 50 = some (some 3, 39, 3) := rfl
theorem q_Wishes_54 : cx_Wishes.2.1.lookup 54 = some (none, 251, 1) := rfl
theorem q_Wishes_61 : cx_Wishes.2.1.lookup 61 = some (some 3, 38, 3) := rfl
theorem q_Wishes_64 : cx_Wishes.2.1.lookup 64 = some (some 3, 43, 2) := rfl
theorem q_Wishes_67 : cx_Wishes.2.1.lookup 67 = some (some 10, 101, 4) := rfl
theorem q_Wishes_71 : cx_Wishes.2.1.lookup 71 = some (some 3, 32, 1) := rfl
theorem q_Wishes_75 : cx_Wishes.2.1.lookup 75 = some (some 2, 20, 1) := rfl
theorem q_Wishes_78 : cx_Wishes.2.1.lookup 78 = some (some 2, 26, 2) := rfl
theorem q_Wishes_81 : cx_Wishes.2.1.lookup 81 = some (some 2, 25, 4) := rfl
theorem q_Wishes_84 : cx_Wishes.2.1.lookup 84 = some (some 3, 42, 1) := rfl
theorem q_Wishes_87 : cx_Wishes.2.1.lookup 87 = some (some 2, 28, 3) := rfl
theorem q_Wishes_90 : cx_Wishes.2.1.lookup 90 = some (some 2, 24, 4) := rfl
theorem q_Wishes_94 : cx_Wishes.2.1.lookup 94 = some (some 6, 63, 5) := rfl
theorem q_Wishes_98 : cx_Wishes.2.1.lookup 98 = some (some 3, 35, 4) := rfl
theorem q_Wishes_101 : cx_Wishes.2.1.lookup 101 = some (none, 99997, 2) := rfl
theorem q_Wishes_106 : cx_Wishes.2.1.lookup 106 = some (some 2, 23, 3) := rfl
theorem q_Wishes_109 : cx_Wishes.2.1.lookup 109 = some (some 10, 105, 2) := rfl
theorem q_Wishes_112 : cx_Wishes.2.1.lookup 112 = some (some 3, 40, 3) := rfl
theorem q_Wishes_115 : cx_Wishes.2.1.lookup 115 = some (some 3, 41, 1) := rfl
theorem f_Mo_10 : cx_Mo.1.lookup 10 = some (11, 0, false) := rfl
theorem f_Mo_19 : cx_Mo.1.lookup 19 = some (11, 1, false) := rfl
theorem f_Mo_26 : cx_Mo.1.lookup 26 = some (11, 2, false) := rfl
theorem f_Mo_40 : cx_Mo.1.lookup 40 = some (11, 3, false) := rfl
theorem f_Mo_49 : cx_Mo.1.lookup 49 = some (11, 4, false) := rfl
theorem f_Mo_56 : cx_Mo.1.lookup 56 = some (11, 9, false) := rfl
theorem f_Mo_65 : cx_Mo.1.lookup 65 = some (11, 5, false) := rfl
theorem f_Mo_74 : cx_Mo.1.lookup 74 = some (11, 6, false) := rfl
theorem f_Mo_83 : cx_Mo.1.lookup 83 = some (11, 7, false) := rfl
theorem f_Mo_90 : cx_Mo.1.lookup 90 = some (11, 8, false) := rfl
theorem q_Mo_94 : cx_Mo.2.1.lookup 94 = some (none, 19, 2) := rfl
theorem q_Mo_98 : cx_Mo.2.1.lookup 98 = some (some 2, 20, 1) := rfl
theorem q_Mo_102 : cx_Mo.2.1.lookup 102 = some (some 2, 25, 4) := rfl
theorem q_Mo_106 : cx_Mo.2.1.lookup 106 = some (none, 84, 1) := rfl
theorem q_Mo_110 : cx_Mo.2.1.lookup 110 = some (some 9, 85, 2) := rfl
theorem q_Mo_113 : cx_Mo.2.1.lookup 113 = some (some 9, 87, 3) := rfl
theorem q_Mo_116 : cx_Mo.2.1.lookup 116 = some (some 11, 111, 4) := rfl
theorem q_Mo_119 : cx_Mo.2.1.lookup 119 = some (some 9, 90, 3) := rfl
theorem q_Mo_122 : cx_Mo.2.1.lookup 122 = some (some 9, 94, 3) := rfl
theorem q_Mo_126 : cx_Mo.2.1.lookup 126 = some (some 2, 21, 2) := rfl
theorem q_Mo_129 : cx_Mo.2.1.lookup 129 = some (some 2, 23, 3) := rfl
theorem q_Mo_133 : cx_Mo.2.1.lookup 133 = some (some 1, 14, 4) := rfl
theorem q_Mo_137 : cx_Mo.2.1.lookup 137 = some (none, 18, 1) := rfl
theorem q_Mo_140 : cx_Mo.2.1.lookup 140 = some (some 4, 51, 1) := rfl
theorem q_Mo_143 : cx_Mo.2.1.lookup 143 = some (some 4, 53, 2) := rfl
theorem q_Mo_147 : cx_Mo.2.1.lookup 147 = some (some 7, 64, 1) := rfl
theorem q_Mo_151 : cx_Mo.2.1.lookup 151 = some (some 7, 66, 2) := rfl
theorem q_Mo_154 : cx_Mo.2.1.lookup 154 = some (some 7, 68, 1) := rfl
theorem q_Mo_157 : cx_Mo.2.1.lookup 157 = some (some 5, 60, 2) := rfl
theorem q_Mo_161 : cx_Mo.2.1.lookup 161 = some (some 7, 67, 1) := rfl
theorem q_Mo_165 : cx_Mo.2.1.lookup 165 = some (some 5, 61, 5) := rfl
theorem q_Mo_169 : cx_Mo.2.1.lookup 169 = some (none, 157, 1) := rfl
theorem q_Mo_172 : cx_Mo.2.1.lookup 172 = some (some 3, 33, 2) := rfl
theorem q_Mo_175 : cx_Mo.2.1.lookup 175 = some (some 3, 39, 3) := rfl
theorem q_Mo_178 : cx_Mo.2.1.lookup 178 = some (none, 158, 1) := rfl
theorem q_Mo_181 : cx_Mo.2.1.lookup 181 = some (some 3, 38, 3) := rfl
theorem q_Mo_184 : cx_Mo.2.1.lookup 184 = some (some 3, 37, 2) := rfl
theorem q_Mo_187 : cx_Mo.2.1.lookup 187 = some (some 3, 44, 1) := rfl
theorem q_Mo_190 : cx_Mo.2.1.lookup 190 = some (some 3, 46, 2) := rfl
theorem q_Mo_193 : cx_Mo.2.1.lookup 193 = some (some 3, 45, 1) := rfl
theorem q_Mo_202 : cx_Mo.2.1.lookup 202 = some (some 3, 47, 1) := rfl
theorem q_Mo_205 : cx_Mo.2.1.lookup 205 = some (some 3, 48, 1) := rfl
theorem q_Mo_208 : cx_Mo.2.1.lookup 208 = some (none, 121, 2) := rfl
theorem q_Mo_211 : cx_Mo.2.1.lookup 211 = some (some 10, 98, 5) := rfl
theorem q_Mo_215 : cx_Mo.2.1.lookup 215 = some (some 10, 100, 4) := rfl
theorem q_Mo_218 : cx_Mo.2.1.lookup 218 = some (some 10, 102, 4) := rfl
theorem q_Mo_221 : cx_Mo.2.1.lookup 221 = some (some 10, 103, 2) := rfl
theorem q_Mo_224 : cx_Mo.2.1.lookup 224 = some (some 11, 156, 2) := rfl
theorem q_Mo_227 : cx_Mo.2.1.lookup 227 = some (some 10, 104, 2) := rfl
theorem q_Mo_230 : cx_Mo.2.1.lookup 230 = some (some 2, 22, 1) := rfl
theorem q_Mo_233 : cx_Mo.2.1.lookup 233 = some (some 3, 40, 3) := rfl
theorem q_Mo_236 : cx_Mo.2.1.lookup 236 = some (some 3, 43, 2) := rfl
theorem q_Mo_237 : cx_Mo.2.1.lookup 237 = some (some 10, 106, 2) := rfl
theorem q_Mo_240 : cx_Mo.2.1.lookup 240 = some (some 10, 107, 3) := rfl
theorem q_Mo_243 : cx_Mo.2.1.lookup 243 = some (some 3, 49, 1) := rfl
theorem q_Mo_246 : cx_Mo.2.1.lookup 246 = some (some 10, 108, 2) := rfl
theorem q_Mo_249 : cx_Mo.2.1.lookup 249 = some (some 11, 136, 2) := rfl
theorem q_Mo_252 : cx_Mo.2.1.lookup 252 = some (some 8, 79, 2) := rfl
theorem q_Mo_255 : cx_Mo.2.1.lookup 255 = some (some 8, 81, 3) := rfl
theorem q_Mo_258 : cx_Mo.2.1.lookup 258 = some (some 8, 82, 2) := rfl
theorem q_Mo_261 : cx_Mo.2.1.lookup 261 = some (some 8, 83, 4) := rfl
theorem q_Mo_264 : cx_Mo.2.1.lookup 264 = some (some 4, 50, 2) := rfl
theorem q_Mo_267 : cx_Mo.2.1.lookup 267 = some (some 4, 54, 1) := rfl
theorem q_Mo_270 : cx_Mo.2.1.lookup 270 = some (some 4, 55, 2) := rfl
theorem q_Mo_273 : cx_Mo.2.1.lookup 273 = some (some 4, 56, 1) := rfl
theorem q_Mo_276 : cx_Mo.2.1.lookup 276 = some (some 4, 58, 1) := rfl
theorem q_Mo_279 : cx_Mo.2.1.lookup 279 = some (some 4, 57, 1) := rfl
theorem q_Mo_282 : cx_Mo.2.1.lookup 282 = some (some 4, 59, 1) := rfl
theorem q_Mo_285 : cx_Mo.2.1.lookup 285 = some (some 1, 12, 1) := rfl
theorem q_Mo_288 : cx_Mo.2.1.lookup 288 = some (some 1, 16, 1) := rfl
theorem q_Mo_291 : cx_Mo.2.1.lookup 291 = some (some 1, 13, 1) := rfl
theorem q_Mo_294 : cx_Mo.2.1.lookup 294 = some (some 1, 17, 1) := rfl
theorem q_Mo_297 : cx_Mo.2.1.lookup 297 = some (none, 0, 1) := rfl
theorem q_Mo_300 : cx_Mo.2.1.lookup 300 = some (some 0, 2, 1) := rfl
theorem q_Mo_301 : cx_Mo.2.1.lookup 301 = some (some 0, 5, 2) := rfl
theorem q_Mo_303 : cx_Mo.2.1.lookup 303 = some (some 0, 8, 4) := rfl
theorem q_Mo_306 : cx_Mo.2.1.lookup 306 = some (some 0, 7, 2) := rfl
theorem q_Mo_309 : cx_Mo.2.1.lookup 309 = some (some 0, 3, 2) := rfl
theorem q_Mo_310 : cx_Mo.2.1.lookup 310 = some (some 9, 92, 3) := rfl
theorem q_Mo_314 : cx_Mo.2.1.lookup 314 = some (some 9, 93, 4) := rfl
theorem q_Mo_317 : cx_Mo.2.1.lookup 317 = some (some 11, 155, 2) := rfl
theorem q_Mo_320 : cx_Mo.2.1.lookup 320 = some (some 9, 95, 4) := rfl
theorem q_Mo_324 : cx_Mo.2.1.lookup 324 = some (some 9, 88, 3) := rfl
theorem q_Mo_327 : cx_Mo.2.1.lookup 327 = some (some 9, 91, 4) := rfl
theorem q_Mo_331 : cx_Mo.2.1.lookup 331 = some (some 9, 97, 6) := rfl
theorem q_Mo_335 : cx_Mo.2.1.lookup 335 = some (some 9, 86, 2) := rfl
theorem q_Mo_338 : cx_Mo.2.1.lookup 338 = some (some 0, 4, 2) := rfl
theorem q_Mo_341 : cx_Mo.2.1.lookup 341 = some (none, 1, 2) := rfl
theorem q_Mo_344 : cx_Mo.2.1.lookup 344 = some (none, 251, 1) := rfl
theorem q_Mo_349 : cx_Mo.2.1.lookup 349 = some (some 4, 52, 1) := rfl
theorem q_Mo_352 : cx_Mo.2.1.lookup 352 = some (some 7, 65, 1) := rfl
theorem q_Mo_353 : cx_Mo.2.1.lookup 353 = some (some 0, 6, 1) := rfl
theorem kd_Mo_164 : cx_Mo.2.2.1.lookup 164 = some (-2000000000) := rfl
theorem kl_Mo_198 : cx_Mo.2.2.2.1.lookup 198 = some (-9223372036854775808) := rfl
theorem kl_Mo_200 : cx_Mo.2.2.2.1.lookup 200 = some (-2) := rfl
theorem f_Md_11 : cx_Md.1.lookup 11 = some (12, 0, false) := rfl
theorem f_Md_15 : cx_Md.1.lookup 15 = some (12, 1, false) := rfl
theorem f_Md_18 : cx_Md.1.lookup 18 = some (12, 2, false) := rfl
theorem f_Md_21 : cx_Md.1.lookup 21 = some (12, 3, false) := rfl
theorem f_Md_24 : cx_Md.1.lookup 24 = some (12, 8, false) := rfl
theorem f_Md_27 : cx_Md.1.lookup 27 = some (12, 10, false) := rfl
theorem f_Md_30 : cx_Md.1.lookup 30 = some (12, 12, false) := rfl
theorem f_Md_33 : cx_Md.1.lookup 33 = some (12, 19, false) := rfl
theorem f_Md_36 : cx_Md.1.lookup 36 = some (12, 23, false) := rfl
theorem f_Md_40 : cx_Md.1.lookup 40 = some (12, 24, false) := rfl
theorem f_Md_43 : cx_Md.1.lookup 43 = some (12, 25, false) := rfl
theorem f_Md_46 : cx_Md.1.lookup 46 = some (12, 26, false) := rfl
theorem f_Md_49 : cx_Md.1.lookup 49 = some (12, 29, false) := rfl
theorem f_Md_52 : cx_Md.1.lookup 52 = some (12, 30, false) := rfl
theorem f_Md_55 : cx_Md.1.lookup 55 = some (12, 39, false) := rfl
theorem f_Md_58 : cx_Md.1.lookup 58 = some (12, 41, false) := rfl
theorem f_Md_61 : cx_Md.1.lookup 61 = some (12, 42, false) := rfl
theorem f_Md_64 : cx_Md.1.lookup 64 = some (12, 46, false) := rfl
theorem f_Md_67 : cx_Md.1.lookup 67 = some (12, 47, false) := rfl
theorem f_Md_70 : cx_Md.1.lookup 70 = some (12, 48, false) := rfl
theorem f_Md_74 : cx_Md.1.lookup 74 = some (12, 49, false) := rfl
theorem f_Md_77 : cx_Md.1.lookup 77 = some (12, 13, false) := rfl
theorem f_Md_80 : cx_Md.1.lookup 80 = some (12, 5, false) := rfl
theorem f_Md_83 : cx_Md.1.lookup 83 = some (12, 4, false) := rfl
theorem f_Md_86 : cx_Md.1.lookup 86 = some (12, 6, false) := rfl
theorem f_Md_128 : cx_Md.1.lookup 128 = some (12, 9, false) := rfl
theorem f_Md_134 : cx_Md.1.lookup 134 = some (12, 7, false) := rfl
theorem f_Md_142 : cx_Md.1.lookup 142 = some (12, 11, false) := rfl
theorem f_Md_145 : cx_Md.1.lookup 145 = some (12, 15, false) := rfl
theorem f_Md_148 : cx_Md.1.lookup 148 = some (12, 16, false) := rfl
theorem f_Md_151 : cx_Md.1.lookup 151 = some (12, 14, false) := rfl
theorem f_Md_154 : cx_Md.1.lookup 154 = some (12, 17, false) := rfl
theorem f_Md_179 : cx_Md.1.lookup 179 = some (12, 18, false) := rfl
theorem f_Md_202 : cx_Md.1.lookup 202 = some (12, 20, false) := rfl
theorem f_Md_205 : cx_Md.1.lookup 205 = some (12, 21, false) := rfl
theorem f_Md_208 : cx_Md.1.lookup 208 = some (12, 22, false) := rfl
theorem f_Md_211 : cx_Md.1.lookup 211 = some (12, 28, false) := rfl
theorem f_Md_214 : cx_Md.1.lookup 214 = some (12, 27, false) := rfl
theorem f_Md_276 : cx_Md.1.lookup 276 = some (12, 35, false) := rfl
theorem f_Md_279 : cx_Md.1.lookup 279 = some (12, 32, false) := rfl
theorem f_Md_282 : cx_Md.1.lookup 282 = some (12, 31, false) := rfl
theorem f_Md_285 : cx_Md.1.lookup 285 = some (12, 33, false) := rfl
theorem f_Md_291 : cx_Md.1.lookup 291 = some (12, 34, false) := rfl
theorem f_Md_294 : cx_Md.1.lookup 294 = some (12, 36, true) := rfl
theorem f_Md_298 : cx_Md.1.lookup 298 = some (12, 37, false) := rfl
theorem f_Md_301 : cx_Md.1.lookup 301 = some (12, 38, false) := rfl
theorem f_Md_307 : cx_Md.1.lookup 307 = some (12, 40, false) := rfl
theorem f_Md_312 : cx_Md.1.lookup 312 = some (12, 43, false) := rfl
theorem f_Md_321 : cx_Md.1.lookup 321 = some (12, 45, false) := rfl
theorem f_Md_327 : cx_Md.1.lookup 327 = some (12, 44, false) := rfl
theorem q_Md_89 : cx_Md.2.1.lookup 89 = some (none, 159, 3) := rfl
theorem q_Md_99 : cx_Md.2.1.lookup 99 = some (none, 166, 3) := rfl
theorem q_Md_102 : cx_Md.2.1.lookup 102 = some (some 12, 167, 5) := rfl
theorem q_Md_106 : cx_Md.2.1.lookup 106 = some (none, 241, 1) := rfl
theorem q_Md_114 : cx_Md.2.1.lookup 114 = some (some 12, 165, 2) := rfl
theorem q_Md_120 : cx_Md.2.1.lookup 120 = some (none, 170, 2) := rfl
theorem q_Md_124 : cx_Md.2.1.lookup 124 = some (some 12, 162, 3) := rfl
theorem q_Md_131 : cx_Md.2.1.lookup 131 = some (none, 160, 2) := rfl
theorem q_Md_137 : cx_Md.2.1.lookup 137 = some (some 12, 172, 2) := rfl
theorem q_Md_157 : cx_Md.2.1.lookup 157 = some (some 12, 175, 1) := rfl
theorem q_Md_161 : cx_Md.2.1.lookup 161 = some (some 12, 179, 1) := rfl
theorem q_Md_164 : cx_Md.2.1.lookup 164 = some (some 12, 177, 2) := rfl
theorem q_Md_167 : cx_Md.2.1.lookup 167 = some (some 12, 180, 1) := rfl
theorem q_Md_170 : cx_Md.2.1.lookup 170 = some (some 12, 181, 1) := rfl
theorem q_Md_173 : cx_Md.2.1.lookup 173 = some (some 12, 182, 1) := rfl
theorem q_Md_176 : cx_Md.2.1.lookup 176 = some (some 12, 184, 1) := rfl
theorem q_Md_182 : cx_Md.2.1.lookup 182 = some (some 12, 176, 1) := rfl
theorem q_Md_185 : cx_Md.2.1.lookup 185 = some (some 12, 178, 1) := rfl
theorem q_Md_188 : cx_Md.2.1.lookup 188 = some (none, 183, 1) := rfl
theorem q_Md_192 : cx_Md.2.1.lookup 192 = some (some 12, 185, 3) := rfl
theorem q_Md_197 : cx_Md.2.1.lookup 197 = some (some 12, 187, 4) := rfl
theorem q_Md_217 : cx_Md.2.1.lookup 217 = some (some 12, 190, 3) := rfl
theorem q_Md_221 : cx_Md.2.1.lookup 221 = some (some 12, 191, 2) := rfl
theorem q_Md_224 : cx_Md.2.1.lookup 224 = some (some 12, 192, 2) := rfl
theorem q_Md_227 : cx_Md.2.1.lookup 227 = some (none, 194, 1) := rfl
theorem q_Md_230 : cx_Md.2.1.lookup 230 = some (some 12, 189, 1) := rfl
theorem q_Md_233 : cx_Md.2.1.lookup 233 = some (some 12, 193, 2) := rfl
theorem q_Md_239 : cx_Md.2.1.lookup 239 = some (some 12, 195, 1) := rfl
theorem q_Md_242 : cx_Md.2.1.lookup 242 = some (none, 199, 2) := rfl
theorem q_Md_250 : cx_Md.2.1.lookup 250 = some (none, 200, 3) := rfl
theorem q_Md_254 : cx_Md.2.1.lookup 254 = some (some 12, 202, 2) := rfl
theorem q_Md_257 : cx_Md.2.1.lookup 257 = some (none, 161, 1) := rfl
theorem q_Md_260 : cx_Md.2.1.lookup 260 = some (some 12, 205, 4) := rfl
theorem q_Md_263 : cx_Md.2.1.lookup 263 = some (some 12, 208, 2) := rfl
theorem q_Md_266 : cx_Md.2.1.lookup 266 = some (some 12, 215, 2) := rfl
theorem q_Md_269 : cx_Md.2.1.lookup 269 = some (some 12, 216, 2) := rfl
theorem q_Md_272 : cx_Md.2.1.lookup 272 = some (some 12, 219, 2) := rfl
theorem q_Md_288 : cx_Md.2.1.lookup 288 = some (some 12, 223, 1) := rfl
theorem q_Md_304 : cx_Md.2.1.lookup 304 = some (some 12, 227, 2) := rfl
theorem q_Md_315 : cx_Md.2.1.lookup 315 = some (some 12, 234, 2) := rfl
theorem q_Md_318 : cx_Md.2.1.lookup 318 = some (some 12, 235, 3) := rfl
theorem q_Md_324 : cx_Md.2.1.lookup 324 = some (some 12, 236, 3) := rfl
theorem q_Md_330 : cx_Md.2.1.lookup 330 = some (some 12, 237, 3) := rfl
theorem q_Md_333 : cx_Md.2.1.lookup 333 = some (some 12, 238, 3) := rfl
theorem q_Md_336 : cx_Md.2.1.lookup 336 = some (some 12, 230, 2) := rfl
theorem q_Md_341 : cx_Md.2.1.lookup 341 = some (some 12, 244, 3) := rfl
theorem q_Md_344 : cx_Md.2.1.lookup 344 = some (none, 245, 2) := rfl
theorem q_Md_348 : cx_Md.2.1.lookup 348 = some (some 12, 231, 2) := rfl
theorem q_Md_351 : cx_Md.2.1.lookup 351 = some (none, 233, 1) := rfl
theorem q_Md_354 : cx_Md.2.1.lookup 354 = some (some 12, 222, 1) := rfl
theorem kd_Md_201 : cx_Md.2.2.1.lookup 201 = some (-2000000000) := rfl
theorem kd_Md_275 : cx_Md.2.2.1.lookup 275 = some (1103515245) := rfl
theorem kl_Md_93 : cx_Md.2.2.2.1.lookup 93 = some (100) := rfl
theorem kl_Md_95 : cx_Md.2.2.2.1.lookup 95 = some (220) := rfl
theorem kl_Md_97 : cx_Md.2.2.2.1.lookup 97 = some (99) := rfl
theorem kl_Md_110 : cx_Md.2.2.2.1.lookup 110 = some (12) := rfl
theorem kl_Md_112 : cx_Md.2.2.2.1.lookup 112 = some (20) := rfl
theorem kl_Md_118 : cx_Md.2.2.2.1.lookup 118 = some (4) := rfl
theorem kl_Md_140 : cx_Md.2.2.2.1.lookup 140 = some (255) := rfl
theorem kl_Md_195 : cx_Md.2.2.2.1.lookup 195 = some (99999) := rfl
theorem kl_Md_237 : cx_Md.2.2.2.1.lookup 237 = some (2) := rfl
theorem kl_Md_246 : cx_Md.2.2.2.1.lookup 246 = some (-9223372036854775808) := rfl
theorem kl_Md_248 : cx_Md.2.2.2.1.lookup 248 = some (-2) := rfl
theorem kl_Md_310 : cx_Md.2.2.2.1.lookup 310 = some (7) := rfl
theorem kl_Md_339 : cx_Md.2.2.2.1.lookup 339 = some (5) := rfl
theorem kd_JI_265 : cx_JI.2.2.1.lookup 265 = some (1431655765) := rfl
theorem kd_JI_266 : cx_JI.2.2.1.lookup 266 = some (858993459) := rfl
theorem kd_JI_267 : cx_JI.2.2.1.lookup 267 = some (252645135) := rfl
theorem q_JA_13 : cx_JA.2.1.lookup 13 = some (none, 252, 3) := rfl
theorem q_La_13 : cx_La.2.1.lookup 13 = some (some 11, 109, 3) := rfl
theorem q_La_17 : cx_La.2.1.lookup 17 = some (some 12, 168, 3) := rfl
theorem q_La_18 : cx_La.2.1.lookup 18 = some (some 11, 110, 4) := rfl
theorem q_La_22 : cx_La.2.1.lookup 22 = some (some 12, 169, 4) := rfl
theorem q_La_23 : cx_La.2.1.lookup 23 = some (some 11, 112, 4) := rfl
theorem q_La_26 : cx_La.2.1.lookup 26 = some (some 12, 171, 4) := rfl
theorem q_La_27 : cx_La.2.1.lookup 27 = some (some 11, 113, 3) := rfl
theorem q_La_30 : cx_La.2.1.lookup 30 = some (some 12, 173, 3) := rfl
theorem q_La_31 : cx_La.2.1.lookup 31 = some (some 11, 114, 2) := rfl
theorem q_La_35 : cx_La.2.1.lookup 35 = some (some 12, 174, 2) := rfl
theorem q_La_36 : cx_La.2.1.lookup 36 = some (some 11, 115, 1) := rfl
theorem q_La_40 : cx_La.2.1.lookup 40 = some (some 12, 186, 1) := rfl
theorem q_La_41 : cx_La.2.1.lookup 41 = some (some 11, 116, 3) := rfl
theorem q_La_44 : cx_La.2.1.lookup 44 = some (some 12, 188, 3) := rfl
theorem q_La_45 : cx_La.2.1.lookup 45 = some (some 11, 117, 3) := rfl
theorem q_La_48 : cx_La.2.1.lookup 48 = some (some 12, 196, 3) := rfl
theorem q_La_49 : cx_La.2.1.lookup 49 = some (some 11, 118, 3) := rfl
theorem q_La_52 : cx_La.2.1.lookup 52 = some (some 12, 197, 3) := rfl
theorem q_La_53 : cx_La.2.1.lookup 53 = some (some 11, 119, 3) := rfl
theorem q_La_56 : cx_La.2.1.lookup 56 = some (some 12, 198, 3) := rfl
theorem q_La_57 : cx_La.2.1.lookup 57 = some (some 11, 120, 4) := rfl
theorem q_La_61 : cx_La.2.1.lookup 61 = some (some 12, 201, 4) := rfl
theorem q_La_62 : cx_La.2.1.lookup 62 = some (some 11, 122, 4) := rfl
theorem q_La_65 : cx_La.2.1.lookup 65 = some (some 12, 203, 4) := rfl
theorem q_La_66 : cx_La.2.1.lookup 66 = some (some 11, 123, 4) := rfl
theorem q_La_69 : cx_La.2.1.lookup 69 = some (some 12, 204, 4) := rfl
theorem q_La_70 : cx_La.2.1.lookup 70 = some (some 11, 124, 4) := rfl
theorem q_La_73 : cx_La.2.1.lookup 73 = some (some 12, 206, 4) := rfl
theorem q_La_74 : cx_La.2.1.lookup 74 = some (some 11, 125, 2) := rfl
theorem q_La_77 : cx_La.2.1.lookup 77 = some (some 12, 207, 2) := rfl
theorem q_La_78 : cx_La.2.1.lookup 78 = some (some 11, 126, 2) := rfl
theorem q_La_81 : cx_La.2.1.lookup 81 = some (some 12, 209, 2) := rfl
theorem q_La_82 : cx_La.2.1.lookup 82 = some (some 11, 127, 3) := rfl
theorem q_La_85 : cx_La.2.1.lookup 85 = some (some 12, 210, 3) := rfl
theorem q_La_86 : cx_La.2.1.lookup 86 = some (some 11, 128, 2) := rfl
theorem q_La_89 : cx_La.2.1.lookup 89 = some (some 12, 211, 2) := rfl
theorem q_La_90 : cx_La.2.1.lookup 90 = some (some 11, 129, 3) := rfl
theorem q_La_93 : cx_La.2.1.lookup 93 = some (some 12, 212, 3) := rfl
theorem q_La_94 : cx_La.2.1.lookup 94 = some (some 11, 130, 1) := rfl
theorem q_La_97 : cx_La.2.1.lookup 97 = some (some 12, 213, 1) := rfl
theorem q_La_98 : cx_La.2.1.lookup 98 = some (some 11, 131, 2) := rfl
theorem q_La_101 : cx_La.2.1.lookup 101 = some (some 12, 214, 2) := rfl
theorem q_La_102 : cx_La.2.1.lookup 102 = some (some 11, 132, 2) := rfl
theorem q_La_105 : cx_La.2.1.lookup 105 = some (some 12, 217, 2) := rfl
theorem q_La_106 : cx_La.2.1.lookup 106 = some (some 11, 133, 3) := rfl
theorem q_La_109 : cx_La.2.1.lookup 109 = some (some 12, 218, 3) := rfl
theorem q_La_110 : cx_La.2.1.lookup 110 = some (some 11, 134, 2) := rfl
theorem q_La_113 : cx_La.2.1.lookup 113 = some (some 12, 220, 2) := rfl
theorem q_La_114 : cx_La.2.1.lookup 114 = some (some 11, 135, 4) := rfl
theorem q_La_117 : cx_La.2.1.lookup 117 = some (some 12, 221, 4) := rfl
theorem q_La_118 : cx_La.2.1.lookup 118 = some (some 11, 137, 1) := rfl
theorem q_La_121 : cx_La.2.1.lookup 121 = some (some 12, 224, 1) := rfl
theorem q_La_122 : cx_La.2.1.lookup 122 = some (some 11, 138, 2) := rfl
theorem q_La_125 : cx_La.2.1.lookup 125 = some (some 12, 225, 2) := rfl
theorem q_La_126 : cx_La.2.1.lookup 126 = some (some 11, 139, 1) := rfl
theorem q_La_129 : cx_La.2.1.lookup 129 = some (some 12, 226, 1) := rfl
theorem q_La_130 : cx_La.2.1.lookup 130 = some (some 11, 140, 2) := rfl
theorem q_La_133 : cx_La.2.1.lookup 133 = some (some 12, 227, 2) := rfl
theorem q_La_134 : cx_La.2.1.lookup 134 = some (some 11, 141, 1) := rfl
theorem q_La_137 : cx_La.2.1.lookup 137 = some (some 12, 228, 1) := rfl
theorem q_La_138 : cx_La.2.1.lookup 138 = some (some 11, 142, 1) := rfl
theorem q_La_141 : cx_La.2.1.lookup 141 = some (some 12, 229, 1) := rfl
theorem q_La_142 : cx_La.2.1.lookup 142 = some (some 11, 143, 1) := rfl
theorem q_La_145 : cx_La.2.1.lookup 145 = some (some 12, 163, 1) := rfl
theorem q_La_146 : cx_La.2.1.lookup 146 = some (some 11, 144, 1) := rfl
theorem q_La_149 : cx_La.2.1.lookup 149 = some (some 12, 164, 1) := rfl
theorem q_La_150 : cx_La.2.1.lookup 150 = some (some 11, 145, 2) := rfl
theorem q_La_153 : cx_La.2.1.lookup 153 = some (some 12, 232, 2) := rfl
theorem q_La_154 : cx_La.2.1.lookup 154 = some (some 11, 146, 4) := rfl
theorem q_La_157 : cx_La.2.1.lookup 157 = some (some 12, 239, 4) := rfl
theorem q_La_158 : cx_La.2.1.lookup 158 = some (some 11, 147, 2) := rfl
theorem q_La_161 : cx_La.2.1.lookup 161 = some (some 12, 240, 2) := rfl
theorem q_La_162 : cx_La.2.1.lookup 162 = some (some 11, 148, 3) := rfl
theorem q_La_165 : cx_La.2.1.lookup 165 = some (some 12, 242, 3) := rfl
theorem q_La_166 : cx_La.2.1.lookup 166 = some (some 11, 149, 4) := rfl
theorem q_La_169 : cx_La.2.1.lookup 169 = some (some 12, 243, 4) := rfl
theorem q_La_172 : cx_La.2.1.lookup 172 = some (some 11, 150, 4) := rfl
theorem q_La_176 : cx_La.2.1.lookup 176 = some (some 12, 246, 4) := rfl
theorem q_La_177 : cx_La.2.1.lookup 177 = some (some 11, 151, 3) := rfl
theorem q_La_181 : cx_La.2.1.lookup 181 = some (some 12, 247, 3) := rfl
theorem q_La_182 : cx_La.2.1.lookup 182 = some (some 11, 152, 6) := rfl
theorem q_La_186 : cx_La.2.1.lookup 186 = some (some 12, 248, 6) := rfl
theorem q_La_187 : cx_La.2.1.lookup 187 = some (some 11, 153, 3) := rfl
theorem q_La_190 : cx_La.2.1.lookup 190 = some (some 12, 249, 3) := rfl
theorem q_La_191 : cx_La.2.1.lookup 191 = some (some 11, 154, 2) := rfl
theorem q_La_194 : cx_La.2.1.lookup 194 = some (some 12, 250, 2) := rfl
theorem kl_La_170 : cx_La.2.2.2.1.lookup 170 = some (4294967295) := rfl
abbrev v_Acts_isKind (L : Nat) (xs : Nat → Int32) (d : Nat) (Q : AQ) : AK := av (gG L xs) prog_2_method_2_code cx_Acts 1 (some .boolean) d Q
theorem e_Acts_isKind {L : Nat} {xs : Nat → Int32} {d : Nat} {Q : AQ} {M : AM} {x0 : Int32} (h : v_Acts_isKind L xs d Q 0 [(0, .int x0)] [] M) : am_Call (gG L xs) (d + 1) c_Acts_isKind [.int x0] M Q := am_enter k_Acts_isKind (Nat.le_of_ble_eq_true rfl) rfl h
abbrev v_Acts_isUnder (L : Nat) (xs : Nat → Int32) (d : Nat) (Q : AQ) : AK := av (gG L xs) prog_2_method_3_code cx_Acts 4 (some .boolean) d Q
theorem e_Acts_isUnder {L : Nat} {xs : Nat → Int32} {d : Nat} {Q : AQ} {M : AM} {x0 : Int32} {x1 : Int32} (h : v_Acts_isUnder L xs d Q 0 [(0, .int x0), (1, .int x1)] [] M) : am_Call (gG L xs) (d + 1) c_Acts_isUnder [.int x0, .int x1] M Q := am_enter k_Acts_isUnder (Nat.le_of_ble_eq_true rfl) rfl h
abbrev v_Acts_size (L : Nat) (xs : Nat → Int32) (d : Nat) (Q : AQ) : AK := av (gG L xs) prog_2_method_4_code cx_Acts 1 (some .int) d Q
theorem e_Acts_size {L : Nat} {xs : Nat → Int32} {d : Nat} {Q : AQ} {M : AM}  (h : v_Acts_size L xs d Q 0 [(0, .ref 37)] [] M) : am_Call (gG L xs) (d + 1) c_Acts_size [.ref 37] M Q := am_enter k_Acts_size (Nat.le_of_ble_eq_true rfl) rfl h
abbrev v_Acts_has (L : Nat) (xs : Nat → Int32) (d : Nat) (Q : AQ) : AK := av (gG L xs) prog_2_method_5_code cx_Acts 2 (some .boolean) d Q
theorem e_Acts_has {L : Nat} {xs : Nat → Int32} {d : Nat} {Q : AQ} {M : AM} {x1 : Int32} (h : v_Acts_has L xs d Q 0 [(0, .ref 37), (1, .int x1)] [] M) : am_Call (gG L xs) (d + 1) c_Acts_has [.ref 37, .int x1] M Q := am_enter k_Acts_has (Nat.le_of_ble_eq_true rfl) rfl h
abbrev v_Acts_kindOf (L : Nat) (xs : Nat → Int32) (d : Nat) (Q : AQ) : AK := av (gG L xs) prog_2_method_6_code cx_Acts 2 (some .int) d Q
theorem e_Acts_kindOf {L : Nat} {xs : Nat → Int32} {d : Nat} {Q : AQ} {M : AM} {x1 : Int32} (h : v_Acts_kindOf L xs d Q 0 [(0, .ref 37), (1, .int x1)] [] M) : am_Call (gG L xs) (d + 1) c_Acts_kindOf [.ref 37, .int x1] M Q := am_enter k_Acts_kindOf (Nat.le_of_ble_eq_true rfl) rfl h
abbrev v_Acts_joins (L : Nat) (xs : Nat → Int32) (d : Nat) (Q : AQ) : AK := av (gG L xs) prog_2_method_7_code cx_Acts 2 (some .int) d Q
theorem e_Acts_joins {L : Nat} {xs : Nat → Int32} {d : Nat} {Q : AQ} {M : AM} {x1 : Int32} (h : v_Acts_joins L xs d Q 0 [(0, .ref 37), (1, .int x1)] [] M) : am_Call (gG L xs) (d + 1) c_Acts_joins [.ref 37, .int x1] M Q := am_enter k_Acts_joins (Nat.le_of_ble_eq_true rfl) rfl h
abbrev v_Acts_ranLast (L : Nat) (xs : Nat → Int32) (d : Nat) (Q : AQ) : AK := av (gG L xs) prog_2_method_8_code cx_Acts 1 (some .int) d Q
theorem e_Acts_ranLast {L : Nat} {xs : Nat → Int32} {d : Nat} {Q : AQ} {M : AM}  (h : v_Acts_ranLast L xs d Q 0 [(0, .ref 37)] [] M) : am_Call (gG L xs) (d + 1) c_Acts_ranLast [.ref 37] M Q := am_enter k_Acts_ranLast (Nat.le_of_ble_eq_true rfl) rfl h
abbrev v_Acts_traced (L : Nat) (xs : Nat → Int32) (d : Nat) (Q : AQ) : AK := av (gG L xs) prog_2_method_9_code cx_Acts 2 (some .int) d Q
theorem e_Acts_traced {L : Nat} {xs : Nat → Int32} {d : Nat} {Q : AQ} {M : AM} {x1 : Int32} (h : v_Acts_traced L xs d Q 0 [(0, .ref 37), (1, .int x1)] [] M) : am_Call (gG L xs) (d + 1) c_Acts_traced [.ref 37, .int x1] M Q := am_enter k_Acts_traced (Nat.le_of_ble_eq_true rfl) rfl h
abbrev v_Acts_does (L : Nat) (xs : Nat → Int32) (d : Nat) (Q : AQ) : AK := av (gG L xs) prog_2_method_10_code cx_Acts 4 (some .int) d Q
theorem e_Acts_does {L : Nat} {xs : Nat → Int32} {d : Nat} {Q : AQ} {M : AM} {x1 : Int32} {x2 : Int32} {x3 : Int32} (h : v_Acts_does L xs d Q 0 [(0, .ref 37), (1, .int x1), (2, .int x2), (3, .int x3)] [] M) : am_Call (gG L xs) (d + 1) c_Acts_does [.ref 37, .int x1, .int x2, .int x3] M Q := am_enter k_Acts_does (Nat.le_of_ble_eq_true rfl) rfl h
abbrev v_Acts_holder (L : Nat) (xs : Nat → Int32) (d : Nat) (Q : AQ) : AK := av (gG L xs) prog_2_method_11_code cx_Acts 4 (some .int) d Q
theorem e_Acts_holder {L : Nat} {xs : Nat → Int32} {d : Nat} {Q : AQ} {M : AM} {x0 : Int32} {x1 : Int32} (h : v_Acts_holder L xs d Q 0 [(0, .int x0), (1, .int x1)] [] M) : am_Call (gG L xs) (d + 1) c_Acts_holder [.int x0, .int x1] M Q := am_enter k_Acts_holder (Nat.le_of_ble_eq_true rfl) rfl h
abbrev v_Acts_notes (L : Nat) (xs : Nat → Int32) (d : Nat) (Q : AQ) : AK := av (gG L xs) prog_2_method_12_code cx_Acts 2 none d Q
theorem e_Acts_notes {L : Nat} {xs : Nat → Int32} {d : Nat} {Q : AQ} {M : AM} {x1 : Int32} (h : v_Acts_notes L xs d Q 0 [(0, .ref 37), (1, .int x1)] [] M) : am_Call (gG L xs) (d + 1) c_Acts_notes [.ref 37, .int x1] M Q := am_enter k_Acts_notes (Nat.le_of_ble_eq_true rfl) rfl h
abbrev v_Acts_plays (L : Nat) (xs : Nat → Int32) (d : Nat) (Q : AQ) : AK := av (gG L xs) prog_2_method_13_code cx_Acts 9 (some .int) d Q
theorem e_Acts_plays {L : Nat} {xs : Nat → Int32} {d : Nat} {Q : AQ} {M : AM} {x1 : Int32} {x2 : Int32} {x3 : Int32} {x4 : Int32} (h : v_Acts_plays L xs d Q 0 [(0, .ref 37), (1, .int x1), (2, .int x2), (3, .int x3), (4, .int x4)] [] M) : am_Call (gG L xs) (d + 1) c_Acts_plays [.ref 37, .int x1, .int x2, .int x3, .int x4] M Q := am_enter k_Acts_plays (Nat.le_of_ble_eq_true rfl) rfl h
abbrev v_Changes_undoable (L : Nat) (xs : Nat → Int32) (d : Nat) (Q : AQ) : AK := av (gG L xs) prog_3_method_2_code cx_Changes 1 (some .int) d Q
theorem e_Changes_undoable {L : Nat} {xs : Nat → Int32} {d : Nat} {Q : AQ} {M : AM}  (h : v_Changes_undoable L xs d Q 0 [(0, .ref 32)] [] M) : am_Call (gG L xs) (d + 1) c_Changes_undoable [.ref 32] M Q := am_enter k_Changes_undoable (Nat.le_of_ble_eq_true rfl) rfl h
abbrev v_Changes_redoable (L : Nat) (xs : Nat → Int32) (d : Nat) (Q : AQ) : AK := av (gG L xs) prog_3_method_3_code cx_Changes 1 (some .int) d Q
theorem e_Changes_redoable {L : Nat} {xs : Nat → Int32} {d : Nat} {Q : AQ} {M : AM}  (h : v_Changes_redoable L xs d Q 0 [(0, .ref 32)] [] M) : am_Call (gG L xs) (d + 1) c_Changes_redoable [.ref 32] M Q := am_enter k_Changes_redoable (Nat.le_of_ble_eq_true rfl) rfl h
abbrev v_Changes_happens (L : Nat) (xs : Nat → Int32) (d : Nat) (Q : AQ) : AK := av (gG L xs) prog_3_method_4_code cx_Changes 4 none d Q
theorem e_Changes_happens {L : Nat} {xs : Nat → Int32} {d : Nat} {Q : AQ} {M : AM} {x1 : Int32} {x2 : Int32} {x3 : Int32} (h : v_Changes_happens L xs d Q 0 [(0, .ref 32), (1, .int x1), (2, .int x2), (3, .int x3)] [] M) : am_Call (gG L xs) (d + 1) c_Changes_happens [.ref 32, .int x1, .int x2, .int x3] M Q := am_enter k_Changes_happens (Nat.le_of_ble_eq_true rfl) rfl h
abbrev v_Changes_forgetsOldest (L : Nat) (xs : Nat → Int32) (d : Nat) (Q : AQ) : AK := av (gG L xs) prog_3_method_5_code cx_Changes 1 none d Q
theorem e_Changes_forgetsOldest {L : Nat} {xs : Nat → Int32} {d : Nat} {Q : AQ} {M : AM}  (h : v_Changes_forgetsOldest L xs d Q 0 [(0, .ref 32)] [] M) : am_Call (gG L xs) (d + 1) c_Changes_forgetsOldest [.ref 32] M Q := am_enter k_Changes_forgetsOldest (Nat.le_of_ble_eq_true rfl) rfl h
abbrev v_Changes_undoes (L : Nat) (xs : Nat → Int32) (d : Nat) (Q : AQ) : AK := av (gG L xs) prog_3_method_6_code cx_Changes 1 (some .int) d Q
theorem e_Changes_undoes {L : Nat} {xs : Nat → Int32} {d : Nat} {Q : AQ} {M : AM}  (h : v_Changes_undoes L xs d Q 0 [(0, .ref 32)] [] M) : am_Call (gG L xs) (d + 1) c_Changes_undoes [.ref 32] M Q := am_enter k_Changes_undoes (Nat.le_of_ble_eq_true rfl) rfl h
abbrev v_Changes_redoes (L : Nat) (xs : Nat → Int32) (d : Nat) (Q : AQ) : AK := av (gG L xs) prog_3_method_7_code cx_Changes 1 (some .int) d Q
theorem e_Changes_redoes {L : Nat} {xs : Nat → Int32} {d : Nat} {Q : AQ} {M : AM}  (h : v_Changes_redoes L xs d Q 0 [(0, .ref 32)] [] M) : am_Call (gG L xs) (d + 1) c_Changes_redoes [.ref 32] M Q := am_enter k_Changes_redoes (Nat.le_of_ble_eq_true rfl) rfl h
abbrev v_Crowd_isNumber (L : Nat) (xs : Nat → Int32) (d : Nat) (Q : AQ) : AK := av (gG L xs) prog_4_method_2_code cx_Crowd 1 (some .boolean) d Q
theorem e_Crowd_isNumber {L : Nat} {xs : Nat → Int32} {d : Nat} {Q : AQ} {M : AM} {x0 : Int32} (h : v_Crowd_isNumber L xs d Q 0 [(0, .int x0)] [] M) : am_Call (gG L xs) (d + 1) c_Crowd_isNumber [.int x0] M Q := am_enter k_Crowd_isNumber (Nat.le_of_ble_eq_true rfl) rfl h
abbrev v_Crowd_fits (L : Nat) (xs : Nat → Int32) (d : Nat) (Q : AQ) : AK := av (gG L xs) prog_4_method_3_code cx_Crowd 2 (some .boolean) d Q
theorem e_Crowd_fits {L : Nat} {xs : Nat → Int32} {d : Nat} {Q : AQ} {M : AM} {x0 : Int32} {x1 : Int32} (h : v_Crowd_fits L xs d Q 0 [(0, .int x0), (1, .int x1)] [] M) : am_Call (gG L xs) (d + 1) c_Crowd_fits [.int x0, .int x1] M Q := am_enter k_Crowd_fits (Nat.le_of_ble_eq_true rfl) rfl h
abbrev v_Crowd_size (L : Nat) (xs : Nat → Int32) (d : Nat) (Q : AQ) : AK := av (gG L xs) prog_4_method_4_code cx_Crowd 1 (some .int) d Q
theorem e_Crowd_size {L : Nat} {xs : Nat → Int32} {d : Nat} {Q : AQ} {M : AM} {c0 : Nat} (h : v_Crowd_size L xs d Q 0 [(0, .ref c0)] [] M) : am_Call (gG L xs) (d + 1) c_Crowd_size [.ref c0] M Q := am_enter k_Crowd_size (Nat.le_of_ble_eq_true rfl) rfl h
abbrev v_Crowd_has (L : Nat) (xs : Nat → Int32) (d : Nat) (Q : AQ) : AK := av (gG L xs) prog_4_method_5_code cx_Crowd 2 (some .boolean) d Q
theorem e_Crowd_has {L : Nat} {xs : Nat → Int32} {d : Nat} {Q : AQ} {M : AM} {c0 : Nat} {x1 : Int32} (h : v_Crowd_has L xs d Q 0 [(0, .ref c0), (1, .int x1)] [] M) : am_Call (gG L xs) (d + 1) c_Crowd_has [.ref c0, .int x1] M Q := am_enter k_Crowd_has (Nat.le_of_ble_eq_true rfl) rfl h
abbrev v_Crowd_everyone (L : Nat) (xs : Nat → Int32) (d : Nat) (Q : AQ) : AK := av (gG L xs) prog_4_method_6_code cx_Crowd 1 (some .int) d Q
theorem e_Crowd_everyone {L : Nat} {xs : Nat → Int32} {d : Nat} {Q : AQ} {M : AM} {c0 : Nat} (h : v_Crowd_everyone L xs d Q 0 [(0, .ref c0)] [] M) : am_Call (gG L xs) (d + 1) c_Crowd_everyone [.ref c0] M Q := am_enter k_Crowd_everyone (Nat.le_of_ble_eq_true rfl) rfl h
abbrev v_Crowd_number (L : Nat) (xs : Nat → Int32) (d : Nat) (Q : AQ) : AK := av (gG L xs) prog_4_method_7_code cx_Crowd 3 (some .int) d Q
theorem e_Crowd_number {L : Nat} {xs : Nat → Int32} {d : Nat} {Q : AQ} {M : AM} {c0 : Nat} {x1 : Int32} {x2 : Int32} (h : v_Crowd_number L xs d Q 0 [(0, .ref c0), (1, .int x1), (2, .int x2)] [] M) : am_Call (gG L xs) (d + 1) c_Crowd_number [.ref c0, .int x1, .int x2] M Q := am_enter k_Crowd_number (Nat.le_of_ble_eq_true rfl) rfl h
abbrev v_Crowd_setNumber (L : Nat) (xs : Nat → Int32) (d : Nat) (Q : AQ) : AK := av (gG L xs) prog_4_method_8_code cx_Crowd 4 none d Q
theorem e_Crowd_setNumber {L : Nat} {xs : Nat → Int32} {d : Nat} {Q : AQ} {M : AM} {c0 : Nat} {x1 : Int32} {x2 : Int32} {x3 : Int32} (h : v_Crowd_setNumber L xs d Q 0 [(0, .ref c0), (1, .int x1), (2, .int x2), (3, .int x3)] [] M) : am_Call (gG L xs) (d + 1) c_Crowd_setNumber [.ref c0, .int x1, .int x2, .int x3] M Q := am_enter k_Crowd_setNumber (Nat.le_of_ble_eq_true rfl) rfl h
abbrev v_Crowd_joins (L : Nat) (xs : Nat → Int32) (d : Nat) (Q : AQ) : AK := av (gG L xs) prog_4_method_9_code cx_Crowd 5 (some .int) d Q
theorem e_Crowd_joins {L : Nat} {xs : Nat → Int32} {d : Nat} {Q : AQ} {M : AM} {c0 : Nat} {x1 : Int32} {x2 : Int32} {x3 : Int32} (h : v_Crowd_joins L xs d Q 0 [(0, .ref c0), (1, .int x1), (2, .int x2), (3, .int x3)] [] M) : am_Call (gG L xs) (d + 1) c_Crowd_joins [.ref c0, .int x1, .int x2, .int x3] M Q := am_enter k_Crowd_joins (Nat.le_of_ble_eq_true rfl) rfl h
abbrev v_Crowd_shrinks (L : Nat) (xs : Nat → Int32) (d : Nat) (Q : AQ) : AK := av (gG L xs) prog_4_method_10_code cx_Crowd 2 none d Q
theorem e_Crowd_shrinks {L : Nat} {xs : Nat → Int32} {d : Nat} {Q : AQ} {M : AM} {c0 : Nat} {x1 : Int32} (h : v_Crowd_shrinks L xs d Q 0 [(0, .ref c0), (1, .int x1)] [] M) : am_Call (gG L xs) (d + 1) c_Crowd_shrinks [.ref c0, .int x1] M Q := am_enter k_Crowd_shrinks (Nat.le_of_ble_eq_true rfl) rfl h
abbrev v_Crowd_becomes (L : Nat) (xs : Nat → Int32) (d : Nat) (Q : AQ) : AK := av (gG L xs) prog_4_method_11_code cx_Crowd 2 none d Q
theorem e_Crowd_becomes {L : Nat} {xs : Nat → Int32} {d : Nat} {Q : AQ} {M : AM} {c0 : Nat} (h : v_Crowd_becomes L xs d Q 0 [(0, .ref c0), (1, .ref 1)] [] M) : am_Call (gG L xs) (d + 1) c_Crowd_becomes [.ref c0, .ref 1] M Q := am_enter k_Crowd_becomes (Nat.le_of_ble_eq_true rfl) rfl h
abbrev v_Crowd_waiting (L : Nat) (xs : Nat → Int32) (d : Nat) (Q : AQ) : AK := av (gG L xs) prog_4_method_12_code cx_Crowd 3 (some .int) d Q
theorem e_Crowd_waiting {L : Nat} {xs : Nat → Int32} {d : Nat} {Q : AQ} {M : AM} {c0 : Nat} {x1 : Int32} {x2 : Int32} (h : v_Crowd_waiting L xs d Q 0 [(0, .ref c0), (1, .int x1), (2, .int x2)] [] M) : am_Call (gG L xs) (d + 1) c_Crowd_waiting [.ref c0, .int x1, .int x2] M Q := am_enter k_Crowd_waiting (Nat.le_of_ble_eq_true rfl) rfl h
abbrev v_Crowd_thereAt (L : Nat) (xs : Nat → Int32) (d : Nat) (Q : AQ) : AK := av (gG L xs) prog_4_method_13_code cx_Crowd 5 (some .int) d Q
theorem e_Crowd_thereAt {L : Nat} {xs : Nat → Int32} {d : Nat} {Q : AQ} {M : AM} {c0 : Nat} {x1 : Int32} (h : v_Crowd_thereAt L xs d Q 0 [(0, .ref c0), (1, .int x1)] [] M) : am_Call (gG L xs) (d + 1) c_Crowd_thereAt [.ref c0, .int x1] M Q := am_enter k_Crowd_thereAt (Nat.le_of_ble_eq_true rfl) rfl h
abbrev v_Crowd_comeBy (L : Nat) (xs : Nat → Int32) (d : Nat) (Q : AQ) : AK := av (gG L xs) prog_4_method_14_code cx_Crowd 4 (some .int) d Q
theorem e_Crowd_comeBy {L : Nat} {xs : Nat → Int32} {d : Nat} {Q : AQ} {M : AM} {c0 : Nat} {x1 : Int32} (h : v_Crowd_comeBy L xs d Q 0 [(0, .ref c0), (1, .int x1)] [] M) : am_Call (gG L xs) (d + 1) c_Crowd_comeBy [.ref c0, .int x1] M Q := am_enter k_Crowd_comeBy (Nat.le_of_ble_eq_true rfl) rfl h
abbrev v_Crowd_priceOf (L : Nat) (xs : Nat → Int32) (d : Nat) (Q : AQ) : AK := av (gG L xs) prog_4_method_15_code cx_Crowd 4 (some .int) d Q
theorem e_Crowd_priceOf {L : Nat} {xs : Nat → Int32} {d : Nat} {Q : AQ} {M : AM} {c0 : Nat} {x1 : Int32} (h : v_Crowd_priceOf L xs d Q 0 [(0, .ref c0), (1, .int x1)] [] M) : am_Call (gG L xs) (d + 1) c_Crowd_priceOf [.ref c0, .int x1] M Q := am_enter k_Crowd_priceOf (Nat.le_of_ble_eq_true rfl) rfl h
abbrev v_Day_who (L : Nat) (xs : Nat → Int32) (d : Nat) (Q : AQ) : AK := av (gG L xs) prog_5_method_2_code cx_Day 1 (some (.object "MiddleOne$Crowd")) d Q
theorem e_Day_who {L : Nat} {xs : Nat → Int32} {d : Nat} {Q : AQ} {M : AM}  (h : v_Day_who L xs d Q 0 [(0, .ref 15)] [] M) : am_Call (gG L xs) (d + 1) c_Day_who [.ref 15] M Q := am_enter k_Day_who (Nat.le_of_ble_eq_true rfl) rfl h
abbrev v_Day_begins (L : Nat) (xs : Nat → Int32) (d : Nat) (Q : AQ) : AK := av (gG L xs) prog_5_method_3_code cx_Day 2 none d Q
theorem e_Day_begins {L : Nat} {xs : Nat → Int32} {d : Nat} {Q : AQ} {M : AM}  (h : v_Day_begins L xs d Q 0 [(0, .ref 15), (1, .ref 1)] [] M) : am_Call (gG L xs) (d + 1) c_Day_begins [.ref 15, .ref 1] M Q := am_enter k_Day_begins (Nat.le_of_ble_eq_true rfl) rfl h
abbrev v_Day_again (L : Nat) (xs : Nat → Int32) (d : Nat) (Q : AQ) : AK := av (gG L xs) prog_5_method_4_code cx_Day 2 none d Q
theorem e_Day_again {L : Nat} {xs : Nat → Int32} {d : Nat} {Q : AQ} {M : AM} {x1 : Int32} (h : v_Day_again L xs d Q 0 [(0, .ref 15), (1, .int x1)] [] M) : am_Call (gG L xs) (d + 1) c_Day_again [.ref 15, .int x1] M Q := am_enter k_Day_again (Nat.le_of_ble_eq_true rfl) rfl h
abbrev v_Day_againWith (L : Nat) (xs : Nat → Int32) (d : Nat) (Q : AQ) : AK := av (gG L xs) prog_5_method_5_code cx_Day 4 none d Q
theorem e_Day_againWith {L : Nat} {xs : Nat → Int32} {d : Nat} {Q : AQ} {M : AM} {x1 : Int32} {x2 : Int32} {x3 : Int32} (h : v_Day_againWith L xs d Q 0 [(0, .ref 15), (1, .int x1), (2, .int x2), (3, .int x3)] [] M) : am_Call (gG L xs) (d + 1) c_Day_againWith [.ref 15, .int x1, .int x2, .int x3] M Q := am_enter k_Day_againWith (Nat.le_of_ble_eq_true rfl) rfl h
abbrev v_Day_opens (L : Nat) (xs : Nat → Int32) (d : Nat) (Q : AQ) : AK := av (gG L xs) prog_5_method_6_code cx_Day 6 (some .int) d Q
theorem e_Day_opens {L : Nat} {xs : Nat → Int32} {d : Nat} {Q : AQ} {M : AM} {x1 : Int32} {x2 : Int32} {x3 : Int32} (h : v_Day_opens L xs d Q 0 [(0, .ref 15), (1, .int x1), (2, .int x2), (3, .int x3)] [] M) : am_Call (gG L xs) (d + 1) c_Day_opens [.ref 15, .int x1, .int x2, .int x3] M Q := am_enter k_Day_opens (Nat.le_of_ble_eq_true rfl) rfl h
abbrev v_Day_passes (L : Nat) (xs : Nat → Int32) (d : Nat) (Q : AQ) : AK := av (gG L xs) prog_5_method_7_code cx_Day 2 (some .int) d Q
theorem e_Day_passes {L : Nat} {xs : Nat → Int32} {d : Nat} {Q : AQ} {M : AM} {x1 : Int32} (h : v_Day_passes L xs d Q 0 [(0, .ref 15), (1, .int x1)] [] M) : am_Call (gG L xs) (d + 1) c_Day_passes [.ref 15, .int x1] M Q := am_enter k_Day_passes (Nat.le_of_ble_eq_true rfl) rfl h
abbrev v_Day_runs (L : Nat) (xs : Nat → Int32) (d : Nat) (Q : AQ) : AK := av (gG L xs) prog_5_method_8_code cx_Day 4 (some .int) d Q
theorem e_Day_runs {L : Nat} {xs : Nat → Int32} {d : Nat} {Q : AQ} {M : AM} {x1 : Int32} {x2 : Int32} (h : v_Day_runs L xs d Q 0 [(0, .ref 15), (1, .int x1), (2, .int x2)] [] M) : am_Call (gG L xs) (d + 1) c_Day_runs [.ref 15, .int x1, .int x2] M Q := am_enter k_Day_runs (Nat.le_of_ble_eq_true rfl) rfl h
abbrev v_Day_till (L : Nat) (xs : Nat → Int32) (d : Nat) (Q : AQ) : AK := av (gG L xs) prog_5_method_9_code cx_Day 5 (some .int) d Q
theorem e_Day_till {L : Nat} {xs : Nat → Int32} {d : Nat} {Q : AQ} {M : AM} {x1 : Int32} {x2 : Int32} (h : v_Day_till L xs d Q 0 [(0, .ref 15), (1, .int x1), (2, .int x2)] [] M) : am_Call (gG L xs) (d + 1) c_Day_till [.ref 15, .int x1, .int x2] M Q := am_enter k_Day_till (Nat.le_of_ble_eq_true rfl) rfl h
abbrev v_Day_twoGates (L : Nat) (xs : Nat → Int32) (d : Nat) (Q : AQ) : AK := av (gG L xs) prog_5_method_10_code cx_Day 4 (some .int) d Q
theorem e_Day_twoGates {L : Nat} {xs : Nat → Int32} {d : Nat} {Q : AQ} {M : AM} {x1 : Int32} {x2 : Int32} (h : v_Day_twoGates L xs d Q 0 [(0, .ref 15), (1, .int x1), (2, .int x2)] [] M) : am_Call (gG L xs) (d + 1) c_Day_twoGates [.ref 15, .int x1, .int x2] M Q := am_enter k_Day_twoGates (Nat.le_of_ble_eq_true rfl) rfl h
abbrev v_Day_allAreIn (L : Nat) (xs : Nat → Int32) (d : Nat) (Q : AQ) : AK := av (gG L xs) prog_5_method_11_code cx_Day 1 (some .boolean) d Q
theorem e_Day_allAreIn {L : Nat} {xs : Nat → Int32} {d : Nat} {Q : AQ} {M : AM}  (h : v_Day_allAreIn L xs d Q 0 [(0, .ref 15)] [] M) : am_Call (gG L xs) (d + 1) c_Day_allAreIn [.ref 15] M Q := am_enter k_Day_allAreIn (Nat.le_of_ble_eq_true rfl) rfl h
abbrev v_Day_stillOutside (L : Nat) (xs : Nat → Int32) (d : Nat) (Q : AQ) : AK := av (gG L xs) prog_5_method_12_code cx_Day 1 (some .int) d Q
theorem e_Day_stillOutside {L : Nat} {xs : Nat → Int32} {d : Nat} {Q : AQ} {M : AM}  (h : v_Day_stillOutside L xs d Q 0 [(0, .ref 15)] [] M) : am_Call (gG L xs) (d + 1) c_Day_stillOutside [.ref 15] M Q := am_enter k_Day_stillOutside (Nat.le_of_ble_eq_true rfl) rfl h
abbrev v_Day_inSince (L : Nat) (xs : Nat → Int32) (d : Nat) (Q : AQ) : AK := av (gG L xs) prog_5_method_13_code cx_Day 2 (some .int) d Q
theorem e_Day_inSince {L : Nat} {xs : Nat → Int32} {d : Nat} {Q : AQ} {M : AM} {x1 : Int32} (h : v_Day_inSince L xs d Q 0 [(0, .ref 15), (1, .int x1)] [] M) : am_Call (gG L xs) (d + 1) c_Day_inSince [.ref 15, .int x1] M Q := am_enter k_Day_inSince (Nat.le_of_ble_eq_true rfl) rfl h
abbrev v_Day_waitedLast (L : Nat) (xs : Nat → Int32) (d : Nat) (Q : AQ) : AK := av (gG L xs) prog_5_method_14_code cx_Day 1 (some .int) d Q
theorem e_Day_waitedLast {L : Nat} {xs : Nat → Int32} {d : Nat} {Q : AQ} {M : AM}  (h : v_Day_waitedLast L xs d Q 0 [(0, .ref 15)] [] M) : am_Call (gG L xs) (d + 1) c_Day_waitedLast [.ref 15] M Q := am_enter k_Day_waitedLast (Nat.le_of_ble_eq_true rfl) rfl h
abbrev v_Day_mostWaited (L : Nat) (xs : Nat → Int32) (d : Nat) (Q : AQ) : AK := av (gG L xs) prog_5_method_15_code cx_Day 1 (some .int) d Q
theorem e_Day_mostWaited {L : Nat} {xs : Nat → Int32} {d : Nat} {Q : AQ} {M : AM}  (h : v_Day_mostWaited L xs d Q 0 [(0, .ref 15)] [] M) : am_Call (gG L xs) (d + 1) c_Day_mostWaited [.ref 15] M Q := am_enter k_Day_mostWaited (Nat.le_of_ble_eq_true rfl) rfl h
abbrev v_Day_wentWithout (L : Nat) (xs : Nat → Int32) (d : Nat) (Q : AQ) : AK := av (gG L xs) prog_5_method_16_code cx_Day 5 (some .int) d Q
theorem e_Day_wentWithout {L : Nat} {xs : Nat → Int32} {d : Nat} {Q : AQ} {M : AM} {x1 : Int32} (h : v_Day_wentWithout L xs d Q 0 [(0, .ref 15), (1, .int x1)] [] M) : am_Call (gG L xs) (d + 1) c_Day_wentWithout [.ref 15, .int x1] M Q := am_enter k_Day_wentWithout (Nat.le_of_ble_eq_true rfl) rfl h
abbrev v_Day_waitsWithin (L : Nat) (xs : Nat → Int32) (d : Nat) (Q : AQ) : AK := av (gG L xs) prog_5_method_17_code cx_Day 3 (some .int) d Q
theorem e_Day_waitsWithin {L : Nat} {xs : Nat → Int32} {d : Nat} {Q : AQ} {M : AM}  (h : v_Day_waitsWithin L xs d Q 0 [(0, .ref 15)] [] M) : am_Call (gG L xs) (d + 1) c_Day_waitsWithin [.ref 15] M Q := am_enter k_Day_waitsWithin (Nat.le_of_ble_eq_true rfl) rfl h
abbrev v_Day_heightsWithin (L : Nat) (xs : Nat → Int32) (d : Nat) (Q : AQ) : AK := av (gG L xs) prog_5_method_18_code cx_Day 3 (some .int) d Q
theorem e_Day_heightsWithin {L : Nat} {xs : Nat → Int32} {d : Nat} {Q : AQ} {M : AM}  (h : v_Day_heightsWithin L xs d Q 0 [(0, .ref 15)] [] M) : am_Call (gG L xs) (d + 1) c_Day_heightsWithin [.ref 15] M Q := am_enter k_Day_heightsWithin (Nat.le_of_ble_eq_true rfl) rfl h
abbrev v_Day_lastIn (L : Nat) (xs : Nat → Int32) (d : Nat) (Q : AQ) : AK := av (gG L xs) prog_5_method_19_code cx_Day 3 (some .int) d Q
theorem e_Day_lastIn {L : Nat} {xs : Nat → Int32} {d : Nat} {Q : AQ} {M : AM}  (h : v_Day_lastIn L xs d Q 0 [(0, .ref 15)] [] M) : am_Call (gG L xs) (d + 1) c_Day_lastIn [.ref 15] M Q := am_enter k_Day_lastIn (Nat.le_of_ble_eq_true rfl) rfl h
abbrev v_Deed_leads (L : Nat) (xs : Nat → Int32) (d : Nat) (Q : AQ) : AK := av (gG L xs) prog_6_method_2_code cx_Deed 2 (some .int) d Q
theorem e_Deed_leads {L : Nat} {xs : Nat → Int32} {d : Nat} {Q : AQ} {M : AM} {x1 : Int32} (h : v_Deed_leads L xs d Q 0 [(0, .ref 27), (1, .int x1)] [] M) : am_Call (gG L xs) (d + 1) c_Deed_leads [.ref 27, .int x1] M Q := am_enter k_Deed_leads (Nat.le_of_ble_eq_true rfl) rfl h
abbrev v_Deed_waitingNow (L : Nat) (xs : Nat → Int32) (d : Nat) (Q : AQ) : AK := av (gG L xs) prog_6_method_3_code cx_Deed 1 (some .int) d Q
theorem e_Deed_waitingNow {L : Nat} {xs : Nat → Int32} {d : Nat} {Q : AQ} {M : AM}  (h : v_Deed_waitingNow L xs d Q 0 [(0, .ref 27)] [] M) : am_Call (gG L xs) (d + 1) c_Deed_waitingNow [.ref 27] M Q := am_enter k_Deed_waitingNow (Nat.le_of_ble_eq_true rfl) rfl h
abbrev v_Deed_numberIn (L : Nat) (xs : Nat → Int32) (d : Nat) (Q : AQ) : AK := av (gG L xs) prog_6_method_4_code cx_Deed 1 (some .int) d Q
theorem e_Deed_numberIn {L : Nat} {xs : Nat → Int32} {d : Nat} {Q : AQ} {M : AM}  (h : v_Deed_numberIn L xs d Q 0 [(0, .ref 27)] [] M) : am_Call (gG L xs) (d + 1) c_Deed_numberIn [.ref 27] M Q := am_enter k_Deed_numberIn (Nat.le_of_ble_eq_true rfl) rfl h
abbrev v_Deed_inSince (L : Nat) (xs : Nat → Int32) (d : Nat) (Q : AQ) : AK := av (gG L xs) prog_6_method_5_code cx_Deed 2 (some .int) d Q
theorem e_Deed_inSince {L : Nat} {xs : Nat → Int32} {d : Nat} {Q : AQ} {M : AM} {x1 : Int32} (h : v_Deed_inSince L xs d Q 0 [(0, .ref 27), (1, .int x1)] [] M) : am_Call (gG L xs) (d + 1) c_Deed_inSince [.ref 27, .int x1] M Q := am_enter k_Deed_inSince (Nat.le_of_ble_eq_true rfl) rfl h
abbrev v_Deed_opensNow (L : Nat) (xs : Nat → Int32) (d : Nat) (Q : AQ) : AK := av (gG L xs) prog_6_method_6_code cx_Deed 3 (some .int) d Q
theorem e_Deed_opensNow {L : Nat} {xs : Nat → Int32} {d : Nat} {Q : AQ} {M : AM}  (h : v_Deed_opensNow L xs d Q 0 [(0, .ref 27)] [] M) : am_Call (gG L xs) (d + 1) c_Deed_opensNow [.ref 27] M Q := am_enter k_Deed_opensNow (Nat.le_of_ble_eq_true rfl) rfl h
abbrev v_Deed_sendsAway (L : Nat) (xs : Nat → Int32) (d : Nat) (Q : AQ) : AK := av (gG L xs) prog_6_method_7_code cx_Deed 2 (some .int) d Q
theorem e_Deed_sendsAway {L : Nat} {xs : Nat → Int32} {d : Nat} {Q : AQ} {M : AM} {x1 : Int32} (h : v_Deed_sendsAway L xs d Q 0 [(0, .ref 27), (1, .int x1)] [] M) : am_Call (gG L xs) (d + 1) c_Deed_sendsAway [.ref 27, .int x1] M Q := am_enter k_Deed_sendsAway (Nat.le_of_ble_eq_true rfl) rfl h
abbrev v_Deed_dawns (L : Nat) (xs : Nat → Int32) (d : Nat) (Q : AQ) : AK := av (gG L xs) prog_6_method_8_code cx_Deed 2 (some .int) d Q
theorem e_Deed_dawns {L : Nat} {xs : Nat → Int32} {d : Nat} {Q : AQ} {M : AM}  (h : v_Deed_dawns L xs d Q 0 [(0, .ref 27)] [] M) : am_Call (gG L xs) (d + 1) c_Deed_dawns [.ref 27] M Q := am_enter k_Deed_dawns (Nat.le_of_ble_eq_true rfl) rfl h
abbrev v_Deed_hasImage (L : Nat) (xs : Nat → Int32) (d : Nat) (Q : AQ) : AK := av (gG L xs) prog_6_method_9_code cx_Deed 1 (some .boolean) d Q
theorem e_Deed_hasImage {L : Nat} {xs : Nat → Int32} {d : Nat} {Q : AQ} {M : AM}  (h : v_Deed_hasImage L xs d Q 0 [(0, .ref 27)] [] M) : am_Call (gG L xs) (d + 1) c_Deed_hasImage [.ref 27] M Q := am_enter k_Deed_hasImage (Nat.le_of_ble_eq_true rfl) rfl h
abbrev v_Deed_keepsImage (L : Nat) (xs : Nat → Int32) (d : Nat) (Q : AQ) : AK := av (gG L xs) prog_6_method_10_code cx_Deed 1 (some .int) d Q
theorem e_Deed_keepsImage {L : Nat} {xs : Nat → Int32} {d : Nat} {Q : AQ} {M : AM}  (h : v_Deed_keepsImage L xs d Q 0 [(0, .ref 27)] [] M) : am_Call (gG L xs) (d + 1) c_Deed_keepsImage [.ref 27] M Q := am_enter k_Deed_keepsImage (Nat.le_of_ble_eq_true rfl) rfl h
abbrev v_Deed_laysBack (L : Nat) (xs : Nat → Int32) (d : Nat) (Q : AQ) : AK := av (gG L xs) prog_6_method_11_code cx_Deed 1 (some .int) d Q
theorem e_Deed_laysBack {L : Nat} {xs : Nat → Int32} {d : Nat} {Q : AQ} {M : AM}  (h : v_Deed_laysBack L xs d Q 0 [(0, .ref 27)] [] M) : am_Call (gG L xs) (d + 1) c_Deed_laysBack [.ref 27] M Q := am_enter k_Deed_laysBack (Nat.le_of_ble_eq_true rfl) rfl h
abbrev v_Law_learns (L : Nat) (xs : Nat → Int32) (d : Nat) (Q : AQ) : AK := av (gG L xs) prog_7_method_2_code cx_Law 2 none d Q
theorem e_Law_learns {L : Nat} {xs : Nat → Int32} {d : Nat} {Q : AQ} {M : AM}  (h : v_Law_learns L xs d Q 0 [(0, .ref 4), (1, .ref 8)] [] M) : am_Call (gG L xs) (d + 1) c_Law_learns [.ref 4, .ref 8] M Q := am_enter k_Law_learns (Nat.le_of_ble_eq_true rfl) rfl h
abbrev v_Law_tallness (L : Nat) (xs : Nat → Int32) (d : Nat) (Q : AQ) : AK := av (gG L xs) prog_7_method_3_code cx_Law 10 (some .int) d Q
theorem e_Law_tallness {L : Nat} {xs : Nat → Int32} {d : Nat} {Q : AQ} {M : AM} {c1 : Nat} {x2 : Int32} {x3 : Int32} {x4 : Int32} (h : v_Law_tallness L xs d Q 0 [(0, .ref 4), (1, .ref c1), (2, .int x2), (3, .int x3), (4, .int x4)] [] M) : am_Call (gG L xs) (d + 1) c_Law_tallness [.ref 4, .ref c1, .int x2, .int x3, .int x4] M Q := am_enter k_Law_tallness (Nat.le_of_ble_eq_true rfl) rfl h
abbrev v_Law_joined (L : Nat) (xs : Nat → Int32) (d : Nat) (Q : AQ) : AK := av (gG L xs) prog_7_method_4_code cx_Law 3 (some .int) d Q
theorem e_Law_joined {L : Nat} {xs : Nat → Int32} {d : Nat} {Q : AQ} {M : AM} {x0 : Int32} {x1 : Int32} {x2 : Int32} (h : v_Law_joined L xs d Q 0 [(0, .int x0), (1, .int x1), (2, .int x2)] [] M) : am_Call (gG L xs) (d + 1) c_Law_joined [.int x0, .int x1, .int x2] M Q := am_enter k_Law_joined (Nat.le_of_ble_eq_true rfl) rfl h
abbrev v_Picker_picks (L : Nat) (xs : Nat → Int32) (d : Nat) (Q : AQ) : AK := av (gG L xs) prog_8_method_2_code cx_Picker 11 (some .int) d Q
theorem e_Picker_picks {L : Nat} {xs : Nat → Int32} {d : Nat} {Q : AQ} {M : AM} {c1 : Nat} {x2 : Int32} {x3 : Int32} {x4 : Int32} (h : v_Picker_picks L xs d Q 0 [(0, .ref 12), (1, .ref c1), (2, .int x2), (3, .int x3), (4, .int x4)] [] M) : am_Call (gG L xs) (d + 1) c_Picker_picks [.ref 12, .ref c1, .int x2, .int x3, .int x4] M Q := am_enter k_Picker_picks (Nat.le_of_ble_eq_true rfl) rfl h
abbrev v_Reader_isFull (L : Nat) (xs : Nat → Int32) (d : Nat) (Q : AQ) : AK := av (gG L xs) prog_9_method_2_code cx_Reader 1 (some .boolean) d Q
theorem e_Reader_isFull {L : Nat} {xs : Nat → Int32} {d : Nat} {Q : AQ} {M : AM}  (h : v_Reader_isFull L xs d Q 0 [(0, .ref 8)] [] M) : am_Call (gG L xs) (d + 1) c_Reader_isFull [.ref 8] M Q := am_enter k_Reader_isFull (Nat.le_of_ble_eq_true rfl) rfl h
abbrev v_Reader_size (L : Nat) (xs : Nat → Int32) (d : Nat) (Q : AQ) : AK := av (gG L xs) prog_9_method_3_code cx_Reader 1 (some .int) d Q
theorem e_Reader_size {L : Nat} {xs : Nat → Int32} {d : Nat} {Q : AQ} {M : AM}  (h : v_Reader_size L xs d Q 0 [(0, .ref 8)] [] M) : am_Call (gG L xs) (d + 1) c_Reader_size [.ref 8] M Q := am_enter k_Reader_size (Nat.le_of_ble_eq_true rfl) rfl h
abbrev v_Reader_takes (L : Nat) (xs : Nat → Int32) (d : Nat) (Q : AQ) : AK := av (gG L xs) prog_9_method_4_code cx_Reader 2 (some .int) d Q
theorem e_Reader_takes {L : Nat} {xs : Nat → Int32} {d : Nat} {Q : AQ} {M : AM} {x1 : Int32} (h : v_Reader_takes L xs d Q 0 [(0, .ref 8), (1, .int x1)] [] M) : am_Call (gG L xs) (d + 1) c_Reader_takes [.ref 8, .int x1] M Q := am_enter k_Reader_takes (Nat.le_of_ble_eq_true rfl) rfl h
abbrev v_Reader_clears (L : Nat) (xs : Nat → Int32) (d : Nat) (Q : AQ) : AK := av (gG L xs) prog_9_method_5_code cx_Reader 1 none d Q
theorem e_Reader_clears {L : Nat} {xs : Nat → Int32} {d : Nat} {Q : AQ} {M : AM}  (h : v_Reader_clears L xs d Q 0 [(0, .ref 8)] [] M) : am_Call (gG L xs) (d + 1) c_Reader_clears [.ref 8] M Q := am_enter k_Reader_clears (Nat.le_of_ble_eq_true rfl) rfl h
abbrev v_Reader_faultOfText (L : Nat) (xs : Nat → Int32) (d : Nat) (Q : AQ) : AK := av (gG L xs) prog_9_method_6_code cx_Reader 2 (some .int) d Q
theorem e_Reader_faultOfText {L : Nat} {xs : Nat → Int32} {d : Nat} {Q : AQ} {M : AM}  (h : v_Reader_faultOfText L xs d Q 0 [(0, .ref 8)] [] M) : am_Call (gG L xs) (d + 1) c_Reader_faultOfText [.ref 8] M Q := am_enter k_Reader_faultOfText (Nat.le_of_ble_eq_true rfl) rfl h
abbrev v_Reader_copySteps (L : Nat) (xs : Nat → Int32) (d : Nat) (Q : AQ) : AK := av (gG L xs) prog_9_method_7_code cx_Reader 4 (some .int) d Q
theorem e_Reader_copySteps {L : Nat} {xs : Nat → Int32} {d : Nat} {Q : AQ} {M : AM}  (h : v_Reader_copySteps L xs d Q 0 [(0, .ref 8), (1, .ref 5), (2, .ref 6)] [] M) : am_Call (gG L xs) (d + 1) c_Reader_copySteps [.ref 8, .ref 5, .ref 6] M Q := am_enter k_Reader_copySteps (Nat.le_of_ble_eq_true rfl) rfl h
abbrev v_Reader_reads (L : Nat) (xs : Nat → Int32) (d : Nat) (Q : AQ) : AK := av (gG L xs) prog_9_method_8_code cx_Reader 2 (some .boolean) d Q
theorem e_Reader_reads {L : Nat} {xs : Nat → Int32} {d : Nat} {Q : AQ} {M : AM}  (h : v_Reader_reads L xs d Q 0 [(0, .ref 8)] [] M) : am_Call (gG L xs) (d + 1) c_Reader_reads [.ref 8] M Q := am_enter k_Reader_reads (Nat.le_of_ble_eq_true rfl) rfl h
abbrev v_Reader_layer (L : Nat) (xs : Nat → Int32) (d : Nat) (Q : AQ) : AK := av (gG L xs) prog_9_method_9_code cx_Reader 6 (some .boolean) d Q
theorem e_Reader_layer {L : Nat} {xs : Nat → Int32} {d : Nat} {Q : AQ} {M : AM} {x1 : Int32} {x2 : Int32} (h : v_Reader_layer L xs d Q 0 [(0, .ref 8), (1, .int x1), (2, .int x2)] [] M) : am_Call (gG L xs) (d + 1) c_Reader_layer [.ref 8, .int x1, .int x2] M Q := am_enter k_Reader_layer (Nat.le_of_ble_eq_true rfl) rfl h
abbrev v_Reader_operand (L : Nat) (xs : Nat → Int32) (d : Nat) (Q : AQ) : AK := av (gG L xs) prog_9_method_10_code cx_Reader 3 (some .boolean) d Q
theorem e_Reader_operand {L : Nat} {xs : Nat → Int32} {d : Nat} {Q : AQ} {M : AM} {x1 : Int32} (h : v_Reader_operand L xs d Q 0 [(0, .ref 8), (1, .int x1)] [] M) : am_Call (gG L xs) (d + 1) c_Reader_operand [.ref 8, .int x1] M Q := am_enter k_Reader_operand (Nat.le_of_ble_eq_true rfl) rfl h
abbrev v_Reader_digits (L : Nat) (xs : Nat → Int32) (d : Nat) (Q : AQ) : AK := av (gG L xs) prog_9_method_11_code cx_Reader 3 (some .boolean) d Q
theorem e_Reader_digits {L : Nat} {xs : Nat → Int32} {d : Nat} {Q : AQ} {M : AM}  (h : v_Reader_digits L xs d Q 0 [(0, .ref 8)] [] M) : am_Call (gG L xs) (d + 1) c_Reader_digits [.ref 8] M Q := am_enter k_Reader_digits (Nat.le_of_ble_eq_true rfl) rfl h
abbrev v_Reader_sign (L : Nat) (xs : Nat → Int32) (d : Nat) (Q : AQ) : AK := av (gG L xs) prog_9_method_12_code cx_Reader 1 (some .int) d Q
theorem e_Reader_sign {L : Nat} {xs : Nat → Int32} {d : Nat} {Q : AQ} {M : AM}  (h : v_Reader_sign L xs d Q 0 [(0, .ref 8)] [] M) : am_Call (gG L xs) (d + 1) c_Reader_sign [.ref 8] M Q := am_enter k_Reader_sign (Nat.le_of_ble_eq_true rfl) rfl h
abbrev v_Reader_makes (L : Nat) (xs : Nat → Int32) (d : Nat) (Q : AQ) : AK := av (gG L xs) prog_9_method_13_code cx_Reader 3 none d Q
theorem e_Reader_makes {L : Nat} {xs : Nat → Int32} {d : Nat} {Q : AQ} {M : AM} {x1 : Int32} {x2 : Int32} (h : v_Reader_makes L xs d Q 0 [(0, .ref 8), (1, .int x1), (2, .int x2)] [] M) : am_Call (gG L xs) (d + 1) c_Reader_makes [.ref 8, .int x1, .int x2] M Q := am_enter k_Reader_makes (Nat.le_of_ble_eq_true rfl) rfl h
abbrev v_Reader_isDigit (L : Nat) (xs : Nat → Int32) (d : Nat) (Q : AQ) : AK := av (gG L xs) prog_9_method_14_code cx_Reader 1 (some .boolean) d Q
theorem e_Reader_isDigit {L : Nat} {xs : Nat → Int32} {d : Nat} {Q : AQ} {M : AM} {x0 : Int32} (h : v_Reader_isDigit L xs d Q 0 [(0, .int x0)] [] M) : am_Call (gG L xs) (d + 1) c_Reader_isDigit [.int x0] M Q := am_enter k_Reader_isDigit (Nat.le_of_ble_eq_true rfl) rfl h
abbrev v_Reader_isName (L : Nat) (xs : Nat → Int32) (d : Nat) (Q : AQ) : AK := av (gG L xs) prog_9_method_15_code cx_Reader 1 (some .boolean) d Q
theorem e_Reader_isName {L : Nat} {xs : Nat → Int32} {d : Nat} {Q : AQ} {M : AM} {x0 : Int32} (h : v_Reader_isName L xs d Q 0 [(0, .int x0)] [] M) : am_Call (gG L xs) (d + 1) c_Reader_isName [.int x0] M Q := am_enter k_Reader_isName (Nat.le_of_ble_eq_true rfl) rfl h
abbrev v_Reader_rankOf (L : Nat) (xs : Nat → Int32) (d : Nat) (Q : AQ) : AK := av (gG L xs) prog_9_method_16_code cx_Reader 1 (some .int) d Q
theorem e_Reader_rankOf {L : Nat} {xs : Nat → Int32} {d : Nat} {Q : AQ} {M : AM} {x0 : Int32} (h : v_Reader_rankOf L xs d Q 0 [(0, .int x0)] [] M) : am_Call (gG L xs) (d + 1) c_Reader_rankOf [.int x0] M Q := am_enter k_Reader_rankOf (Nat.le_of_ble_eq_true rfl) rfl h
abbrev v_Seen_firstUnlike (L : Nat) (xs : Nat → Int32) (d : Nat) (Q : AQ) : AK := av (gG L xs) prog_10_method_2_code cx_Seen 2 (some .int) d Q
theorem e_Seen_firstUnlike {L : Nat} {xs : Nat → Int32} {d : Nat} {Q : AQ} {M : AM} {x1 : Int32} (h : v_Seen_firstUnlike L xs d Q 0 [(0, .ref 26), (1, .int x1)] [] M) : am_Call (gG L xs) (d + 1) c_Seen_firstUnlike [.ref 26, .int x1] M Q := am_enter k_Seen_firstUnlike (Nat.le_of_ble_eq_true rfl) rfl h
abbrev v_Seen_goesOnUnlike (L : Nat) (xs : Nat → Int32) (d : Nat) (Q : AQ) : AK := av (gG L xs) prog_10_method_3_code cx_Seen 4 (some .int) d Q
theorem e_Seen_goesOnUnlike {L : Nat} {xs : Nat → Int32} {d : Nat} {Q : AQ} {M : AM} {x1 : Int32} (h : v_Seen_goesOnUnlike L xs d Q 0 [(0, .ref 26), (1, .int x1)] [] M) : am_Call (gG L xs) (d + 1) c_Seen_goesOnUnlike [.ref 26, .int x1] M Q := am_enter k_Seen_goesOnUnlike (Nat.le_of_ble_eq_true rfl) rfl h
abbrev v_Seen_setsThatFit (L : Nat) (xs : Nat → Int32) (d : Nat) (Q : AQ) : AK := av (gG L xs) prog_10_method_4_code cx_Seen 6 (some .int) d Q
theorem e_Seen_setsThatFit {L : Nat} {xs : Nat → Int32} {d : Nat} {Q : AQ} {M : AM} {x1 : Int32} {x2 : Int32} (h : v_Seen_setsThatFit L xs d Q 0 [(0, .ref 26), (1, .int x1), (2, .int x2)] [] M) : am_Call (gG L xs) (d + 1) c_Seen_setsThatFit [.ref 26, .int x1, .int x2] M Q := am_enter k_Seen_setsThatFit (Nat.le_of_ble_eq_true rfl) rfl h
abbrev v_Seen_leastHeeled (L : Nat) (xs : Nat → Int32) (d : Nat) (Q : AQ) : AK := av (gG L xs) prog_10_method_5_code cx_Seen 6 (some .int) d Q
theorem e_Seen_leastHeeled {L : Nat} {xs : Nat → Int32} {d : Nat} {Q : AQ} {M : AM} {x1 : Int32} (h : v_Seen_leastHeeled L xs d Q 0 [(0, .ref 26), (1, .int x1)] [] M) : am_Call (gG L xs) (d + 1) c_Seen_leastHeeled [.ref 26, .int x1] M Q := am_enter k_Seen_leastHeeled (Nat.le_of_ble_eq_true rfl) rfl h
abbrev v_Seen_drawnDays (L : Nat) (xs : Nat → Int32) (d : Nat) (Q : AQ) : AK := av (gG L xs) prog_10_method_6_code cx_Seen 8 (some .int) d Q
theorem e_Seen_drawnDays {L : Nat} {xs : Nat → Int32} {d : Nat} {Q : AQ} {M : AM} {x1 : Int32} {x2 : Int32} {x3 : Int32} (h : v_Seen_drawnDays L xs d Q 0 [(0, .ref 26), (1, .int x1), (2, .int x2), (3, .int x3)] [] M) : am_Call (gG L xs) (d + 1) c_Seen_drawnDays [.ref 26, .int x1, .int x2, .int x3] M Q := am_enter k_Seen_drawnDays (Nat.le_of_ble_eq_true rfl) rfl h
abbrev v_Shelves_isShelf (L : Nat) (xs : Nat → Int32) (d : Nat) (Q : AQ) : AK := av (gG L xs) prog_11_method_2_code cx_Shelves 1 (some .boolean) d Q
theorem e_Shelves_isShelf {L : Nat} {xs : Nat → Int32} {d : Nat} {Q : AQ} {M : AM} {x0 : Int32} (h : v_Shelves_isShelf L xs d Q 0 [(0, .int x0)] [] M) : am_Call (gG L xs) (d + 1) c_Shelves_isShelf [.int x0] M Q := am_enter k_Shelves_isShelf (Nat.le_of_ble_eq_true rfl) rfl h
abbrev v_Shelves_isBare (L : Nat) (xs : Nat → Int32) (d : Nat) (Q : AQ) : AK := av (gG L xs) prog_11_method_3_code cx_Shelves 2 (some .boolean) d Q
theorem e_Shelves_isBare {L : Nat} {xs : Nat → Int32} {d : Nat} {Q : AQ} {M : AM} {x1 : Int32} (h : v_Shelves_isBare L xs d Q 0 [(0, .ref 21), (1, .int x1)] [] M) : am_Call (gG L xs) (d + 1) c_Shelves_isBare [.ref 21, .int x1] M Q := am_enter k_Shelves_isBare (Nat.le_of_ble_eq_true rfl) rfl h
abbrev v_Shelves_bodyOn (L : Nat) (xs : Nat → Int32) (d : Nat) (Q : AQ) : AK := av (gG L xs) prog_11_method_4_code cx_Shelves 2 (some .int) d Q
theorem e_Shelves_bodyOn {L : Nat} {xs : Nat → Int32} {d : Nat} {Q : AQ} {M : AM} {x1 : Int32} (h : v_Shelves_bodyOn L xs d Q 0 [(0, .ref 21), (1, .int x1)] [] M) : am_Call (gG L xs) (d + 1) c_Shelves_bodyOn [.ref 21, .int x1] M Q := am_enter k_Shelves_bodyOn (Nat.le_of_ble_eq_true rfl) rfl h
abbrev v_Shelves_holdsRow (L : Nat) (xs : Nat → Int32) (d : Nat) (Q : AQ) : AK := av (gG L xs) prog_11_method_5_code cx_Shelves 3 (some .boolean) d Q
theorem e_Shelves_holdsRow {L : Nat} {xs : Nat → Int32} {d : Nat} {Q : AQ} {M : AM} {x1 : Int32} {x2 : Int32} (h : v_Shelves_holdsRow L xs d Q 0 [(0, .ref 21), (1, .int x1), (2, .int x2)] [] M) : am_Call (gG L xs) (d + 1) c_Shelves_holdsRow [.ref 21, .int x1, .int x2] M Q := am_enter k_Shelves_holdsRow (Nat.le_of_ble_eq_true rfl) rfl h
abbrev v_Shelves_holdsLikeRows (L : Nat) (xs : Nat → Int32) (d : Nat) (Q : AQ) : AK := av (gG L xs) prog_11_method_6_code cx_Shelves 3 (some .boolean) d Q
theorem e_Shelves_holdsLikeRows {L : Nat} {xs : Nat → Int32} {d : Nat} {Q : AQ} {M : AM} {x1 : Int32} {x2 : Int32} (h : v_Shelves_holdsLikeRows L xs d Q 0 [(0, .ref 21), (1, .int x1), (2, .int x2)] [] M) : am_Call (gG L xs) (d + 1) c_Shelves_holdsLikeRows [.ref 21, .int x1, .int x2] M Q := am_enter k_Shelves_holdsLikeRows (Nat.le_of_ble_eq_true rfl) rfl h
abbrev v_Shelves_sizeOf (L : Nat) (xs : Nat → Int32) (d : Nat) (Q : AQ) : AK := av (gG L xs) prog_11_method_7_code cx_Shelves 2 (some .int) d Q
theorem e_Shelves_sizeOf {L : Nat} {xs : Nat → Int32} {d : Nat} {Q : AQ} {M : AM} {x1 : Int32} (h : v_Shelves_sizeOf L xs d Q 0 [(0, .ref 21), (1, .int x1)] [] M) : am_Call (gG L xs) (d + 1) c_Shelves_sizeOf [.ref 21, .int x1] M Q := am_enter k_Shelves_sizeOf (Nat.le_of_ble_eq_true rfl) rfl h
abbrev v_Shelves_isPlace (L : Nat) (xs : Nat → Int32) (d : Nat) (Q : AQ) : AK := av (gG L xs) prog_11_method_8_code cx_Shelves 3 (some .boolean) d Q
theorem e_Shelves_isPlace {L : Nat} {xs : Nat → Int32} {d : Nat} {Q : AQ} {M : AM} {x1 : Int32} {x2 : Int32} (h : v_Shelves_isPlace L xs d Q 0 [(0, .ref 21), (1, .int x1), (2, .int x2)] [] M) : am_Call (gG L xs) (d + 1) c_Shelves_isPlace [.ref 21, .int x1, .int x2] M Q := am_enter k_Shelves_isPlace (Nat.le_of_ble_eq_true rfl) rfl h
abbrev v_Shelves_isSpan (L : Nat) (xs : Nat → Int32) (d : Nat) (Q : AQ) : AK := av (gG L xs) prog_11_method_9_code cx_Shelves 5 (some .boolean) d Q
theorem e_Shelves_isSpan {L : Nat} {xs : Nat → Int32} {d : Nat} {Q : AQ} {M : AM} {x1 : Int32} {x2 : Int32} {x3 : Int32} (h : v_Shelves_isSpan L xs d Q 0 [(0, .ref 21), (1, .int x1), (2, .int x2), (3, .int x3)] [] M) : am_Call (gG L xs) (d + 1) c_Shelves_isSpan [.ref 21, .int x1, .int x2, .int x3] M Q := am_enter k_Shelves_isSpan (Nat.le_of_ble_eq_true rfl) rfl h
abbrev v_Shelves_holds (L : Nat) (xs : Nat → Int32) (d : Nat) (Q : AQ) : AK := av (gG L xs) prog_11_method_10_code cx_Shelves 3 none d Q
theorem e_Shelves_holds {L : Nat} {xs : Nat → Int32} {d : Nat} {Q : AQ} {M : AM} {x1 : Int32} {x2 : Int32} (h : v_Shelves_holds L xs d Q 0 [(0, .ref 21), (1, .int x1), (2, .int x2)] [] M) : am_Call (gG L xs) (d + 1) c_Shelves_holds [.ref 21, .int x1, .int x2] M Q := am_enter k_Shelves_holds (Nat.le_of_ble_eq_true rfl) rfl h
abbrev v_Shelves_lays (L : Nat) (xs : Nat → Int32) (d : Nat) (Q : AQ) : AK := av (gG L xs) prog_11_method_11_code cx_Shelves 4 none d Q
theorem e_Shelves_lays {L : Nat} {xs : Nat → Int32} {d : Nat} {Q : AQ} {M : AM} {x1 : Int32} {x2 : Int32} {x3 : Int32} (h : v_Shelves_lays L xs d Q 0 [(0, .ref 21), (1, .int x1), (2, .int x2), (3, .int x3)] [] M) : am_Call (gG L xs) (d + 1) c_Shelves_lays [.ref 21, .int x1, .int x2, .int x3] M Q := am_enter k_Shelves_lays (Nat.le_of_ble_eq_true rfl) rfl h
abbrev v_Shelves_cell (L : Nat) (xs : Nat → Int32) (d : Nat) (Q : AQ) : AK := av (gG L xs) prog_11_method_12_code cx_Shelves 3 (some .long) d Q
theorem e_Shelves_cell {L : Nat} {xs : Nat → Int32} {d : Nat} {Q : AQ} {M : AM} {x1 : Int32} {x2 : Int32} (h : v_Shelves_cell L xs d Q 0 [(0, .ref 21), (1, .int x1), (2, .int x2)] [] M) : am_Call (gG L xs) (d + 1) c_Shelves_cell [.ref 21, .int x1, .int x2] M Q := am_enter k_Shelves_cell (Nat.le_of_ble_eq_true rfl) rfl h
abbrev v_Shelves_sets (L : Nat) (xs : Nat → Int32) (d : Nat) (Q : AQ) : AK := av (gG L xs) prog_11_method_13_code cx_Shelves 5 none d Q
theorem e_Shelves_sets {L : Nat} {xs : Nat → Int32} {d : Nat} {Q : AQ} {M : AM} {x1 : Int32} {x2 : Int32} {x3 : Int64} (h : v_Shelves_sets L xs d Q 0 [(0, .ref 21), (1, .int x1), (2, .int x2), (3, .long x3)] [] M) : am_Call (gG L xs) (d + 1) c_Shelves_sets [.ref 21, .int x1, .int x2, .long x3] M Q := am_enter k_Shelves_sets (Nat.le_of_ble_eq_true rfl) rfl h
abbrev v_Shelves_narrowed (L : Nat) (xs : Nat → Int32) (d : Nat) (Q : AQ) : AK := av (gG L xs) prog_11_method_14_code cx_Shelves 3 (some .long) d Q
theorem e_Shelves_narrowed {L : Nat} {xs : Nat → Int32} {d : Nat} {Q : AQ} {M : AM} {x0 : Int32} {x1 : Int64} (h : v_Shelves_narrowed L xs d Q 0 [(0, .int x0), (1, .long x1)] [] M) : am_Call (gG L xs) (d + 1) c_Shelves_narrowed [.int x0, .long x1] M Q := am_enter k_Shelves_narrowed (Nat.le_of_ble_eq_true rfl) rfl h
abbrev v_Shelves_moves (L : Nat) (xs : Nat → Int32) (d : Nat) (Q : AQ) : AK := av (gG L xs) prog_11_method_15_code cx_Shelves 6 none d Q
theorem e_Shelves_moves {L : Nat} {xs : Nat → Int32} {d : Nat} {Q : AQ} {M : AM} {x1 : Int32} {x2 : Int32} {x3 : Int32} {x4 : Int32} {x5 : Int32} (h : v_Shelves_moves L xs d Q 0 [(0, .ref 21), (1, .int x1), (2, .int x2), (3, .int x3), (4, .int x4), (5, .int x5)] [] M) : am_Call (gG L xs) (d + 1) c_Shelves_moves [.ref 21, .int x1, .int x2, .int x3, .int x4, .int x5] M Q := am_enter k_Shelves_moves (Nat.le_of_ble_eq_true rfl) rfl h
abbrev v_Wishes_sentAway (L : Nat) (xs : Nat → Int32) (d : Nat) (Q : AQ) : AK := av (gG L xs) prog_12_method_2_code cx_Wishes 11 (some .int) d Q
theorem e_Wishes_sentAway {L : Nat} {xs : Nat → Int32} {d : Nat} {Q : AQ} {M : AM} {x1 : Int32} {x2 : Int32} {x3 : Int32} {x4 : Int32} (h : v_Wishes_sentAway L xs d Q 0 [(0, .ref 20), (1, .int x1), (2, .int x2), (3, .int x3), (4, .int x4)] [] M) : am_Call (gG L xs) (d + 1) c_Wishes_sentAway [.ref 20, .int x1, .int x2, .int x3, .int x4] M Q := am_enter k_Wishes_sentAway (Nat.le_of_ble_eq_true rfl) rfl h
abbrev v_Wishes_isBetter (L : Nat) (xs : Nat → Int32) (d : Nat) (Q : AQ) : AK := av (gG L xs) prog_12_method_3_code cx_Wishes 4 (some .boolean) d Q
theorem e_Wishes_isBetter {L : Nat} {xs : Nat → Int32} {d : Nat} {Q : AQ} {M : AM} {x0 : Int32} {x1 : Int32} {x2 : Int32} {x3 : Int32} (h : v_Wishes_isBetter L xs d Q 0 [(0, .int x0), (1, .int x1), (2, .int x2), (3, .int x3)] [] M) : am_Call (gG L xs) (d + 1) c_Wishes_isBetter [.int x0, .int x1, .int x2, .int x3] M Q := am_enter k_Wishes_isBetter (Nat.le_of_ble_eq_true rfl) rfl h
abbrev v_Wishes_boysFor (L : Nat) (xs : Nat → Int32) (d : Nat) (Q : AQ) : AK := av (gG L xs) prog_12_method_4_code cx_Wishes 6 (some .int) d Q
theorem e_Wishes_boysFor {L : Nat} {xs : Nat → Int32} {d : Nat} {Q : AQ} {M : AM} {x1 : Int32} {x2 : Int32} {x3 : Int32} (h : v_Wishes_boysFor L xs d Q 0 [(0, .ref 20), (1, .int x1), (2, .int x2), (3, .int x3)] [] M) : am_Call (gG L xs) (d + 1) c_Wishes_boysFor [.ref 20, .int x1, .int x2, .int x3] M Q := am_enter k_Wishes_boysFor (Nat.le_of_ble_eq_true rfl) rfl h
abbrev v_Wishes_heightOfBoys (L : Nat) (xs : Nat → Int32) (d : Nat) (Q : AQ) : AK := av (gG L xs) prog_12_method_5_code cx_Wishes 10 (some .int) d Q
theorem e_Wishes_heightOfBoys {L : Nat} {xs : Nat → Int32} {d : Nat} {Q : AQ} {M : AM} {x1 : Int32} {x2 : Int32} {x3 : Int32} (h : v_Wishes_heightOfBoys L xs d Q 0 [(0, .ref 20), (1, .int x1), (2, .int x2), (3, .int x3)] [] M) : am_Call (gG L xs) (d + 1) c_Wishes_heightOfBoys [.ref 20, .int x1, .int x2, .int x3] M Q := am_enter k_Wishes_heightOfBoys (Nat.le_of_ble_eq_true rfl) rfl h
abbrev v_Wishes_heelsFor (L : Nat) (xs : Nat → Int32) (d : Nat) (Q : AQ) : AK := av (gG L xs) prog_12_method_6_code cx_Wishes 10 (some .int) d Q
theorem e_Wishes_heelsFor {L : Nat} {xs : Nat → Int32} {d : Nat} {Q : AQ} {M : AM} {x1 : Int32} {x2 : Int32} {x3 : Int32} (h : v_Wishes_heelsFor L xs d Q 0 [(0, .ref 20), (1, .int x1), (2, .int x2), (3, .int x3)] [] M) : am_Call (gG L xs) (d + 1) c_Wishes_heelsFor [.ref 20, .int x1, .int x2, .int x3] M Q := am_enter k_Wishes_heelsFor (Nat.le_of_ble_eq_true rfl) rfl h
abbrev v_Wishes_comesBest (L : Nat) (xs : Nat → Int32) (d : Nat) (Q : AQ) : AK := av (gG L xs) prog_12_method_7_code cx_Wishes 6 (some .int) d Q
theorem e_Wishes_comesBest {L : Nat} {xs : Nat → Int32} {d : Nat} {Q : AQ} {M : AM} {x1 : Int32} (h : v_Wishes_comesBest L xs d Q 0 [(0, .ref 20), (1, .int x1)] [] M) : am_Call (gG L xs) (d + 1) c_Wishes_comesBest [.ref 20, .int x1] M Q := am_enter k_Wishes_comesBest (Nat.le_of_ble_eq_true rfl) rfl h
abbrev v_Wishes_allChoose (L : Nat) (xs : Nat → Int32) (d : Nat) (Q : AQ) : AK := av (gG L xs) prog_12_method_8_code cx_Wishes 8 (some .int) d Q
theorem e_Wishes_allChoose {L : Nat} {xs : Nat → Int32} {d : Nat} {Q : AQ} {M : AM} {x1 : Int32} (h : v_Wishes_allChoose L xs d Q 0 [(0, .ref 20), (1, .int x1)] [] M) : am_Call (gG L xs) (d + 1) c_Wishes_allChoose [.ref 20, .int x1] M Q := am_enter k_Wishes_allChoose (Nat.le_of_ble_eq_true rfl) rfl h
abbrev v_Wishes_earliestHeels (L : Nat) (xs : Nat → Int32) (d : Nat) (Q : AQ) : AK := av (gG L xs) prog_12_method_9_code cx_Wishes 6 (some .int) d Q
theorem e_Wishes_earliestHeels {L : Nat} {xs : Nat → Int32} {d : Nat} {Q : AQ} {M : AM} {x1 : Int32} (h : v_Wishes_earliestHeels L xs d Q 0 [(0, .ref 20), (1, .int x1)] [] M) : am_Call (gG L xs) (d + 1) c_Wishes_earliestHeels [.ref 20, .int x1] M Q := am_enter k_Wishes_earliestHeels (Nat.le_of_ble_eq_true rfl) rfl h
abbrev v_Wishes_betterGate (L : Nat) (xs : Nat → Int32) (d : Nat) (Q : AQ) : AK := av (gG L xs) prog_12_method_10_code cx_Wishes 4 (some .int) d Q
theorem e_Wishes_betterGate {L : Nat} {xs : Nat → Int32} {d : Nat} {Q : AQ} {M : AM} {x1 : Int32} (h : v_Wishes_betterGate L xs d Q 0 [(0, .ref 20), (1, .int x1)] [] M) : am_Call (gG L xs) (d + 1) c_Wishes_betterGate [.ref 20, .int x1] M Q := am_enter k_Wishes_betterGate (Nat.le_of_ble_eq_true rfl) rfl h
abbrev v_Wishes_fullestSet (L : Nat) (xs : Nat → Int32) (d : Nat) (Q : AQ) : AK := av (gG L xs) prog_12_method_11_code cx_Wishes 7 (some .int) d Q
theorem e_Wishes_fullestSet {L : Nat} {xs : Nat → Int32} {d : Nat} {Q : AQ} {M : AM} {x1 : Int32} {x2 : Int32} (h : v_Wishes_fullestSet L xs d Q 0 [(0, .ref 20), (1, .int x1), (2, .int x2)] [] M) : am_Call (gG L xs) (d + 1) c_Wishes_fullestSet [.ref 20, .int x1, .int x2] M Q := am_enter k_Wishes_fullestSet (Nat.le_of_ble_eq_true rfl) rfl h
abbrev v_Wishes_placeForAll (L : Nat) (xs : Nat → Int32) (d : Nat) (Q : AQ) : AK := av (gG L xs) prog_12_method_12_code cx_Wishes 3 (some .int) d Q
theorem e_Wishes_placeForAll {L : Nat} {xs : Nat → Int32} {d : Nat} {Q : AQ} {M : AM} {x1 : Int32} (h : v_Wishes_placeForAll L xs d Q 0 [(0, .ref 20), (1, .int x1)] [] M) : am_Call (gG L xs) (d + 1) c_Wishes_placeForAll [.ref 20, .int x1] M Q := am_enter k_Wishes_placeForAll (Nat.le_of_ble_eq_true rfl) rfl h
abbrev v_Mo_person (L : Nat) (xs : Nat → Int32) (d : Nat) (Q : AQ) : AK := av (gG L xs) prog_1_method_2_code cx_Mo 3 (some .int) d Q
theorem e_Mo_person {L : Nat} {xs : Nat → Int32} {d : Nat} {Q : AQ} {M : AM} {x1 : Int32} {x2 : Int32} (h : v_Mo_person L xs d Q 0 [(0, .ref 0), (1, .int x1), (2, .int x2)] [] M) : am_Call (gG L xs) (d + 1) c_Mo_person [.ref 0, .int x1, .int x2] M Q := am_enter k_Mo_person (Nat.le_of_ble_eq_true rfl) rfl h
abbrev v_Mo_people (L : Nat) (xs : Nat → Int32) (d : Nat) (Q : AQ) : AK := av (gG L xs) prog_1_method_3_code cx_Mo 4 (some .int) d Q
theorem e_Mo_people {L : Nat} {xs : Nat → Int32} {d : Nat} {Q : AQ} {M : AM} {x1 : Int32} {x2 : Int32} {x3 : Int32} (h : v_Mo_people L xs d Q 0 [(0, .ref 0), (1, .int x1), (2, .int x2), (3, .int x3)] [] M) : am_Call (gG L xs) (d + 1) c_Mo_people [.ref 0, .int x1, .int x2, .int x3] M Q := am_enter k_Mo_people (Nat.le_of_ble_eq_true rfl) rfl h
abbrev v_Mo_joinFromRow (L : Nat) (xs : Nat → Int32) (d : Nat) (Q : AQ) : AK := av (gG L xs) prog_1_method_4_code cx_Mo 10 (some .int) d Q
theorem e_Mo_joinFromRow {L : Nat} {xs : Nat → Int32} {d : Nat} {Q : AQ} {M : AM} {x1 : Int32} {x2 : Int32} {x3 : Int32} (h : v_Mo_joinFromRow L xs d Q 0 [(0, .ref 0), (1, .int x1), (2, .int x2), (3, .int x3)] [] M) : am_Call (gG L xs) (d + 1) c_Mo_joinFromRow [.ref 0, .int x1, .int x2, .int x3] M Q := am_enter k_Mo_joinFromRow (Nat.le_of_ble_eq_true rfl) rfl h
abbrev v_Mo_mend (L : Nat) (xs : Nat → Int32) (d : Nat) (Q : AQ) : AK := av (gG L xs) prog_1_method_5_code cx_Mo 5 (some .int) d Q
theorem e_Mo_mend {L : Nat} {xs : Nat → Int32} {d : Nat} {Q : AQ} {M : AM} {x1 : Int32} {x2 : Int32} {x3 : Int32} (h : v_Mo_mend L xs d Q 0 [(0, .ref 0), (1, .int x1), (2, .int x2), (3, .int x3)] [] M) : am_Call (gG L xs) (d + 1) c_Mo_mend [.ref 0, .int x1, .int x2, .int x3] M Q := am_enter k_Mo_mend (Nat.le_of_ble_eq_true rfl) rfl h
abbrev v_Mo_of (L : Nat) (xs : Nat → Int32) (d : Nat) (Q : AQ) : AK := av (gG L xs) prog_1_method_6_code cx_Mo 3 (some .int) d Q
theorem e_Mo_of {L : Nat} {xs : Nat → Int32} {d : Nat} {Q : AQ} {M : AM} {x1 : Int32} {x2 : Int32} (h : v_Mo_of L xs d Q 0 [(0, .ref 0), (1, .int x1), (2, .int x2)] [] M) : am_Call (gG L xs) (d + 1) c_Mo_of [.ref 0, .int x1, .int x2] M Q := am_enter k_Mo_of (Nat.le_of_ble_eq_true rfl) rfl h
abbrev v_Mo_feed (L : Nat) (xs : Nat → Int32) (d : Nat) (Q : AQ) : AK := av (gG L xs) prog_1_method_7_code cx_Mo 2 (some .int) d Q
theorem e_Mo_feed {L : Nat} {xs : Nat → Int32} {d : Nat} {Q : AQ} {M : AM} {x1 : Int32} (h : v_Mo_feed L xs d Q 0 [(0, .ref 0), (1, .int x1)] [] M) : am_Call (gG L xs) (d + 1) c_Mo_feed [.ref 0, .int x1] M Q := am_enter k_Mo_feed (Nat.le_of_ble_eq_true rfl) rfl h
abbrev v_Mo_law (L : Nat) (xs : Nat → Int32) (d : Nat) (Q : AQ) : AK := av (gG L xs) prog_1_method_8_code cx_Mo 2 (some .int) d Q
theorem e_Mo_law {L : Nat} {xs : Nat → Int32} {d : Nat} {Q : AQ} {M : AM}  (h : v_Mo_law L xs d Q 0 [(0, .ref 0)] [] M) : am_Call (gG L xs) (d + 1) c_Mo_law [.ref 0] M Q := am_enter k_Mo_law (Nat.le_of_ble_eq_true rfl) rfl h
abbrev v_Mo_tall (L : Nat) (xs : Nat → Int32) (d : Nat) (Q : AQ) : AK := av (gG L xs) prog_1_method_9_code cx_Mo 3 (some .int) d Q
theorem e_Mo_tall {L : Nat} {xs : Nat → Int32} {d : Nat} {Q : AQ} {M : AM} {x1 : Int32} {x2 : Int32} (h : v_Mo_tall L xs d Q 0 [(0, .ref 0), (1, .int x1), (2, .int x2)] [] M) : am_Call (gG L xs) (d + 1) c_Mo_tall [.ref 0, .int x1, .int x2] M Q := am_enter k_Mo_tall (Nat.le_of_ble_eq_true rfl) rfl h
abbrev v_Mo_enters (L : Nat) (xs : Nat → Int32) (d : Nat) (Q : AQ) : AK := av (gG L xs) prog_1_method_10_code cx_Mo 3 (some .int) d Q
theorem e_Mo_enters {L : Nat} {xs : Nat → Int32} {d : Nat} {Q : AQ} {M : AM} {x1 : Int32} {x2 : Int32} (h : v_Mo_enters L xs d Q 0 [(0, .ref 0), (1, .int x1), (2, .int x2)] [] M) : am_Call (gG L xs) (d + 1) c_Mo_enters [.ref 0, .int x1, .int x2] M Q := am_enter k_Mo_enters (Nat.le_of_ble_eq_true rfl) rfl h
abbrev v_Mo_stroke (L : Nat) (xs : Nat → Int32) (d : Nat) (Q : AQ) : AK := av (gG L xs) prog_1_method_11_code cx_Mo 4 (some .int) d Q
theorem e_Mo_stroke {L : Nat} {xs : Nat → Int32} {d : Nat} {Q : AQ} {M : AM} {x1 : Int32} {x2 : Int32} (h : v_Mo_stroke L xs d Q 0 [(0, .ref 0), (1, .int x1), (2, .int x2)] [] M) : am_Call (gG L xs) (d + 1) c_Mo_stroke [.ref 0, .int x1, .int x2] M Q := am_enter k_Mo_stroke (Nat.le_of_ble_eq_true rfl) rfl h
abbrev v_Mo_day (L : Nat) (xs : Nat → Int32) (d : Nat) (Q : AQ) : AK := av (gG L xs) prog_1_method_12_code cx_Mo 4 (some .int) d Q
theorem e_Mo_day {L : Nat} {xs : Nat → Int32} {d : Nat} {Q : AQ} {M : AM} {x1 : Int32} {x2 : Int32} (h : v_Mo_day L xs d Q 0 [(0, .ref 0), (1, .int x1), (2, .int x2)] [] M) : am_Call (gG L xs) (d + 1) c_Mo_day [.ref 0, .int x1, .int x2] M Q := am_enter k_Mo_day (Nat.le_of_ble_eq_true rfl) rfl h
abbrev v_Mo_mean (L : Nat) (xs : Nat → Int32) (d : Nat) (Q : AQ) : AK := av (gG L xs) prog_1_method_13_code cx_Mo 7 (some .long) d Q
theorem e_Mo_mean {L : Nat} {xs : Nat → Int32} {d : Nat} {Q : AQ} {M : AM} {x1 : Int32} {x2 : Int32} {x3 : Int32} (h : v_Mo_mean L xs d Q 0 [(0, .ref 0), (1, .int x1), (2, .int x2), (3, .int x3)] [] M) : am_Call (gG L xs) (d + 1) c_Mo_mean [.ref 0, .int x1, .int x2, .int x3] M Q := am_enter k_Mo_mean (Nat.le_of_ble_eq_true rfl) rfl h
abbrev v_Mo_sharedDivisor (L : Nat) (xs : Nat → Int32) (d : Nat) (Q : AQ) : AK := av (gG L xs) prog_1_method_14_code cx_Mo 6 (some .int) d Q
theorem e_Mo_sharedDivisor {L : Nat} {xs : Nat → Int32} {d : Nat} {Q : AQ} {M : AM} {x0 : Int32} {x1 : Int32} (h : v_Mo_sharedDivisor L xs d Q 0 [(0, .int x0), (1, .int x1)] [] M) : am_Call (gG L xs) (d + 1) c_Mo_sharedDivisor [.int x0, .int x1] M Q := am_enter k_Mo_sharedDivisor (Nat.le_of_ble_eq_true rfl) rfl h
abbrev v_Mo_sent (L : Nat) (xs : Nat → Int32) (d : Nat) (Q : AQ) : AK := av (gG L xs) prog_1_method_15_code cx_Mo 4 (some .int) d Q
theorem e_Mo_sent {L : Nat} {xs : Nat → Int32} {d : Nat} {Q : AQ} {M : AM} {x1 : Int32} {x2 : Int32} {x3 : Int32} (h : v_Mo_sent L xs d Q 0 [(0, .ref 0), (1, .int x1), (2, .int x2), (3, .int x3)] [] M) : am_Call (gG L xs) (d + 1) c_Mo_sent [.ref 0, .int x1, .int x2, .int x3] M Q := am_enter k_Mo_sent (Nat.le_of_ble_eq_true rfl) rfl h
abbrev v_Mo_brought (L : Nat) (xs : Nat → Int32) (d : Nat) (Q : AQ) : AK := av (gG L xs) prog_1_method_16_code cx_Mo 4 (some .int) d Q
theorem e_Mo_brought {L : Nat} {xs : Nat → Int32} {d : Nat} {Q : AQ} {M : AM} {x1 : Int32} {x2 : Int32} {x3 : Int32} (h : v_Mo_brought L xs d Q 0 [(0, .ref 0), (1, .int x1), (2, .int x2), (3, .int x3)] [] M) : am_Call (gG L xs) (d + 1) c_Mo_brought [.ref 0, .int x1, .int x2, .int x3] M Q := am_enter k_Mo_brought (Nat.le_of_ble_eq_true rfl) rfl h
abbrev v_Mo_heels (L : Nat) (xs : Nat → Int32) (d : Nat) (Q : AQ) : AK := av (gG L xs) prog_1_method_17_code cx_Mo 4 (some .int) d Q
theorem e_Mo_heels {L : Nat} {xs : Nat → Int32} {d : Nat} {Q : AQ} {M : AM} {x1 : Int32} {x2 : Int32} {x3 : Int32} (h : v_Mo_heels L xs d Q 0 [(0, .ref 0), (1, .int x1), (2, .int x2), (3, .int x3)] [] M) : am_Call (gG L xs) (d + 1) c_Mo_heels [.ref 0, .int x1, .int x2, .int x3] M Q := am_enter k_Mo_heels (Nat.le_of_ble_eq_true rfl) rfl h
abbrev v_Mo_later (L : Nat) (xs : Nat → Int32) (d : Nat) (Q : AQ) : AK := av (gG L xs) prog_1_method_18_code cx_Mo 2 (some .int) d Q
theorem e_Mo_later {L : Nat} {xs : Nat → Int32} {d : Nat} {Q : AQ} {M : AM} {x1 : Int32} (h : v_Mo_later L xs d Q 0 [(0, .ref 0), (1, .int x1)] [] M) : am_Call (gG L xs) (d + 1) c_Mo_later [.ref 0, .int x1] M Q := am_enter k_Mo_later (Nat.le_of_ble_eq_true rfl) rfl h
abbrev v_Mo_allWear (L : Nat) (xs : Nat → Int32) (d : Nat) (Q : AQ) : AK := av (gG L xs) prog_1_method_19_code cx_Mo 2 (some .int) d Q
theorem e_Mo_allWear {L : Nat} {xs : Nat → Int32} {d : Nat} {Q : AQ} {M : AM} {x1 : Int32} (h : v_Mo_allWear L xs d Q 0 [(0, .ref 0), (1, .int x1)] [] M) : am_Call (gG L xs) (d + 1) c_Mo_allWear [.ref 0, .int x1] M Q := am_enter k_Mo_allWear (Nat.le_of_ble_eq_true rfl) rfl h
abbrev v_Mo_gates (L : Nat) (xs : Nat → Int32) (d : Nat) (Q : AQ) : AK := av (gG L xs) prog_1_method_20_code cx_Mo 4 (some .int) d Q
theorem e_Mo_gates {L : Nat} {xs : Nat → Int32} {d : Nat} {Q : AQ} {M : AM} {x1 : Int32} {x2 : Int32} (h : v_Mo_gates L xs d Q 0 [(0, .ref 0), (1, .int x1), (2, .int x2)] [] M) : am_Call (gG L xs) (d + 1) c_Mo_gates [.ref 0, .int x1, .int x2] M Q := am_enter k_Mo_gates (Nat.le_of_ble_eq_true rfl) rfl h
abbrev v_Mo_where (L : Nat) (xs : Nat → Int32) (d : Nat) (Q : AQ) : AK := av (gG L xs) prog_1_method_21_code cx_Mo 2 (some .int) d Q
theorem e_Mo_where {L : Nat} {xs : Nat → Int32} {d : Nat} {Q : AQ} {M : AM} {x1 : Int32} (h : v_Mo_where L xs d Q 0 [(0, .ref 0), (1, .int x1)] [] M) : am_Call (gG L xs) (d + 1) c_Mo_where [.ref 0, .int x1] M Q := am_enter k_Mo_where (Nat.le_of_ble_eq_true rfl) rfl h
abbrev v_Mo_bestSet (L : Nat) (xs : Nat → Int32) (d : Nat) (Q : AQ) : AK := av (gG L xs) prog_1_method_22_code cx_Mo 3 (some .int) d Q
theorem e_Mo_bestSet {L : Nat} {xs : Nat → Int32} {d : Nat} {Q : AQ} {M : AM} {x1 : Int32} {x2 : Int32} (h : v_Mo_bestSet L xs d Q 0 [(0, .ref 0), (1, .int x1), (2, .int x2)] [] M) : am_Call (gG L xs) (d + 1) c_Mo_bestSet [.ref 0, .int x1, .int x2] M Q := am_enter k_Mo_bestSet (Nat.le_of_ble_eq_true rfl) rfl h
abbrev v_Mo_atLast (L : Nat) (xs : Nat → Int32) (d : Nat) (Q : AQ) : AK := av (gG L xs) prog_1_method_23_code cx_Mo 1 (some .int) d Q
theorem e_Mo_atLast {L : Nat} {xs : Nat → Int32} {d : Nat} {Q : AQ} {M : AM}  (h : v_Mo_atLast L xs d Q 0 [(0, .ref 0)] [] M) : am_Call (gG L xs) (d + 1) c_Mo_atLast [.ref 0] M Q := am_enter k_Mo_atLast (Nat.le_of_ble_eq_true rfl) rfl h
abbrev v_Mo_rule (L : Nat) (xs : Nat → Int32) (d : Nat) (Q : AQ) : AK := av (gG L xs) prog_1_method_24_code cx_Mo 2 (some .int) d Q
theorem e_Mo_rule {L : Nat} {xs : Nat → Int32} {d : Nat} {Q : AQ} {M : AM} {x1 : Int32} (h : v_Mo_rule L xs d Q 0 [(0, .ref 0), (1, .int x1)] [] M) : am_Call (gG L xs) (d + 1) c_Mo_rule [.ref 0, .int x1] M Q := am_enter k_Mo_rule (Nat.le_of_ble_eq_true rfl) rfl h
abbrev v_Mo_judge (L : Nat) (xs : Nat → Int32) (d : Nat) (Q : AQ) : AK := av (gG L xs) prog_1_method_25_code cx_Mo 3 (some .int) d Q
theorem e_Mo_judge {L : Nat} {xs : Nat → Int32} {d : Nat} {Q : AQ} {M : AM} {x1 : Int32} (h : v_Mo_judge L xs d Q 0 [(0, .ref 0), (1, .int x1)] [] M) : am_Call (gG L xs) (d + 1) c_Mo_judge [.ref 0, .int x1] M Q := am_enter k_Mo_judge (Nat.le_of_ble_eq_true rfl) rfl h
abbrev v_Mo_with (L : Nat) (xs : Nat → Int32) (d : Nat) (Q : AQ) : AK := av (gG L xs) prog_1_method_26_code cx_Mo 4 (some .int) d Q
theorem e_Mo_with {L : Nat} {xs : Nat → Int32} {d : Nat} {Q : AQ} {M : AM} {x1 : Int32} {x2 : Int32} (h : v_Mo_with L xs d Q 0 [(0, .ref 0), (1, .int x1), (2, .int x2)] [] M) : am_Call (gG L xs) (d + 1) c_Mo_with [.ref 0, .int x1, .int x2] M Q := am_enter k_Mo_with (Nat.le_of_ble_eq_true rfl) rfl h
abbrev v_Mo_heeled (L : Nat) (xs : Nat → Int32) (d : Nat) (Q : AQ) : AK := av (gG L xs) prog_1_method_27_code cx_Mo 3 (some .int) d Q
theorem e_Mo_heeled {L : Nat} {xs : Nat → Int32} {d : Nat} {Q : AQ} {M : AM} {x1 : Int32} (h : v_Mo_heeled L xs d Q 0 [(0, .ref 0), (1, .int x1)] [] M) : am_Call (gG L xs) (d + 1) c_Mo_heeled [.ref 0, .int x1] M Q := am_enter k_Mo_heeled (Nat.le_of_ble_eq_true rfl) rfl h
abbrev v_Mo_drawn (L : Nat) (xs : Nat → Int32) (d : Nat) (Q : AQ) : AK := av (gG L xs) prog_1_method_28_code cx_Mo 4 (some .int) d Q
theorem e_Mo_drawn {L : Nat} {xs : Nat → Int32} {d : Nat} {Q : AQ} {M : AM} {x1 : Int32} {x2 : Int32} {x3 : Int32} (h : v_Mo_drawn L xs d Q 0 [(0, .ref 0), (1, .int x1), (2, .int x2), (3, .int x3)] [] M) : am_Call (gG L xs) (d + 1) c_Mo_drawn [.ref 0, .int x1, .int x2, .int x3] M Q := am_enter k_Mo_drawn (Nat.le_of_ble_eq_true rfl) rfl h
abbrev v_Mo_refusedAsSeen (L : Nat) (xs : Nat → Int32) (d : Nat) (Q : AQ) : AK := av (gG L xs) prog_1_method_29_code cx_Mo 2 (some .int) d Q
theorem e_Mo_refusedAsSeen {L : Nat} {xs : Nat → Int32} {d : Nat} {Q : AQ} {M : AM} {x1 : Int32} (h : v_Mo_refusedAsSeen L xs d Q 0 [(0, .ref 0), (1, .int x1)] [] M) : am_Call (gG L xs) (d + 1) c_Mo_refusedAsSeen [.ref 0, .int x1] M Q := am_enter k_Mo_refusedAsSeen (Nat.le_of_ble_eq_true rfl) rfl h
abbrev v_Mo_strike (L : Nat) (xs : Nat → Int32) (d : Nat) (Q : AQ) : AK := av (gG L xs) prog_1_method_30_code cx_Mo 2 (some .int) d Q
theorem e_Mo_strike {L : Nat} {xs : Nat → Int32} {d : Nat} {Q : AQ} {M : AM}  (h : v_Mo_strike L xs d Q 0 [(0, .ref 0)] [] M) : am_Call (gG L xs) (d + 1) c_Mo_strike [.ref 0] M Q := am_enter k_Mo_strike (Nat.le_of_ble_eq_true rfl) rfl h
abbrev v_Mo_take (L : Nat) (xs : Nat → Int32) (d : Nat) (Q : AQ) : AK := av (gG L xs) prog_1_method_31_code cx_Mo 2 (some .int) d Q
theorem e_Mo_take {L : Nat} {xs : Nat → Int32} {d : Nat} {Q : AQ} {M : AM} {x1 : Int32} (h : v_Mo_take L xs d Q 0 [(0, .ref 0), (1, .int x1)] [] M) : am_Call (gG L xs) (d + 1) c_Mo_take [.ref 0, .int x1] M Q := am_enter k_Mo_take (Nat.le_of_ble_eq_true rfl) rfl h
abbrev v_Mo_dawn (L : Nat) (xs : Nat → Int32) (d : Nat) (Q : AQ) : AK := av (gG L xs) prog_1_method_32_code cx_Mo 1 (some .int) d Q
theorem e_Mo_dawn {L : Nat} {xs : Nat → Int32} {d : Nat} {Q : AQ} {M : AM}  (h : v_Mo_dawn L xs d Q 0 [(0, .ref 0)] [] M) : am_Call (gG L xs) (d + 1) c_Mo_dawn [.ref 0] M Q := am_enter k_Mo_dawn (Nat.le_of_ble_eq_true rfl) rfl h
abbrev v_Mo_led (L : Nat) (xs : Nat → Int32) (d : Nat) (Q : AQ) : AK := av (gG L xs) prog_1_method_33_code cx_Mo 2 (some .int) d Q
theorem e_Mo_led {L : Nat} {xs : Nat → Int32} {d : Nat} {Q : AQ} {M : AM} {x1 : Int32} (h : v_Mo_led L xs d Q 0 [(0, .ref 0), (1, .int x1)] [] M) : am_Call (gG L xs) (d + 1) c_Mo_led [.ref 0, .int x1] M Q := am_enter k_Mo_led (Nat.le_of_ble_eq_true rfl) rfl h
abbrev v_Mo_image (L : Nat) (xs : Nat → Int32) (d : Nat) (Q : AQ) : AK := av (gG L xs) prog_1_method_34_code cx_Mo 1 (some .int) d Q
theorem e_Mo_image {L : Nat} {xs : Nat → Int32} {d : Nat} {Q : AQ} {M : AM}  (h : v_Mo_image L xs d Q 0 [(0, .ref 0)] [] M) : am_Call (gG L xs) (d + 1) c_Mo_image [.ref 0] M Q := am_enter k_Mo_image (Nat.le_of_ble_eq_true rfl) rfl h
abbrev v_Mo_back (L : Nat) (xs : Nat → Int32) (d : Nat) (Q : AQ) : AK := av (gG L xs) prog_1_method_35_code cx_Mo 1 (some .int) d Q
theorem e_Mo_back {L : Nat} {xs : Nat → Int32} {d : Nat} {Q : AQ} {M : AM}  (h : v_Mo_back L xs d Q 0 [(0, .ref 0)] [] M) : am_Call (gG L xs) (d + 1) c_Mo_back [.ref 0] M Q := am_enter k_Mo_back (Nat.le_of_ble_eq_true rfl) rfl h
abbrev v_Mo_undo (L : Nat) (xs : Nat → Int32) (d : Nat) (Q : AQ) : AK := av (gG L xs) prog_1_method_36_code cx_Mo 1 (some .int) d Q
theorem e_Mo_undo {L : Nat} {xs : Nat → Int32} {d : Nat} {Q : AQ} {M : AM}  (h : v_Mo_undo L xs d Q 0 [(0, .ref 0)] [] M) : am_Call (gG L xs) (d + 1) c_Mo_undo [.ref 0] M Q := am_enter k_Mo_undo (Nat.le_of_ble_eq_true rfl) rfl h
abbrev v_Mo_redo (L : Nat) (xs : Nat → Int32) (d : Nat) (Q : AQ) : AK := av (gG L xs) prog_1_method_37_code cx_Mo 1 (some .int) d Q
theorem e_Mo_redo {L : Nat} {xs : Nat → Int32} {d : Nat} {Q : AQ} {M : AM}  (h : v_Mo_redo L xs d Q 0 [(0, .ref 0)] [] M) : am_Call (gG L xs) (d + 1) c_Mo_redo [.ref 0] M Q := am_enter k_Mo_redo (Nat.le_of_ble_eq_true rfl) rfl h
abbrev v_Mo_body (L : Nat) (xs : Nat → Int32) (d : Nat) (Q : AQ) : AK := av (gG L xs) prog_1_method_38_code cx_Mo 2 (some .int) d Q
theorem e_Mo_body {L : Nat} {xs : Nat → Int32} {d : Nat} {Q : AQ} {M : AM} {x1 : Int32} (h : v_Mo_body L xs d Q 0 [(0, .ref 0), (1, .int x1)] [] M) : am_Call (gG L xs) (d + 1) c_Mo_body [.ref 0, .int x1] M Q := am_enter k_Mo_body (Nat.le_of_ble_eq_true rfl) rfl h
abbrev v_Mo_act (L : Nat) (xs : Nat → Int32) (d : Nat) (Q : AQ) : AK := av (gG L xs) prog_1_method_39_code cx_Mo 4 (some .int) d Q
theorem e_Mo_act {L : Nat} {xs : Nat → Int32} {d : Nat} {Q : AQ} {M : AM} {x1 : Int32} {x2 : Int32} {x3 : Int32} (h : v_Mo_act L xs d Q 0 [(0, .ref 0), (1, .int x1), (2, .int x2), (3, .int x3)] [] M) : am_Call (gG L xs) (d + 1) c_Mo_act [.ref 0, .int x1, .int x2, .int x3] M Q := am_enter k_Mo_act (Nat.le_of_ble_eq_true rfl) rfl h
abbrev v_Mo_trace (L : Nat) (xs : Nat → Int32) (d : Nat) (Q : AQ) : AK := av (gG L xs) prog_1_method_40_code cx_Mo 2 (some .int) d Q
theorem e_Mo_trace {L : Nat} {xs : Nat → Int32} {d : Nat} {Q : AQ} {M : AM} {x1 : Int32} (h : v_Mo_trace L xs d Q 0 [(0, .ref 0), (1, .int x1)] [] M) : am_Call (gG L xs) (d + 1) c_Mo_trace [.ref 0, .int x1] M Q := am_enter k_Mo_trace (Nat.le_of_ble_eq_true rfl) rfl h
abbrev v_Mo_keep (L : Nat) (xs : Nat → Int32) (d : Nat) (Q : AQ) : AK := av (gG L xs) prog_1_method_41_code cx_Mo 3 (some .int) d Q
theorem e_Mo_keep {L : Nat} {xs : Nat → Int32} {d : Nat} {Q : AQ} {M : AM} {x1 : Int32} {x2 : Int32} (h : v_Mo_keep L xs d Q 0 [(0, .ref 0), (1, .int x1), (2, .int x2)] [] M) : am_Call (gG L xs) (d + 1) c_Mo_keep [.ref 0, .int x1, .int x2] M Q := am_enter k_Mo_keep (Nat.le_of_ble_eq_true rfl) rfl h
abbrev v_Mo_row (L : Nat) (xs : Nat → Int32) (d : Nat) (Q : AQ) : AK := av (gG L xs) prog_1_method_42_code cx_Mo 4 (some .int) d Q
theorem e_Mo_row {L : Nat} {xs : Nat → Int32} {d : Nat} {Q : AQ} {M : AM} {x1 : Int32} {x2 : Int32} {x3 : Int32} (h : v_Mo_row L xs d Q 0 [(0, .ref 0), (1, .int x1), (2, .int x2), (3, .int x3)] [] M) : am_Call (gG L xs) (d + 1) c_Mo_row [.ref 0, .int x1, .int x2, .int x3] M Q := am_enter k_Mo_row (Nat.le_of_ble_eq_true rfl) rfl h
abbrev v_Mo_put (L : Nat) (xs : Nat → Int32) (d : Nat) (Q : AQ) : AK := av (gG L xs) prog_1_method_43_code cx_Mo 6 (some .int) d Q
theorem e_Mo_put {L : Nat} {xs : Nat → Int32} {d : Nat} {Q : AQ} {M : AM} {x1 : Int32} {x2 : Int32} {x3 : Int64} (h : v_Mo_put L xs d Q 0 [(0, .ref 0), (1, .int x1), (2, .int x2), (3, .long x3)] [] M) : am_Call (gG L xs) (d + 1) c_Mo_put [.ref 0, .int x1, .int x2, .long x3] M Q := am_enter k_Mo_put (Nat.le_of_ble_eq_true rfl) rfl h
abbrev v_Mo_element (L : Nat) (xs : Nat → Int32) (d : Nat) (Q : AQ) : AK := av (gG L xs) prog_1_method_44_code cx_Mo 3 (some .long) d Q
theorem e_Mo_element {L : Nat} {xs : Nat → Int32} {d : Nat} {Q : AQ} {M : AM} {x1 : Int32} {x2 : Int32} (h : v_Mo_element L xs d Q 0 [(0, .ref 0), (1, .int x1), (2, .int x2)] [] M) : am_Call (gG L xs) (d + 1) c_Mo_element [.ref 0, .int x1, .int x2] M Q := am_enter k_Mo_element (Nat.le_of_ble_eq_true rfl) rfl h
abbrev v_Mo_shift (L : Nat) (xs : Nat → Int32) (d : Nat) (Q : AQ) : AK := av (gG L xs) prog_1_method_45_code cx_Mo 6 (some .int) d Q
theorem e_Mo_shift {L : Nat} {xs : Nat → Int32} {d : Nat} {Q : AQ} {M : AM} {x1 : Int32} {x2 : Int32} {x3 : Int32} {x4 : Int32} {x5 : Int32} (h : v_Mo_shift L xs d Q 0 [(0, .ref 0), (1, .int x1), (2, .int x2), (3, .int x3), (4, .int x4), (5, .int x5)] [] M) : am_Call (gG L xs) (d + 1) c_Mo_shift [.ref 0, .int x1, .int x2, .int x3, .int x4, .int x5] M Q := am_enter k_Mo_shift (Nat.le_of_ble_eq_true rfl) rfl h
abbrev v_Mo_taken (L : Nat) (xs : Nat → Int32) (d : Nat) (Q : AQ) : AK := av (gG L xs) prog_1_method_46_code cx_Mo 4 (some .int) d Q
theorem e_Mo_taken {L : Nat} {xs : Nat → Int32} {d : Nat} {Q : AQ} {M : AM} {x1 : Int32} {x2 : Int32} (h : v_Mo_taken L xs d Q 0 [(0, .ref 0), (1, .int x1), (2, .int x2)] [] M) : am_Call (gG L xs) (d + 1) c_Mo_taken [.ref 0, .int x1, .int x2] M Q := am_enter k_Mo_taken (Nat.le_of_ble_eq_true rfl) rfl h
abbrev v_Mo_count (L : Nat) (xs : Nat → Int32) (d : Nat) (Q : AQ) : AK := av (gG L xs) prog_1_method_47_code cx_Mo 2 (some .int) d Q
theorem e_Mo_count {L : Nat} {xs : Nat → Int32} {d : Nat} {Q : AQ} {M : AM} {x1 : Int32} (h : v_Mo_count L xs d Q 0 [(0, .ref 0), (1, .int x1)] [] M) : am_Call (gG L xs) (d + 1) c_Mo_count [.ref 0, .int x1] M Q := am_enter k_Mo_count (Nat.le_of_ble_eq_true rfl) rfl h
abbrev v_Mo_refusedAsRow (L : Nat) (xs : Nat → Int32) (d : Nat) (Q : AQ) : AK := av (gG L xs) prog_1_method_48_code cx_Mo 2 (some .int) d Q
theorem e_Mo_refusedAsRow {L : Nat} {xs : Nat → Int32} {d : Nat} {Q : AQ} {M : AM} {x1 : Int32} (h : v_Mo_refusedAsRow L xs d Q 0 [(0, .ref 0), (1, .int x1)] [] M) : am_Call (gG L xs) (d + 1) c_Mo_refusedAsRow [.ref 0, .int x1] M Q := am_enter k_Mo_refusedAsRow (Nat.le_of_ble_eq_true rfl) rfl h
abbrev v_Mo_isOneOrAll (L : Nat) (xs : Nat → Int32) (d : Nat) (Q : AQ) : AK := av (gG L xs) prog_1_method_49_code cx_Mo 2 (some .boolean) d Q
theorem e_Mo_isOneOrAll {L : Nat} {xs : Nat → Int32} {d : Nat} {Q : AQ} {M : AM} {x1 : Int32} (h : v_Mo_isOneOrAll L xs d Q 0 [(0, .ref 0), (1, .int x1)] [] M) : am_Call (gG L xs) (d + 1) c_Mo_isOneOrAll [.ref 0, .int x1] M Q := am_enter k_Mo_isOneOrAll (Nat.le_of_ble_eq_true rfl) rfl h
abbrev v_Mo_isDay (L : Nat) (xs : Nat → Int32) (d : Nat) (Q : AQ) : AK := av (gG L xs) prog_1_method_50_code cx_Mo 1 (some .boolean) d Q
theorem e_Mo_isDay {L : Nat} {xs : Nat → Int32} {d : Nat} {Q : AQ} {M : AM} {x0 : Int32} (h : v_Mo_isDay L xs d Q 0 [(0, .int x0)] [] M) : am_Call (gG L xs) (d + 1) c_Mo_isDay [.int x0] M Q := am_enter k_Mo_isDay (Nat.le_of_ble_eq_true rfl) rfl h
abbrev v_Mo_isEither (L : Nat) (xs : Nat → Int32) (d : Nat) (Q : AQ) : AK := av (gG L xs) prog_1_method_51_code cx_Mo 1 (some .boolean) d Q
theorem e_Mo_isEither {L : Nat} {xs : Nat → Int32} {d : Nat} {Q : AQ} {M : AM} {x0 : Int32} (h : v_Mo_isEither L xs d Q 0 [(0, .int x0)] [] M) : am_Call (gG L xs) (d + 1) c_Mo_isEither [.int x0] M Q := am_enter k_Mo_isEither (Nat.le_of_ble_eq_true rfl) rfl h
abbrev v_Md_within (L : Nat) (xs : Nat → Int32) (d : Nat) (Q : AQ) : AK := av (gG L xs) prog_14_method_1_code cx_Md 6 (some .boolean) d Q
theorem e_Md_within {L : Nat} {xs : Nat → Int32} {d : Nat} {Q : AQ} {M : AM} {x0 : Int64} {x2 : Int64} {x4 : Int64} (h : v_Md_within L xs d Q 0 [(0, .long x0), (2, .long x2), (4, .long x4)] [] M) : am_Call (gG L xs) (d + 1) c_Md_within [.long x0, .long x2, .long x4] M Q := am_enter k_Md_within (Nat.le_of_ble_eq_true rfl) rfl h
abbrev v_Md_isIn (L : Nat) (xs : Nat → Int32) (d : Nat) (Q : AQ) : AK := av (gG L xs) prog_14_method_2_code cx_Md 2 (some .boolean) d Q
theorem e_Md_isIn {L : Nat} {xs : Nat → Int32} {d : Nat} {Q : AQ} {M : AM} {x0 : Int32} {x1 : Int32} (h : v_Md_isIn L xs d Q 0 [(0, .int x0), (1, .int x1)] [] M) : am_Call (gG L xs) (d + 1) c_Md_isIn [.int x0, .int x1] M Q := am_enter k_Md_isIn (Nat.le_of_ble_eq_true rfl) rfl h
abbrev v_Md_bitsOf (L : Nat) (xs : Nat → Int32) (d : Nat) (Q : AQ) : AK := av (gG L xs) prog_14_method_3_code cx_Md 3 (some .int) d Q
theorem e_Md_bitsOf {L : Nat} {xs : Nat → Int32} {d : Nat} {Q : AQ} {M : AM} {x0 : Int32} (h : v_Md_bitsOf L xs d Q 0 [(0, .int x0)] [] M) : am_Call (gG L xs) (d + 1) c_Md_bitsOf [.int x0] M Q := am_enter k_Md_bitsOf (Nat.le_of_ble_eq_true rfl) rfl h
abbrev v_Md_becomes (L : Nat) (xs : Nat → Int32) (d : Nat) (Q : AQ) : AK := av (gG L xs) prog_14_method_5_code cx_Md 5 (some .int) d Q
theorem e_Md_becomes {L : Nat} {xs : Nat → Int32} {d : Nat} {Q : AQ} {M : AM} {x1 : Int32} {x2 : Int32} (h : v_Md_becomes L xs d Q 0 [(0, .ref 40), (1, .int x1), (2, .int x2)] [] M) : am_Call (gG L xs) (d + 1) c_Md_becomes [.ref 40, .int x1, .int x2] M Q := am_enter k_Md_becomes (Nat.le_of_ble_eq_true rfl) rfl h
abbrev v_Md_undo (L : Nat) (xs : Nat → Int32) (d : Nat) (Q : AQ) : AK := av (gG L xs) prog_14_method_6_code cx_Md 1 (some .int) d Q
theorem e_Md_undo {L : Nat} {xs : Nat → Int32} {d : Nat} {Q : AQ} {M : AM}  (h : v_Md_undo L xs d Q 0 [(0, .ref 40)] [] M) : am_Call (gG L xs) (d + 1) c_Md_undo [.ref 40] M Q := am_enter k_Md_undo (Nat.le_of_ble_eq_true rfl) rfl h
abbrev v_Md_redo (L : Nat) (xs : Nat → Int32) (d : Nat) (Q : AQ) : AK := av (gG L xs) prog_14_method_7_code cx_Md 1 (some .int) d Q
theorem e_Md_redo {L : Nat} {xs : Nat → Int32} {d : Nat} {Q : AQ} {M : AM}  (h : v_Md_redo L xs d Q 0 [(0, .ref 40)] [] M) : am_Call (gG L xs) (d + 1) c_Md_redo [.ref 40] M Q := am_enter k_Md_redo (Nat.le_of_ble_eq_true rfl) rfl h
abbrev v_Md_isOne (L : Nat) (xs : Nat → Int32) (d : Nat) (Q : AQ) : AK := av (gG L xs) prog_14_method_8_code cx_Md 3 (some .boolean) d Q
theorem e_Md_isOne {L : Nat} {xs : Nat → Int32} {d : Nat} {Q : AQ} {M : AM} {x1 : Int64} (h : v_Md_isOne L xs d Q 0 [(0, .ref 40), (1, .long x1)] [] M) : am_Call (gG L xs) (d + 1) c_Md_isOne [.ref 40, .long x1] M Q := am_enter k_Md_isOne (Nat.le_of_ble_eq_true rfl) rfl h
abbrev v_Md_mayCome (L : Nat) (xs : Nat → Int32) (d : Nat) (Q : AQ) : AK := av (gG L xs) prog_14_method_9_code cx_Md 6 (some .boolean) d Q
theorem e_Md_mayCome {L : Nat} {xs : Nat → Int32} {d : Nat} {Q : AQ} {M : AM} {x0 : Int64} {x2 : Int64} {x4 : Int64} (h : v_Md_mayCome L xs d Q 0 [(0, .long x0), (2, .long x2), (4, .long x4)] [] M) : am_Call (gG L xs) (d + 1) c_Md_mayCome [.long x0, .long x2, .long x4] M Q := am_enter k_Md_mayCome (Nat.le_of_ble_eq_true rfl) rfl h
abbrev v_Md_puts (L : Nat) (xs : Nat → Int32) (d : Nat) (Q : AQ) : AK := av (gG L xs) prog_14_method_10_code cx_Md 5 none d Q
theorem e_Md_puts {L : Nat} {xs : Nat → Int32} {d : Nat} {Q : AQ} {M : AM} {x1 : Int32} {x2 : Int32} {x3 : Int32} {x4 : Int32} (h : v_Md_puts L xs d Q 0 [(0, .ref 40), (1, .int x1), (2, .int x2), (3, .int x3), (4, .int x4)] [] M) : am_Call (gG L xs) (d + 1) c_Md_puts [.ref 40, .int x1, .int x2, .int x3, .int x4] M Q := am_enter k_Md_puts (Nat.le_of_ble_eq_true rfl) rfl h
abbrev v_Md_person (L : Nat) (xs : Nat → Int32) (d : Nat) (Q : AQ) : AK := av (gG L xs) prog_14_method_11_code cx_Md 3 (some .int) d Q
theorem e_Md_person {L : Nat} {xs : Nat → Int32} {d : Nat} {Q : AQ} {M : AM} {x1 : Int32} {x2 : Int32} (h : v_Md_person L xs d Q 0 [(0, .ref 40), (1, .int x1), (2, .int x2)] [] M) : am_Call (gG L xs) (d + 1) c_Md_person [.ref 40, .int x1, .int x2] M Q := am_enter k_Md_person (Nat.le_of_ble_eq_true rfl) rfl h
abbrev v_Md_people (L : Nat) (xs : Nat → Int32) (d : Nat) (Q : AQ) : AK := av (gG L xs) prog_14_method_12_code cx_Md 7 (some .int) d Q
theorem e_Md_people {L : Nat} {xs : Nat → Int32} {d : Nat} {Q : AQ} {M : AM} {x1 : Int32} {x2 : Int32} {x3 : Int32} (h : v_Md_people L xs d Q 0 [(0, .ref 40), (1, .int x1), (2, .int x2), (3, .int x3)] [] M) : am_Call (gG L xs) (d + 1) c_Md_people [.ref 40, .int x1, .int x2, .int x3] M Q := am_enter k_Md_people (Nat.le_of_ble_eq_true rfl) rfl h
abbrev v_Md_mayBecome (L : Nat) (xs : Nat → Int32) (d : Nat) (Q : AQ) : AK := av (gG L xs) prog_14_method_13_code cx_Md 2 (some .boolean) d Q
theorem e_Md_mayBecome {L : Nat} {xs : Nat → Int32} {d : Nat} {Q : AQ} {M : AM} {x0 : Int32} {x1 : Int32} (h : v_Md_mayBecome L xs d Q 0 [(0, .int x0), (1, .int x1)] [] M) : am_Call (gG L xs) (d + 1) c_Md_mayBecome [.int x0, .int x1] M Q := am_enter k_Md_mayBecome (Nat.le_of_ble_eq_true rfl) rfl h
abbrev v_Md_mend (L : Nat) (xs : Nat → Int32) (d : Nat) (Q : AQ) : AK := av (gG L xs) prog_14_method_14_code cx_Md 4 (some .int) d Q
theorem e_Md_mend {L : Nat} {xs : Nat → Int32} {d : Nat} {Q : AQ} {M : AM} {x1 : Int32} {x2 : Int32} {x3 : Int32} (h : v_Md_mend L xs d Q 0 [(0, .ref 40), (1, .int x1), (2, .int x2), (3, .int x3)] [] M) : am_Call (gG L xs) (d + 1) c_Md_mend [.ref 40, .int x1, .int x2, .int x3] M Q := am_enter k_Md_mend (Nat.le_of_ble_eq_true rfl) rfl h
abbrev v_Md_waitsNow (L : Nat) (xs : Nat → Int32) (d : Nat) (Q : AQ) : AK := av (gG L xs) prog_14_method_15_code cx_Md 3 (some .boolean) d Q
theorem e_Md_waitsNow {L : Nat} {xs : Nat → Int32} {d : Nat} {Q : AQ} {M : AM} {x1 : Int32} (h : v_Md_waitsNow L xs d Q 0 [(0, .ref 40), (1, .int x1)] [] M) : am_Call (gG L xs) (d + 1) c_Md_waitsNow [.ref 40, .int x1] M Q := am_enter k_Md_waitsNow (Nat.le_of_ble_eq_true rfl) rfl h
abbrev v_Md_of (L : Nat) (xs : Nat → Int32) (d : Nat) (Q : AQ) : AK := av (gG L xs) prog_14_method_16_code cx_Md 3 (some .int) d Q
theorem e_Md_of {L : Nat} {xs : Nat → Int32} {d : Nat} {Q : AQ} {M : AM} {x1 : Int32} {x2 : Int32} (h : v_Md_of L xs d Q 0 [(0, .ref 40), (1, .int x1), (2, .int x2)] [] M) : am_Call (gG L xs) (d + 1) c_Md_of [.ref 40, .int x1, .int x2] M Q := am_enter k_Md_of (Nat.le_of_ble_eq_true rfl) rfl h
abbrev v_Md_feed (L : Nat) (xs : Nat → Int32) (d : Nat) (Q : AQ) : AK := av (gG L xs) prog_14_method_17_code cx_Md 2 (some .int) d Q
theorem e_Md_feed {L : Nat} {xs : Nat → Int32} {d : Nat} {Q : AQ} {M : AM} {x1 : Int32} (h : v_Md_feed L xs d Q 0 [(0, .ref 40), (1, .int x1)] [] M) : am_Call (gG L xs) (d + 1) c_Md_feed [.ref 40, .int x1] M Q := am_enter k_Md_feed (Nat.le_of_ble_eq_true rfl) rfl h
abbrev v_Md_byteAt (L : Nat) (xs : Nat → Int32) (d : Nat) (Q : AQ) : AK := av (gG L xs) prog_14_method_18_code cx_Md 1 (some .int) d Q
theorem e_Md_byteAt {L : Nat} {xs : Nat → Int32} {d : Nat} {Q : AQ} {M : AM}  (h : v_Md_byteAt L xs d Q 0 [(0, .ref 40)] [] M) : am_Call (gG L xs) (d + 1) c_Md_byteAt [.ref 40] M Q := am_enter k_Md_byteAt (Nat.le_of_ble_eq_true rfl) rfl h
abbrev v_Md_wrong (L : Nat) (xs : Nat → Int32) (d : Nat) (Q : AQ) : AK := av (gG L xs) prog_14_method_19_code cx_Md 1 (some .int) d Q
theorem e_Md_wrong {L : Nat} {xs : Nat → Int32} {d : Nat} {Q : AQ} {M : AM}  (h : v_Md_wrong L xs d Q 0 [(0, .ref 40)] [] M) : am_Call (gG L xs) (d + 1) c_Md_wrong [.ref 40] M Q := am_enter k_Md_wrong (Nat.le_of_ble_eq_true rfl) rfl h
abbrev v_Md_takes (L : Nat) (xs : Nat → Int32) (d : Nat) (Q : AQ) : AK := av (gG L xs) prog_14_method_20_code cx_Md 2 (some .boolean) d Q
theorem e_Md_takes {L : Nat} {xs : Nat → Int32} {d : Nat} {Q : AQ} {M : AM} {x1 : Int32} (h : v_Md_takes L xs d Q 0 [(0, .ref 40), (1, .int x1)] [] M) : am_Call (gG L xs) (d + 1) c_Md_takes [.ref 40, .int x1] M Q := am_enter k_Md_takes (Nat.le_of_ble_eq_true rfl) rfl h
abbrev v_Md_either (L : Nat) (xs : Nat → Int32) (d : Nat) (Q : AQ) : AK := av (gG L xs) prog_14_method_21_code cx_Md 3 (some .int) d Q
theorem e_Md_either {L : Nat} {xs : Nat → Int32} {d : Nat} {Q : AQ} {M : AM}  (h : v_Md_either L xs d Q 0 [(0, .ref 40)] [] M) : am_Call (gG L xs) (d + 1) c_Md_either [.ref 40] M Q := am_enter k_Md_either (Nat.le_of_ble_eq_true rfl) rfl h
abbrev v_Md_both (L : Nat) (xs : Nat → Int32) (d : Nat) (Q : AQ) : AK := av (gG L xs) prog_14_method_22_code cx_Md 3 (some .int) d Q
theorem e_Md_both {L : Nat} {xs : Nat → Int32} {d : Nat} {Q : AQ} {M : AM}  (h : v_Md_both L xs d Q 0 [(0, .ref 40)] [] M) : am_Call (gG L xs) (d + 1) c_Md_both [.ref 40] M Q := am_enter k_Md_both (Nat.le_of_ble_eq_true rfl) rfl h
abbrev v_Md_compared (L : Nat) (xs : Nat → Int32) (d : Nat) (Q : AQ) : AK := av (gG L xs) prog_14_method_23_code cx_Md 4 (some .int) d Q
theorem e_Md_compared {L : Nat} {xs : Nat → Int32} {d : Nat} {Q : AQ} {M : AM}  (h : v_Md_compared L xs d Q 0 [(0, .ref 40)] [] M) : am_Call (gG L xs) (d + 1) c_Md_compared [.ref 40] M Q := am_enter k_Md_compared (Nat.le_of_ble_eq_true rfl) rfl h
abbrev v_Md_sums (L : Nat) (xs : Nat → Int32) (d : Nat) (Q : AQ) : AK := av (gG L xs) prog_14_method_24_code cx_Md 4 (some .int) d Q
theorem e_Md_sums {L : Nat} {xs : Nat → Int32} {d : Nat} {Q : AQ} {M : AM}  (h : v_Md_sums L xs d Q 0 [(0, .ref 40)] [] M) : am_Call (gG L xs) (d + 1) c_Md_sums [.ref 40] M Q := am_enter k_Md_sums (Nat.le_of_ble_eq_true rfl) rfl h
abbrev v_Md_product (L : Nat) (xs : Nat → Int32) (d : Nat) (Q : AQ) : AK := av (gG L xs) prog_14_method_25_code cx_Md 4 (some .int) d Q
theorem e_Md_product {L : Nat} {xs : Nat → Int32} {d : Nat} {Q : AQ} {M : AM}  (h : v_Md_product L xs d Q 0 [(0, .ref 40)] [] M) : am_Call (gG L xs) (d + 1) c_Md_product [.ref 40] M Q := am_enter k_Md_product (Nat.le_of_ble_eq_true rfl) rfl h
abbrev v_Md_nameOf (L : Nat) (xs : Nat → Int32) (d : Nat) (Q : AQ) : AK := av (gG L xs) prog_14_method_26_code cx_Md 1 (some .int) d Q
theorem e_Md_nameOf {L : Nat} {xs : Nat → Int32} {d : Nat} {Q : AQ} {M : AM} {x0 : Int32} (h : v_Md_nameOf L xs d Q 0 [(0, .int x0)] [] M) : am_Call (gG L xs) (d + 1) c_Md_nameOf [.int x0] M Q := am_enter k_Md_nameOf (Nat.le_of_ble_eq_true rfl) rfl h
abbrev v_Md_one (L : Nat) (xs : Nat → Int32) (d : Nat) (Q : AQ) : AK := av (gG L xs) prog_14_method_27_code cx_Md 5 (some .int) d Q
theorem e_Md_one {L : Nat} {xs : Nat → Int32} {d : Nat} {Q : AQ} {M : AM}  (h : v_Md_one L xs d Q 0 [(0, .ref 40)] [] M) : am_Call (gG L xs) (d + 1) c_Md_one [.ref 40] M Q := am_enter k_Md_one (Nat.le_of_ble_eq_true rfl) rfl h
abbrev v_Md_workOut (L : Nat) (xs : Nat → Int32) (d : Nat) (Q : AQ) : AK := av (gG L xs) prog_14_method_28_code cx_Md 8 (some .int) d Q
theorem e_Md_workOut {L : Nat} {xs : Nat → Int32} {d : Nat} {Q : AQ} {M : AM} {x1 : Int32} {x2 : Int32} (h : v_Md_workOut L xs d Q 0 [(0, .ref 40), (1, .int x1), (2, .int x2)] [] M) : am_Call (gG L xs) (d + 1) c_Md_workOut [.ref 40, .int x1, .int x2] M Q := am_enter k_Md_workOut (Nat.le_of_ble_eq_true rfl) rfl h
abbrev v_Md_law (L : Nat) (xs : Nat → Int32) (d : Nat) (Q : AQ) : AK := av (gG L xs) prog_14_method_29_code cx_Md 4 (some .int) d Q
theorem e_Md_law {L : Nat} {xs : Nat → Int32} {d : Nat} {Q : AQ} {M : AM}  (h : v_Md_law L xs d Q 0 [(0, .ref 40)] [] M) : am_Call (gG L xs) (d + 1) c_Md_law [.ref 40] M Q := am_enter k_Md_law (Nat.le_of_ble_eq_true rfl) rfl h
abbrev v_Md_tallAt (L : Nat) (xs : Nat → Int32) (d : Nat) (Q : AQ) : AK := av (gG L xs) prog_14_method_30_code cx_Md 5 (some .int) d Q
theorem e_Md_tallAt {L : Nat} {xs : Nat → Int32} {d : Nat} {Q : AQ} {M : AM} {x1 : Int32} {x2 : Int32} {x3 : Int32} (h : v_Md_tallAt L xs d Q 0 [(0, .ref 40), (1, .int x1), (2, .int x2), (3, .int x3)] [] M) : am_Call (gG L xs) (d + 1) c_Md_tallAt [.ref 40, .int x1, .int x2, .int x3] M Q := am_enter k_Md_tallAt (Nat.le_of_ble_eq_true rfl) rfl h
abbrev v_Md_tall (L : Nat) (xs : Nat → Int32) (d : Nat) (Q : AQ) : AK := av (gG L xs) prog_14_method_31_code cx_Md 3 (some .int) d Q
theorem e_Md_tall {L : Nat} {xs : Nat → Int32} {d : Nat} {Q : AQ} {M : AM} {x1 : Int32} {x2 : Int32} (h : v_Md_tall L xs d Q 0 [(0, .ref 40), (1, .int x1), (2, .int x2)] [] M) : am_Call (gG L xs) (d + 1) c_Md_tall [.ref 40, .int x1, .int x2] M Q := am_enter k_Md_tall (Nat.le_of_ble_eq_true rfl) rfl h
abbrev v_Md_begins1 (L : Nat) (xs : Nat → Int32) (d : Nat) (Q : AQ) : AK := av (gG L xs) prog_14_method_32_code cx_Md 2 none d Q
theorem e_Md_begins1 {L : Nat} {xs : Nat → Int32} {d : Nat} {Q : AQ} {M : AM}  (h : v_Md_begins1 L xs d Q 0 [(0, .ref 40)] [] M) : am_Call (gG L xs) (d + 1) c_Md_begins1 [.ref 40] M Q := am_enter k_Md_begins1 (Nat.le_of_ble_eq_true rfl) rfl h
abbrev v_Md_asksWaiting (L : Nat) (xs : Nat → Int32) (d : Nat) (Q : AQ) : AK := av (gG L xs) prog_14_method_33_code cx_Md 6 none d Q
theorem e_Md_asksWaiting {L : Nat} {xs : Nat → Int32} {d : Nat} {Q : AQ} {M : AM} {x1 : Int32} {x2 : Int32} (h : v_Md_asksWaiting L xs d Q 0 [(0, .ref 40), (1, .int x1), (2, .int x2)] [] M) : am_Call (gG L xs) (d + 1) c_Md_asksWaiting [.ref 40, .int x1, .int x2] M Q := am_enter k_Md_asksWaiting (Nat.le_of_ble_eq_true rfl) rfl h
abbrev v_Md_atPlace (L : Nat) (xs : Nat → Int32) (d : Nat) (Q : AQ) : AK := av (gG L xs) prog_14_method_34_code cx_Md 5 (some .int) d Q
theorem e_Md_atPlace {L : Nat} {xs : Nat → Int32} {d : Nat} {Q : AQ} {M : AM} {x1 : Int32} (h : v_Md_atPlace L xs d Q 0 [(0, .ref 40), (1, .int x1)] [] M) : am_Call (gG L xs) (d + 1) c_Md_atPlace [.ref 40, .int x1] M Q := am_enter k_Md_atPlace (Nat.le_of_ble_eq_true rfl) rfl h
abbrev v_Md_strokes (L : Nat) (xs : Nat → Int32) (d : Nat) (Q : AQ) : AK := av (gG L xs) prog_14_method_35_code cx_Md 5 (some .int) d Q
theorem e_Md_strokes {L : Nat} {xs : Nat → Int32} {d : Nat} {Q : AQ} {M : AM} {x1 : Int32} (h : v_Md_strokes L xs d Q 0 [(0, .ref 40), (1, .int x1)] [] M) : am_Call (gG L xs) (d + 1) c_Md_strokes [.ref 40, .int x1] M Q := am_enter k_Md_strokes (Nat.le_of_ble_eq_true rfl) rfl h
abbrev v_Md_goes (L : Nat) (xs : Nat → Int32) (d : Nat) (Q : AQ) : AK := av (gG L xs) prog_14_method_36_code cx_Md 3 none d Q
theorem e_Md_goes {L : Nat} {xs : Nat → Int32} {d : Nat} {Q : AQ} {M : AM} {x1 : Int32} (h : v_Md_goes L xs d Q 0 [(0, .ref 40), (1, .int x1)] [] M) : am_Call (gG L xs) (d + 1) c_Md_goes [.ref 40, .int x1] M Q := am_enter k_Md_goes (Nat.le_of_ble_eq_true rfl) rfl h
abbrev v_Md_isN (L : Nat) (xs : Nat → Int32) (d : Nat) (Q : AQ) : AK := av (gG L xs) prog_14_method_37_code cx_Md 1 (some .boolean) d Q
theorem e_Md_isN {L : Nat} {xs : Nat → Int32} {d : Nat} {Q : AQ} {M : AM} {x0 : Int32} (h : v_Md_isN L xs d Q 0 [(0, .int x0)] [] M) : am_Call (gG L xs) (d + 1) c_Md_isN [.int x0] M Q := am_enter k_Md_isN (Nat.le_of_ble_eq_true rfl) rfl h
abbrev v_Md_inMany (L : Nat) (xs : Nat → Int32) (d : Nat) (Q : AQ) : AK := av (gG L xs) prog_14_method_38_code cx_Md 3 (some .int) d Q
theorem e_Md_inMany {L : Nat} {xs : Nat → Int32} {d : Nat} {Q : AQ} {M : AM}  (h : v_Md_inMany L xs d Q 0 [(0, .ref 40)] [] M) : am_Call (gG L xs) (d + 1) c_Md_inMany [.ref 40] M Q := am_enter k_Md_inMany (Nat.le_of_ble_eq_true rfl) rfl h
abbrev v_Md_enters (L : Nat) (xs : Nat → Int32) (d : Nat) (Q : AQ) : AK := av (gG L xs) prog_14_method_39_code cx_Md 3 (some .int) d Q
theorem e_Md_enters {L : Nat} {xs : Nat → Int32} {d : Nat} {Q : AQ} {M : AM} {x1 : Int32} {x2 : Int32} (h : v_Md_enters L xs d Q 0 [(0, .ref 40), (1, .int x1), (2, .int x2)] [] M) : am_Call (gG L xs) (d + 1) c_Md_enters [.ref 40, .int x1, .int x2] M Q := am_enter k_Md_enters (Nat.le_of_ble_eq_true rfl) rfl h
abbrev v_Md_stroke (L : Nat) (xs : Nat → Int32) (d : Nat) (Q : AQ) : AK := av (gG L xs) prog_14_method_40_code cx_Md 5 (some .int) d Q
theorem e_Md_stroke {L : Nat} {xs : Nat → Int32} {d : Nat} {Q : AQ} {M : AM} {x1 : Int32} {x2 : Int32} (h : v_Md_stroke L xs d Q 0 [(0, .ref 40), (1, .int x1), (2, .int x2)] [] M) : am_Call (gG L xs) (d + 1) c_Md_stroke [.ref 40, .int x1, .int x2] M Q := am_enter k_Md_stroke (Nat.le_of_ble_eq_true rfl) rfl h
abbrev v_Md_day (L : Nat) (xs : Nat → Int32) (d : Nat) (Q : AQ) : AK := av (gG L xs) prog_14_method_41_code cx_Md 5 (some .int) d Q
theorem e_Md_day {L : Nat} {xs : Nat → Int32} {d : Nat} {Q : AQ} {M : AM} {x1 : Int32} {x2 : Int32} (h : v_Md_day L xs d Q 0 [(0, .ref 40), (1, .int x1), (2, .int x2)] [] M) : am_Call (gG L xs) (d + 1) c_Md_day [.ref 40, .int x1, .int x2] M Q := am_enter k_Md_day (Nat.le_of_ble_eq_true rfl) rfl h
abbrev v_Md_commonOf (L : Nat) (xs : Nat → Int32) (d : Nat) (Q : AQ) : AK := av (gG L xs) prog_14_method_42_code cx_Md 10 (some .long) d Q
theorem e_Md_commonOf {L : Nat} {xs : Nat → Int32} {d : Nat} {Q : AQ} {M : AM} {x0 : Int64} {x2 : Int64} (h : v_Md_commonOf L xs d Q 0 [(0, .long x0), (2, .long x2)] [] M) : am_Call (gG L xs) (d + 1) c_Md_commonOf [.long x0, .long x2] M Q := am_enter k_Md_commonOf (Nat.le_of_ble_eq_true rfl) rfl h
abbrev v_Md_partOf (L : Nat) (xs : Nat → Int32) (d : Nat) (Q : AQ) : AK := av (gG L xs) prog_14_method_43_code cx_Md 7 (some .long) d Q
theorem e_Md_partOf {L : Nat} {xs : Nat → Int32} {d : Nat} {Q : AQ} {M : AM} {x0 : Int64} {x2 : Int64} {x4 : Int32} (h : v_Md_partOf L xs d Q 0 [(0, .long x0), (2, .long x2), (4, .int x4)] [] M) : am_Call (gG L xs) (d + 1) c_Md_partOf [.long x0, .long x2, .int x4] M Q := am_enter k_Md_partOf (Nat.le_of_ble_eq_true rfl) rfl h
abbrev v_Md_mean (L : Nat) (xs : Nat → Int32) (d : Nat) (Q : AQ) : AK := av (gG L xs) prog_14_method_44_code cx_Md 7 (some .long) d Q
theorem e_Md_mean {L : Nat} {xs : Nat → Int32} {d : Nat} {Q : AQ} {M : AM} {x1 : Int32} {x2 : Int32} {x3 : Int32} (h : v_Md_mean L xs d Q 0 [(0, .ref 40), (1, .int x1), (2, .int x2), (3, .int x3)] [] M) : am_Call (gG L xs) (d + 1) c_Md_mean [.ref 40, .int x1, .int x2, .int x3] M Q := am_enter k_Md_mean (Nat.le_of_ble_eq_true rfl) rfl h
abbrev v_Md_priceOf (L : Nat) (xs : Nat → Int32) (d : Nat) (Q : AQ) : AK := av (gG L xs) prog_14_method_45_code cx_Md 4 (some .int) d Q
theorem e_Md_priceOf {L : Nat} {xs : Nat → Int32} {d : Nat} {Q : AQ} {M : AM} {x1 : Int32} (h : v_Md_priceOf L xs d Q 0 [(0, .ref 40), (1, .int x1)] [] M) : am_Call (gG L xs) (d + 1) c_Md_priceOf [.ref 40, .int x1] M Q := am_enter k_Md_priceOf (Nat.le_of_ble_eq_true rfl) rfl h
abbrev v_Md_sent (L : Nat) (xs : Nat → Int32) (d : Nat) (Q : AQ) : AK := av (gG L xs) prog_14_method_46_code cx_Md 8 (some .int) d Q
theorem e_Md_sent {L : Nat} {xs : Nat → Int32} {d : Nat} {Q : AQ} {M : AM} {x1 : Int32} {x2 : Int32} {x3 : Int32} (h : v_Md_sent L xs d Q 0 [(0, .ref 40), (1, .int x1), (2, .int x2), (3, .int x3)] [] M) : am_Call (gG L xs) (d + 1) c_Md_sent [.ref 40, .int x1, .int x2, .int x3] M Q := am_enter k_Md_sent (Nat.le_of_ble_eq_true rfl) rfl h
abbrev v_Md_brought (L : Nat) (xs : Nat → Int32) (d : Nat) (Q : AQ) : AK := av (gG L xs) prog_14_method_47_code cx_Md 7 (some .int) d Q
theorem e_Md_brought {L : Nat} {xs : Nat → Int32} {d : Nat} {Q : AQ} {M : AM} {x1 : Int32} {x2 : Int32} {x3 : Int32} (h : v_Md_brought L xs d Q 0 [(0, .ref 40), (1, .int x1), (2, .int x2), (3, .int x3)] [] M) : am_Call (gG L xs) (d + 1) c_Md_brought [.ref 40, .int x1, .int x2, .int x3] M Q := am_enter k_Md_brought (Nat.le_of_ble_eq_true rfl) rfl h
abbrev v_Md_wearing (L : Nat) (xs : Nat → Int32) (d : Nat) (Q : AQ) : AK := av (gG L xs) prog_14_method_48_code cx_Md 6 (some .int) d Q
theorem e_Md_wearing {L : Nat} {xs : Nat → Int32} {d : Nat} {Q : AQ} {M : AM} {x1 : Int32} {x2 : Int32} {x3 : Int32} (h : v_Md_wearing L xs d Q 0 [(0, .ref 40), (1, .int x1), (2, .int x2), (3, .int x3)] [] M) : am_Call (gG L xs) (d + 1) c_Md_wearing [.ref 40, .int x1, .int x2, .int x3] M Q := am_enter k_Md_wearing (Nat.le_of_ble_eq_true rfl) rfl h
abbrev v_Md_heels (L : Nat) (xs : Nat → Int32) (d : Nat) (Q : AQ) : AK := av (gG L xs) prog_14_method_49_code cx_Md 10 (some .int) d Q
theorem e_Md_heels {L : Nat} {xs : Nat → Int32} {d : Nat} {Q : AQ} {M : AM} {x1 : Int32} {x2 : Int32} {x3 : Int32} (h : v_Md_heels L xs d Q 0 [(0, .ref 40), (1, .int x1), (2, .int x2), (3, .int x3)] [] M) : am_Call (gG L xs) (d + 1) c_Md_heels [.ref 40, .int x1, .int x2, .int x3] M Q := am_enter k_Md_heels (Nat.le_of_ble_eq_true rfl) rfl h
abbrev v_Md_later (L : Nat) (xs : Nat → Int32) (d : Nat) (Q : AQ) : AK := av (gG L xs) prog_14_method_50_code cx_Md 8 (some .int) d Q
theorem e_Md_later {L : Nat} {xs : Nat → Int32} {d : Nat} {Q : AQ} {M : AM} {x1 : Int32} (h : v_Md_later L xs d Q 0 [(0, .ref 40), (1, .int x1)] [] M) : am_Call (gG L xs) (d + 1) c_Md_later [.ref 40, .int x1] M Q := am_enter k_Md_later (Nat.le_of_ble_eq_true rfl) rfl h
abbrev v_Md_chooses (L : Nat) (xs : Nat → Int32) (d : Nat) (Q : AQ) : AK := av (gG L xs) prog_14_method_51_code cx_Md 6 (some .int) d Q
theorem e_Md_chooses {L : Nat} {xs : Nat → Int32} {d : Nat} {Q : AQ} {M : AM} {x1 : Int32} (h : v_Md_chooses L xs d Q 0 [(0, .ref 40), (1, .int x1)] [] M) : am_Call (gG L xs) (d + 1) c_Md_chooses [.ref 40, .int x1] M Q := am_enter k_Md_chooses (Nat.le_of_ble_eq_true rfl) rfl h
abbrev v_Md_allWear (L : Nat) (xs : Nat → Int32) (d : Nat) (Q : AQ) : AK := av (gG L xs) prog_14_method_52_code cx_Md 6 (some .int) d Q
theorem e_Md_allWear {L : Nat} {xs : Nat → Int32} {d : Nat} {Q : AQ} {M : AM} {x1 : Int32} (h : v_Md_allWear L xs d Q 0 [(0, .ref 40), (1, .int x1)] [] M) : am_Call (gG L xs) (d + 1) c_Md_allWear [.ref 40, .int x1] M Q := am_enter k_Md_allWear (Nat.le_of_ble_eq_true rfl) rfl h
abbrev v_Md_gates (L : Nat) (xs : Nat → Int32) (d : Nat) (Q : AQ) : AK := av (gG L xs) prog_14_method_53_code cx_Md 3 (some .int) d Q
theorem e_Md_gates {L : Nat} {xs : Nat → Int32} {d : Nat} {Q : AQ} {M : AM} {x1 : Int32} {x2 : Int32} (h : v_Md_gates L xs d Q 0 [(0, .ref 40), (1, .int x1), (2, .int x2)] [] M) : am_Call (gG L xs) (d + 1) c_Md_gates [.ref 40, .int x1, .int x2] M Q := am_enter k_Md_gates (Nat.le_of_ble_eq_true rfl) rfl h
abbrev v_Md_where (L : Nat) (xs : Nat → Int32) (d : Nat) (Q : AQ) : AK := av (gG L xs) prog_14_method_54_code cx_Md 4 (some .int) d Q
theorem e_Md_where {L : Nat} {xs : Nat → Int32} {d : Nat} {Q : AQ} {M : AM} {x1 : Int32} (h : v_Md_where L xs d Q 0 [(0, .ref 40), (1, .int x1)] [] M) : am_Call (gG L xs) (d + 1) c_Md_where [.ref 40, .int x1] M Q := am_enter k_Md_where (Nat.le_of_ble_eq_true rfl) rfl h
abbrev v_Md_bestSet (L : Nat) (xs : Nat → Int32) (d : Nat) (Q : AQ) : AK := av (gG L xs) prog_14_method_55_code cx_Md 6 (some .int) d Q
theorem e_Md_bestSet {L : Nat} {xs : Nat → Int32} {d : Nat} {Q : AQ} {M : AM} {x1 : Int32} {x2 : Int32} (h : v_Md_bestSet L xs d Q 0 [(0, .ref 40), (1, .int x1), (2, .int x2)] [] M) : am_Call (gG L xs) (d + 1) c_Md_bestSet [.ref 40, .int x1, .int x2] M Q := am_enter k_Md_bestSet (Nat.le_of_ble_eq_true rfl) rfl h
abbrev v_Md_atLast (L : Nat) (xs : Nat → Int32) (d : Nat) (Q : AQ) : AK := av (gG L xs) prog_14_method_56_code cx_Md 3 (some .int) d Q
theorem e_Md_atLast {L : Nat} {xs : Nat → Int32} {d : Nat} {Q : AQ} {M : AM}  (h : v_Md_atLast L xs d Q 0 [(0, .ref 40)] [] M) : am_Call (gG L xs) (d + 1) c_Md_atLast [.ref 40] M Q := am_enter k_Md_atLast (Nat.le_of_ble_eq_true rfl) rfl h
abbrev v_Md_rule (L : Nat) (xs : Nat → Int32) (d : Nat) (Q : AQ) : AK := av (gG L xs) prog_14_method_57_code cx_Md 4 (some .int) d Q
theorem e_Md_rule {L : Nat} {xs : Nat → Int32} {d : Nat} {Q : AQ} {M : AM} {x1 : Int32} (h : v_Md_rule L xs d Q 0 [(0, .ref 40), (1, .int x1)] [] M) : am_Call (gG L xs) (d + 1) c_Md_rule [.ref 40, .int x1] M Q := am_enter k_Md_rule (Nat.le_of_ble_eq_true rfl) rfl h
abbrev v_Md_bytesIs (L : Nat) (xs : Nat → Int32) (d : Nat) (Q : AQ) : AK := av (gG L xs) prog_14_method_58_code cx_Md 2 (some .int) d Q
theorem e_Md_bytesIs {L : Nat} {xs : Nat → Int32} {d : Nat} {Q : AQ} {M : AM} {x1 : Int32} (h : v_Md_bytesIs L xs d Q 0 [(0, .ref 40), (1, .int x1)] [] M) : am_Call (gG L xs) (d + 1) c_Md_bytesIs [.ref 40, .int x1] M Q := am_enter k_Md_bytesIs (Nat.le_of_ble_eq_true rfl) rfl h
abbrev v_Md_firstFalse (L : Nat) (xs : Nat → Int32) (d : Nat) (Q : AQ) : AK := av (gG L xs) prog_14_method_59_code cx_Md 4 (some .int) d Q
theorem e_Md_firstFalse {L : Nat} {xs : Nat → Int32} {d : Nat} {Q : AQ} {M : AM} {x1 : Int32} (h : v_Md_firstFalse L xs d Q 0 [(0, .ref 40), (1, .int x1)] [] M) : am_Call (gG L xs) (d + 1) c_Md_firstFalse [.ref 40, .int x1] M Q := am_enter k_Md_firstFalse (Nat.le_of_ble_eq_true rfl) rfl h
abbrev v_Md_judge (L : Nat) (xs : Nat → Int32) (d : Nat) (Q : AQ) : AK := av (gG L xs) prog_14_method_60_code cx_Md 2 (some .int) d Q
theorem e_Md_judge {L : Nat} {xs : Nat → Int32} {d : Nat} {Q : AQ} {M : AM} {x1 : Int32} (h : v_Md_judge L xs d Q 0 [(0, .ref 40), (1, .int x1)] [] M) : am_Call (gG L xs) (d + 1) c_Md_judge [.ref 40, .int x1] M Q := am_enter k_Md_judge (Nat.le_of_ble_eq_true rfl) rfl h
abbrev v_Md_with (L : Nat) (xs : Nat → Int32) (d : Nat) (Q : AQ) : AK := av (gG L xs) prog_14_method_61_code cx_Md 6 (some .int) d Q
theorem e_Md_with {L : Nat} {xs : Nat → Int32} {d : Nat} {Q : AQ} {M : AM} {x1 : Int32} {x2 : Int32} (h : v_Md_with L xs d Q 0 [(0, .ref 40), (1, .int x1), (2, .int x2)] [] M) : am_Call (gG L xs) (d + 1) c_Md_with [.ref 40, .int x1, .int x2] M Q := am_enter k_Md_with (Nat.le_of_ble_eq_true rfl) rfl h
abbrev v_Md_wears (L : Nat) (xs : Nat → Int32) (d : Nat) (Q : AQ) : AK := av (gG L xs) prog_14_method_62_code cx_Md 4 none d Q
theorem e_Md_wears {L : Nat} {xs : Nat → Int32} {d : Nat} {Q : AQ} {M : AM} {x1 : Int32} (h : v_Md_wears L xs d Q 0 [(0, .ref 40), (1, .int x1)] [] M) : am_Call (gG L xs) (d + 1) c_Md_wears [.ref 40, .int x1] M Q := am_enter k_Md_wears (Nat.le_of_ble_eq_true rfl) rfl h
abbrev v_Md_heeled (L : Nat) (xs : Nat → Int32) (d : Nat) (Q : AQ) : AK := av (gG L xs) prog_14_method_63_code cx_Md 4 (some .int) d Q
theorem e_Md_heeled {L : Nat} {xs : Nat → Int32} {d : Nat} {Q : AQ} {M : AM} {x1 : Int32} (h : v_Md_heeled L xs d Q 0 [(0, .ref 40), (1, .int x1)] [] M) : am_Call (gG L xs) (d + 1) c_Md_heeled [.ref 40, .int x1] M Q := am_enter k_Md_heeled (Nat.le_of_ble_eq_true rfl) rfl h
abbrev v_Md_drawn (L : Nat) (xs : Nat → Int32) (d : Nat) (Q : AQ) : AK := av (gG L xs) prog_14_method_64_code cx_Md 8 (some .int) d Q
theorem e_Md_drawn {L : Nat} {xs : Nat → Int32} {d : Nat} {Q : AQ} {M : AM} {x1 : Int32} {x2 : Int32} {x3 : Int32} (h : v_Md_drawn L xs d Q 0 [(0, .ref 40), (1, .int x1), (2, .int x2), (3, .int x3)] [] M) : am_Call (gG L xs) (d + 1) c_Md_drawn [.ref 40, .int x1, .int x2, .int x3] M Q := am_enter k_Md_drawn (Nat.le_of_ble_eq_true rfl) rfl h
abbrev v_Md_waitMany (L : Nat) (xs : Nat → Int32) (d : Nat) (Q : AQ) : AK := av (gG L xs) prog_14_method_65_code cx_Md 3 (some .int) d Q
theorem e_Md_waitMany {L : Nat} {xs : Nat → Int32} {d : Nat} {Q : AQ} {M : AM}  (h : v_Md_waitMany L xs d Q 0 [(0, .ref 40)] [] M) : am_Call (gG L xs) (d + 1) c_Md_waitMany [.ref 40] M Q := am_enter k_Md_waitMany (Nat.le_of_ble_eq_true rfl) rfl h
abbrev v_Md_insideMany (L : Nat) (xs : Nat → Int32) (d : Nat) (Q : AQ) : AK := av (gG L xs) prog_14_method_66_code cx_Md 3 (some .int) d Q
theorem e_Md_insideMany {L : Nat} {xs : Nat → Int32} {d : Nat} {Q : AQ} {M : AM}  (h : v_Md_insideMany L xs d Q 0 [(0, .ref 40)] [] M) : am_Call (gG L xs) (d + 1) c_Md_insideMany [.ref 40] M Q := am_enter k_Md_insideMany (Nat.le_of_ble_eq_true rfl) rfl h
abbrev v_Md_strike (L : Nat) (xs : Nat → Int32) (d : Nat) (Q : AQ) : AK := av (gG L xs) prog_14_method_67_code cx_Md 2 (some .int) d Q
theorem e_Md_strike {L : Nat} {xs : Nat → Int32} {d : Nat} {Q : AQ} {M : AM}  (h : v_Md_strike L xs d Q 0 [(0, .ref 40)] [] M) : am_Call (gG L xs) (d + 1) c_Md_strike [.ref 40] M Q := am_enter k_Md_strike (Nat.le_of_ble_eq_true rfl) rfl h
abbrev v_Md_take (L : Nat) (xs : Nat → Int32) (d : Nat) (Q : AQ) : AK := av (gG L xs) prog_14_method_68_code cx_Md 2 (some .int) d Q
theorem e_Md_take {L : Nat} {xs : Nat → Int32} {d : Nat} {Q : AQ} {M : AM} {x1 : Int32} (h : v_Md_take L xs d Q 0 [(0, .ref 40), (1, .int x1)] [] M) : am_Call (gG L xs) (d + 1) c_Md_take [.ref 40, .int x1] M Q := am_enter k_Md_take (Nat.le_of_ble_eq_true rfl) rfl h
abbrev v_Md_dawn (L : Nat) (xs : Nat → Int32) (d : Nat) (Q : AQ) : AK := av (gG L xs) prog_14_method_69_code cx_Md 3 (some .int) d Q
theorem e_Md_dawn {L : Nat} {xs : Nat → Int32} {d : Nat} {Q : AQ} {M : AM}  (h : v_Md_dawn L xs d Q 0 [(0, .ref 40)] [] M) : am_Call (gG L xs) (d + 1) c_Md_dawn [.ref 40] M Q := am_enter k_Md_dawn (Nat.le_of_ble_eq_true rfl) rfl h
abbrev v_Md_led (L : Nat) (xs : Nat → Int32) (d : Nat) (Q : AQ) : AK := av (gG L xs) prog_14_method_70_code cx_Md 2 (some .int) d Q
theorem e_Md_led {L : Nat} {xs : Nat → Int32} {d : Nat} {Q : AQ} {M : AM} {x1 : Int32} (h : v_Md_led L xs d Q 0 [(0, .ref 40), (1, .int x1)] [] M) : am_Call (gG L xs) (d + 1) c_Md_led [.ref 40, .int x1] M Q := am_enter k_Md_led (Nat.le_of_ble_eq_true rfl) rfl h
abbrev v_Md_image (L : Nat) (xs : Nat → Int32) (d : Nat) (Q : AQ) : AK := av (gG L xs) prog_14_method_71_code cx_Md 2 (some .int) d Q
theorem e_Md_image {L : Nat} {xs : Nat → Int32} {d : Nat} {Q : AQ} {M : AM}  (h : v_Md_image L xs d Q 0 [(0, .ref 40)] [] M) : am_Call (gG L xs) (d + 1) c_Md_image [.ref 40] M Q := am_enter k_Md_image (Nat.le_of_ble_eq_true rfl) rfl h
abbrev v_Md_back (L : Nat) (xs : Nat → Int32) (d : Nat) (Q : AQ) : AK := av (gG L xs) prog_14_method_72_code cx_Md 2 (some .int) d Q
theorem e_Md_back {L : Nat} {xs : Nat → Int32} {d : Nat} {Q : AQ} {M : AM}  (h : v_Md_back L xs d Q 0 [(0, .ref 40)] [] M) : am_Call (gG L xs) (d + 1) c_Md_back [.ref 40] M Q := am_enter k_Md_back (Nat.le_of_ble_eq_true rfl) rfl h
abbrev v_Md_isBody (L : Nat) (xs : Nat → Int32) (d : Nat) (Q : AQ) : AK := av (gG L xs) prog_14_method_73_code cx_Md 2 (some .boolean) d Q
theorem e_Md_isBody {L : Nat} {xs : Nat → Int32} {d : Nat} {Q : AQ} {M : AM} {x1 : Int32} (h : v_Md_isBody L xs d Q 0 [(0, .ref 40), (1, .int x1)] [] M) : am_Call (gG L xs) (d + 1) c_Md_isBody [.ref 40, .int x1] M Q := am_enter k_Md_isBody (Nat.le_of_ble_eq_true rfl) rfl h
abbrev v_Md_kindOf (L : Nat) (xs : Nat → Int32) (d : Nat) (Q : AQ) : AK := av (gG L xs) prog_14_method_74_code cx_Md 2 (some .int) d Q
theorem e_Md_kindOf {L : Nat} {xs : Nat → Int32} {d : Nat} {Q : AQ} {M : AM} {x1 : Int32} (h : v_Md_kindOf L xs d Q 0 [(0, .ref 40), (1, .int x1)] [] M) : am_Call (gG L xs) (d + 1) c_Md_kindOf [.ref 40, .int x1] M Q := am_enter k_Md_kindOf (Nat.le_of_ble_eq_true rfl) rfl h
abbrev v_Md_body (L : Nat) (xs : Nat → Int32) (d : Nat) (Q : AQ) : AK := av (gG L xs) prog_14_method_75_code cx_Md 2 (some .int) d Q
theorem e_Md_body {L : Nat} {xs : Nat → Int32} {d : Nat} {Q : AQ} {M : AM} {x1 : Int32} (h : v_Md_body L xs d Q 0 [(0, .ref 40), (1, .int x1)] [] M) : am_Call (gG L xs) (d + 1) c_Md_body [.ref 40, .int x1] M Q := am_enter k_Md_body (Nat.le_of_ble_eq_true rfl) rfl h
abbrev v_Md_above (L : Nat) (xs : Nat → Int32) (d : Nat) (Q : AQ) : AK := av (gG L xs) prog_14_method_76_code cx_Md 1 (some .int) d Q
theorem e_Md_above {L : Nat} {xs : Nat → Int32} {d : Nat} {Q : AQ} {M : AM} {x0 : Int32} (h : v_Md_above L xs d Q 0 [(0, .int x0)] [] M) : am_Call (gG L xs) (d + 1) c_Md_above [.int x0] M Q := am_enter k_Md_above (Nat.le_of_ble_eq_true rfl) rfl h
abbrev v_Md_begins (L : Nat) (xs : Nat → Int32) (d : Nat) (Q : AQ) : AK := av (gG L xs) prog_14_method_77_code cx_Md 2 none d Q
theorem e_Md_begins {L : Nat} {xs : Nat → Int32} {d : Nat} {Q : AQ} {M : AM} {x1 : Int32} (h : v_Md_begins L xs d Q 0 [(0, .ref 40), (1, .int x1)] [] M) : am_Call (gG L xs) (d + 1) c_Md_begins [.ref 40, .int x1] M Q := am_enter k_Md_begins (Nat.le_of_ble_eq_true rfl) rfl h
abbrev v_Md_waitsAs (L : Nat) (xs : Nat → Int32) (d : Nat) (Q : AQ) : AK := av (gG L xs) prog_14_method_78_code cx_Md 3 (some .int) d Q
theorem e_Md_waitsAs {L : Nat} {xs : Nat → Int32} {d : Nat} {Q : AQ} {M : AM} {x1 : Int32} {x2 : Int32} (h : v_Md_waitsAs L xs d Q 0 [(0, .ref 40), (1, .int x1), (2, .int x2)] [] M) : am_Call (gG L xs) (d + 1) c_Md_waitsAs [.ref 40, .int x1, .int x2] M Q := am_enter k_Md_waitsAs (Nat.le_of_ble_eq_true rfl) rfl h
abbrev v_Md_countsAs (L : Nat) (xs : Nat → Int32) (d : Nat) (Q : AQ) : AK := av (gG L xs) prog_14_method_79_code cx_Md 4 (some .int) d Q
theorem e_Md_countsAs {L : Nat} {xs : Nat → Int32} {d : Nat} {Q : AQ} {M : AM} {x1 : Int32} {x2 : Int32} (h : v_Md_countsAs L xs d Q 0 [(0, .ref 40), (1, .int x1), (2, .int x2)] [] M) : am_Call (gG L xs) (d + 1) c_Md_countsAs [.ref 40, .int x1, .int x2] M Q := am_enter k_Md_countsAs (Nat.le_of_ble_eq_true rfl) rfl h
abbrev v_Md_opensAs (L : Nat) (xs : Nat → Int32) (d : Nat) (Q : AQ) : AK := av (gG L xs) prog_14_method_80_code cx_Md 4 (some .int) d Q
theorem e_Md_opensAs {L : Nat} {xs : Nat → Int32} {d : Nat} {Q : AQ} {M : AM} {x1 : Int32} {x2 : Int32} (h : v_Md_opensAs L xs d Q 0 [(0, .ref 40), (1, .int x1), (2, .int x2)] [] M) : am_Call (gG L xs) (d + 1) c_Md_opensAs [.ref 40, .int x1, .int x2] M Q := am_enter k_Md_opensAs (Nat.le_of_ble_eq_true rfl) rfl h
abbrev v_Md_tellsAs (L : Nat) (xs : Nat → Int32) (d : Nat) (Q : AQ) : AK := av (gG L xs) prog_14_method_81_code cx_Md 4 (some .int) d Q
theorem e_Md_tellsAs {L : Nat} {xs : Nat → Int32} {d : Nat} {Q : AQ} {M : AM} {x1 : Int32} {x2 : Int32} (h : v_Md_tellsAs L xs d Q 0 [(0, .ref 40), (1, .int x1), (2, .int x2)] [] M) : am_Call (gG L xs) (d + 1) c_Md_tellsAs [.ref 40, .int x1, .int x2] M Q := am_enter k_Md_tellsAs (Nat.le_of_ble_eq_true rfl) rfl h
abbrev v_Md_act (L : Nat) (xs : Nat → Int32) (d : Nat) (Q : AQ) : AK := av (gG L xs) prog_14_method_82_code cx_Md 4 (some .int) d Q
theorem e_Md_act {L : Nat} {xs : Nat → Int32} {d : Nat} {Q : AQ} {M : AM} {x1 : Int32} {x2 : Int32} {x3 : Int32} (h : v_Md_act L xs d Q 0 [(0, .ref 40), (1, .int x1), (2, .int x2), (3, .int x3)] [] M) : am_Call (gG L xs) (d + 1) c_Md_act [.ref 40, .int x1, .int x2, .int x3] M Q := am_enter k_Md_act (Nat.le_of_ble_eq_true rfl) rfl h
abbrev v_Md_trace (L : Nat) (xs : Nat → Int32) (d : Nat) (Q : AQ) : AK := av (gG L xs) prog_14_method_83_code cx_Md 2 (some .int) d Q
theorem e_Md_trace {L : Nat} {xs : Nat → Int32} {d : Nat} {Q : AQ} {M : AM} {x1 : Int32} (h : v_Md_trace L xs d Q 0 [(0, .ref 40), (1, .int x1)] [] M) : am_Call (gG L xs) (d + 1) c_Md_trace [.ref 40, .int x1] M Q := am_enter k_Md_trace (Nat.le_of_ble_eq_true rfl) rfl h
abbrev v_Md_isShelf (L : Nat) (xs : Nat → Int32) (d : Nat) (Q : AQ) : AK := av (gG L xs) prog_14_method_84_code cx_Md 1 (some .boolean) d Q
theorem e_Md_isShelf {L : Nat} {xs : Nat → Int32} {d : Nat} {Q : AQ} {M : AM} {x0 : Int32} (h : v_Md_isShelf L xs d Q 0 [(0, .int x0)] [] M) : am_Call (gG L xs) (d + 1) c_Md_isShelf [.int x0] M Q := am_enter k_Md_isShelf (Nat.le_of_ble_eq_true rfl) rfl h
abbrev v_Md_keep (L : Nat) (xs : Nat → Int32) (d : Nat) (Q : AQ) : AK := av (gG L xs) prog_14_method_85_code cx_Md 3 (some .int) d Q
theorem e_Md_keep {L : Nat} {xs : Nat → Int32} {d : Nat} {Q : AQ} {M : AM} {x1 : Int32} {x2 : Int32} (h : v_Md_keep L xs d Q 0 [(0, .ref 40), (1, .int x1), (2, .int x2)] [] M) : am_Call (gG L xs) (d + 1) c_Md_keep [.ref 40, .int x1, .int x2] M Q := am_enter k_Md_keep (Nat.le_of_ble_eq_true rfl) rfl h
abbrev v_Md_row (L : Nat) (xs : Nat → Int32) (d : Nat) (Q : AQ) : AK := av (gG L xs) prog_14_method_86_code cx_Md 5 (some .int) d Q
theorem e_Md_row {L : Nat} {xs : Nat → Int32} {d : Nat} {Q : AQ} {M : AM} {x1 : Int32} {x2 : Int32} {x3 : Int32} (h : v_Md_row L xs d Q 0 [(0, .ref 40), (1, .int x1), (2, .int x2), (3, .int x3)] [] M) : am_Call (gG L xs) (d + 1) c_Md_row [.ref 40, .int x1, .int x2, .int x3] M Q := am_enter k_Md_row (Nat.le_of_ble_eq_true rfl) rfl h
abbrev v_Md_refusal (L : Nat) (xs : Nat → Int32) (d : Nat) (Q : AQ) : AK := av (gG L xs) prog_14_method_87_code cx_Md 3 (some .int) d Q
theorem e_Md_refusal {L : Nat} {xs : Nat → Int32} {d : Nat} {Q : AQ} {M : AM} {x1 : Int32} {x2 : Int32} (h : v_Md_refusal L xs d Q 0 [(0, .ref 40), (1, .int x1), (2, .int x2)] [] M) : am_Call (gG L xs) (d + 1) c_Md_refusal [.ref 40, .int x1, .int x2] M Q := am_enter k_Md_refusal (Nat.le_of_ble_eq_true rfl) rfl h
abbrev v_Md_asSort (L : Nat) (xs : Nat → Int32) (d : Nat) (Q : AQ) : AK := av (gG L xs) prog_14_method_88_code cx_Md 3 (some .long) d Q
theorem e_Md_asSort {L : Nat} {xs : Nat → Int32} {d : Nat} {Q : AQ} {M : AM} {x0 : Int32} {x1 : Int64} (h : v_Md_asSort L xs d Q 0 [(0, .int x0), (1, .long x1)] [] M) : am_Call (gG L xs) (d + 1) c_Md_asSort [.int x0, .long x1] M Q := am_enter k_Md_asSort (Nat.le_of_ble_eq_true rfl) rfl h
abbrev v_Md_put (L : Nat) (xs : Nat → Int32) (d : Nat) (Q : AQ) : AK := av (gG L xs) prog_14_method_89_code cx_Md 6 (some .int) d Q
theorem e_Md_put {L : Nat} {xs : Nat → Int32} {d : Nat} {Q : AQ} {M : AM} {x1 : Int32} {x2 : Int32} {x3 : Int64} (h : v_Md_put L xs d Q 0 [(0, .ref 40), (1, .int x1), (2, .int x2), (3, .long x3)] [] M) : am_Call (gG L xs) (d + 1) c_Md_put [.ref 40, .int x1, .int x2, .long x3] M Q := am_enter k_Md_put (Nat.le_of_ble_eq_true rfl) rfl h
abbrev v_Md_element (L : Nat) (xs : Nat → Int32) (d : Nat) (Q : AQ) : AK := av (gG L xs) prog_14_method_90_code cx_Md 3 (some .long) d Q
theorem e_Md_element {L : Nat} {xs : Nat → Int32} {d : Nat} {Q : AQ} {M : AM} {x1 : Int32} {x2 : Int32} (h : v_Md_element L xs d Q 0 [(0, .ref 40), (1, .int x1), (2, .int x2)] [] M) : am_Call (gG L xs) (d + 1) c_Md_element [.ref 40, .int x1, .int x2] M Q := am_enter k_Md_element (Nat.le_of_ble_eq_true rfl) rfl h
abbrev v_Md_shift (L : Nat) (xs : Nat → Int32) (d : Nat) (Q : AQ) : AK := av (gG L xs) prog_14_method_91_code cx_Md 7 (some .int) d Q
theorem e_Md_shift {L : Nat} {xs : Nat → Int32} {d : Nat} {Q : AQ} {M : AM} {x1 : Int32} {x2 : Int32} {x3 : Int32} {x4 : Int32} {x5 : Int32} (h : v_Md_shift L xs d Q 0 [(0, .ref 40), (1, .int x1), (2, .int x2), (3, .int x3), (4, .int x4), (5, .int x5)] [] M) : am_Call (gG L xs) (d + 1) c_Md_shift [.ref 40, .int x1, .int x2, .int x3, .int x4, .int x5] M Q := am_enter k_Md_shift (Nat.le_of_ble_eq_true rfl) rfl h
abbrev v_Md_taken (L : Nat) (xs : Nat → Int32) (d : Nat) (Q : AQ) : AK := av (gG L xs) prog_14_method_92_code cx_Md 4 (some .int) d Q
theorem e_Md_taken {L : Nat} {xs : Nat → Int32} {d : Nat} {Q : AQ} {M : AM} {x1 : Int32} {x2 : Int32} (h : v_Md_taken L xs d Q 0 [(0, .ref 40), (1, .int x1), (2, .int x2)] [] M) : am_Call (gG L xs) (d + 1) c_Md_taken [.ref 40, .int x1, .int x2] M Q := am_enter k_Md_taken (Nat.le_of_ble_eq_true rfl) rfl h
abbrev v_Md_count (L : Nat) (xs : Nat → Int32) (d : Nat) (Q : AQ) : AK := av (gG L xs) prog_14_method_93_code cx_Md 2 (some .int) d Q
theorem e_Md_count {L : Nat} {xs : Nat → Int32} {d : Nat} {Q : AQ} {M : AM} {x1 : Int32} (h : v_Md_count L xs d Q 0 [(0, .ref 40), (1, .int x1)] [] M) : am_Call (gG L xs) (d + 1) c_Md_count [.ref 40, .int x1] M Q := am_enter k_Md_count (Nat.le_of_ble_eq_true rfl) rfl h
abbrev v_J_bitCount (L : Nat) (xs : Nat → Int32) (d : Nat) (Q : AQ) : AK := av (gG L xs) prog_15_method_49_code cx_JI 1 (some .int) d Q
theorem e_J_bitCount {L : Nat} {xs : Nat → Int32} {d : Nat} {Q : AQ} {M : AM} {x0 : Int32} (h : v_J_bitCount L xs d Q 0 [(0, .int x0)] [] M) : am_Call (gG L xs) (d + 1) c_J_bitCount [.int x0] M Q := am_enter k_J_bitCount (Nat.le_of_ble_eq_true rfl) rfl h
abbrev v_J_rangeCheck (L : Nat) (xs : Nat → Int32) (d : Nat) (Q : AQ) : AK := av (gG L xs) prog_18_method_30_code cx_JA 3 none d Q
theorem e_J_rangeCheck {L : Nat} {xs : Nat → Int32} {d : Nat} {Q : AQ} {M : AM} {x0 : Int32} {x1 : Int32} {x2 : Int32} (h : v_J_rangeCheck L xs d Q 0 [(0, .int x0), (1, .int x1), (2, .int x2)] [] M) : am_Call (gG L xs) (d + 1) c_J_rangeCheck [.int x0, .int x1, .int x2] M Q := am_enter k_J_rangeCheck (Nat.le_of_ble_eq_true rfl) rfl h
abbrev v_J_fillL (L : Nat) (xs : Nat → Int32) (d : Nat) (Q : AQ) : AK := av (gG L xs) prog_18_method_102_code cx_JA 6 none d Q
theorem e_J_fillL {L : Nat} {xs : Nat → Int32} {d : Nat} {Q : AQ} {M : AM} {a0 : Nat} {x1 : Int32} {x2 : Int32} {x3 : Int64} (h : v_J_fillL L xs d Q 0 [(0, .ref a0), (1, .int x1), (2, .int x2), (3, .long x3)] [] M) : am_Call (gG L xs) (d + 1) c_J_fillL [.ref a0, .int x1, .int x2, .long x3] M Q := am_enter k_J_fillL (Nat.le_of_ble_eq_true rfl) rfl h
abbrev v_J_fillI (L : Nat) (xs : Nat → Int32) (d : Nat) (Q : AQ) : AK := av (gG L xs) prog_18_method_103_code cx_JA 4 none d Q
theorem e_J_fillI {L : Nat} {xs : Nat → Int32} {d : Nat} {Q : AQ} {M : AM} {a0 : Nat} {x1 : Int32} (h : v_J_fillI L xs d Q 0 [(0, .ref a0), (1, .int x1)] [] M) : am_Call (gG L xs) (d + 1) c_J_fillI [.ref a0, .int x1] M Q := am_enter k_J_fillI (Nat.le_of_ble_eq_true rfl) rfl h
