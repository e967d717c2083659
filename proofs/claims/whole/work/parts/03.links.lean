/-- an entry of a class's pool that names field k of class c -/
def FLK (own : String) (idx c k : Nat) : Prop := ∃ q : vw_C, classes[c]? = some q ∧ k < q.2.2 ∧ Cond.fieldLink own idx (q.2.1 k).1 (q.2.1 k).2.1 (q.2.1 k).2.2.1 ∈ lw_g
set_option maxRecDepth 100000 in
theorem flX11_11 : FLK RX11 11 11 0 := ⟨_, rfl, by decide, sg1 204 rfl rfl⟩
set_option maxRecDepth 100000 in
theorem flX11_17 : FLK RX11 17 11 1 := ⟨_, rfl, by decide, sg1 205 rfl rfl⟩
set_option maxRecDepth 100000 in
theorem flX11_23 : FLK RX11 23 11 2 := ⟨_, rfl, by decide, sg1 206 rfl rfl⟩
set_option maxRecDepth 100000 in
theorem flX11_29 : FLK RX11 29 11 3 := ⟨_, rfl, by decide, sg1 207 rfl rfl⟩
set_option maxRecDepth 100000 in
theorem flX11_36 : FLK RX11 36 11 4 := ⟨_, rfl, by decide, sg1 208 rfl rfl⟩
set_option maxRecDepth 100000 in
theorem flX11_43 : FLK RX11 43 11 5 := ⟨_, rfl, by decide, sg1 209 rfl rfl⟩
set_option maxRecDepth 100000 in
theorem flX11_50 : FLK RX11 50 11 6 := ⟨_, rfl, by decide, sg1 210 rfl rfl⟩
set_option maxRecDepth 100000 in
theorem flX11_57 : FLK RX11 57 11 7 := ⟨_, rfl, by decide, sg1 211 rfl rfl⟩
set_option maxRecDepth 100000 in
theorem flX11_64 : FLK RX11 64 11 8 := ⟨_, rfl, by decide, sg1 212 rfl rfl⟩
set_option maxRecDepth 100000 in
theorem flX11_71 : FLK RX11 71 11 9 := ⟨_, rfl, by decide, sg1 213 rfl rfl⟩
set_option maxRecDepth 100000 in
theorem flX11_75 : FLK RX11 75 11 10 := ⟨_, rfl, by decide, sg1 214 rfl rfl⟩
set_option maxRecDepth 100000 in
theorem flX11_79 : FLK RX11 79 11 11 := ⟨_, rfl, by decide, sg1 215 rfl rfl⟩
set_option maxRecDepth 100000 in
theorem flX11_82 : FLK RX11 82 11 12 := ⟨_, rfl, by decide, sg1 216 rfl rfl⟩
set_option maxRecDepth 100000 in
theorem flX11_85 : FLK RX11 85 11 13 := ⟨_, rfl, by decide, sg1 217 rfl rfl⟩
set_option maxRecDepth 100000 in
theorem flX11_89 : FLK RX11 89 11 14 := ⟨_, rfl, by decide, sg1 218 rfl rfl⟩
set_option maxRecDepth 100000 in
theorem flX11_92 : FLK RX11 92 11 15 := ⟨_, rfl, by decide, sg1 219 rfl rfl⟩
set_option maxRecDepth 100000 in
theorem flX11_95 : FLK RX11 95 11 16 := ⟨_, rfl, by decide, sg1 220 rfl rfl⟩
set_option maxRecDepth 100000 in
theorem flX11_98 : FLK RX11 98 11 17 := ⟨_, rfl, by decide, sg1 221 rfl rfl⟩
set_option maxRecDepth 100000 in
theorem flX11_101 : FLK RX11 101 11 18 := ⟨_, rfl, by decide, sg1 222 rfl rfl⟩
set_option maxRecDepth 100000 in
theorem flX11_112 : FLK RX11 112 3 0 := ⟨_, rfl, by decide, sg1 76 rfl rfl⟩
set_option maxRecDepth 100000 in
theorem flX11_126 : FLK RX11 126 9 2 := ⟨_, rfl, by decide, sg1 189 rfl rfl⟩
set_option maxRecDepth 100000 in
theorem flX11_129 : FLK RX11 129 9 0 := ⟨_, rfl, by decide, sg1 181 rfl rfl⟩
set_option maxRecDepth 100000 in
theorem flX11_141 : FLK RX11 141 9 1 := ⟨_, rfl, by decide, sg1 185 rfl rfl⟩
set_option maxRecDepth 100000 in
theorem flX11_157 : FLK RX11 157 9 3 := ⟨_, rfl, by decide, sg1 193 rfl rfl⟩
set_option maxRecDepth 100000 in
theorem flX11_168 : FLK RX11 168 5 0 := ⟨_, rfl, by decide, sg3 37 rfl rfl⟩
set_option maxRecDepth 100000 in
theorem flX11_182 : FLK RX11 182 10 2 := ⟨_, rfl, by decide, sg1 61 rfl rfl⟩
set_option maxRecDepth 100000 in
theorem flX11_188 : FLK RX11 188 10 0 := ⟨_, rfl, by decide, sg1 58 rfl rfl⟩
set_option maxRecDepth 100000 in
theorem flX11_195 : FLK RX11 195 4 5 := ⟨_, rfl, by decide, sg2 43 rfl rfl⟩
set_option maxRecDepth 100000 in
theorem flX11_198 : FLK RX11 198 2 2 := ⟨_, rfl, by decide, sg1 42 rfl rfl⟩
set_option maxRecDepth 100000 in
theorem flX11_211 : FLK RX11 211 4 3 := ⟨_, rfl, by decide, sg2 40 rfl rfl⟩
set_option maxRecDepth 100000 in
theorem flX11_223 : FLK RX11 223 4 6 := ⟨_, rfl, by decide, sg2 45 rfl rfl⟩
set_option maxRecDepth 100000 in
theorem flX11_228 : FLK RX11 228 4 7 := ⟨_, rfl, by decide, sg2 47 rfl rfl⟩
set_option maxRecDepth 100000 in
theorem flX11_235 : FLK RX11 235 5 3 := ⟨_, rfl, by decide, sg3 47 rfl rfl⟩
set_option maxRecDepth 100000 in
theorem flX11_238 : FLK RX11 238 5 2 := ⟨_, rfl, by decide, sg3 45 rfl rfl⟩
set_option maxRecDepth 100000 in
theorem flX11_244 : FLK RX11 244 5 1 := ⟨_, rfl, by decide, sg3 41 rfl rfl⟩
set_option maxRecDepth 100000 in
theorem flX11_257 : FLK RX11 257 8 4 := ⟨_, rfl, by decide, sg3 148 rfl rfl⟩
set_option maxRecDepth 100000 in
theorem flX11_260 : FLK RX11 260 3 1 := ⟨_, rfl, by decide, sg1 78 rfl rfl⟩
set_option maxRecDepth 100000 in
theorem flX11_263 : FLK RX11 263 3 2 := ⟨_, rfl, by decide, sg1 80 rfl rfl⟩
set_option maxRecDepth 100000 in
theorem flX11_273 : FLK RX11 273 3 4 := ⟨_, rfl, by decide, sg1 84 rfl rfl⟩
set_option maxRecDepth 100000 in
theorem flX11_287 : FLK RX11 287 3 3 := ⟨_, rfl, by decide, sg1 82 rfl rfl⟩
set_option maxRecDepth 100000 in
theorem flX11_294 : FLK RX11 294 8 3 := ⟨_, rfl, by decide, sg3 146 rfl rfl⟩
set_option maxRecDepth 100000 in
theorem flX11_300 : FLK RX11 300 4 0 := ⟨_, rfl, by decide, sg2 36 rfl rfl⟩
set_option maxRecDepth 100000 in
theorem flX11_303 : FLK RX11 303 4 8 := ⟨_, rfl, by decide, sg2 49 rfl rfl⟩
set_option maxRecDepth 100000 in
theorem flX11_312 : FLK RX11 312 5 5 := ⟨_, rfl, by decide, sg3 50 rfl rfl⟩
set_option maxRecDepth 100000 in
theorem flX11_315 : FLK RX11 315 5 6 := ⟨_, rfl, by decide, sg3 52 rfl rfl⟩
set_option maxRecDepth 100000 in
theorem flX11_318 : FLK RX11 318 5 7 := ⟨_, rfl, by decide, sg3 54 rfl rfl⟩
set_option maxRecDepth 100000 in
theorem flX11_321 : FLK RX11 321 5 8 := ⟨_, rfl, by decide, sg3 56 rfl rfl⟩
set_option maxRecDepth 100000 in
theorem flX11_324 : FLK RX11 324 5 9 := ⟨_, rfl, by decide, sg3 59 rfl rfl⟩
set_option maxRecDepth 100000 in
theorem flX11_334 : FLK RX11 334 5 12 := ⟨_, rfl, by decide, sg3 66 rfl rfl⟩
set_option maxRecDepth 100000 in
theorem flX11_342 : FLK RX11 342 8 5 := ⟨_, rfl, by decide, sg3 151 rfl rfl⟩
set_option maxRecDepth 100000 in
theorem flX11_345 : FLK RX11 345 8 6 := ⟨_, rfl, by decide, sg3 154 rfl rfl⟩
set_option maxRecDepth 100000 in
theorem flX11_348 : FLK RX11 348 8 7 := ⟨_, rfl, by decide, sg3 157 rfl rfl⟩
set_option maxRecDepth 100000 in
theorem flX11_351 : FLK RX11 351 8 8 := ⟨_, rfl, by decide, sg3 160 rfl rfl⟩
set_option maxRecDepth 100000 in
theorem flX11_357 : FLK RX11 357 5 13 := ⟨_, rfl, by decide, sg3 69 rfl rfl⟩
set_option maxRecDepth 100000 in
theorem flX11_360 : FLK RX11 360 5 14 := ⟨_, rfl, by decide, sg3 71 rfl rfl⟩
set_option maxRecDepth 100000 in
theorem flX11_363 : FLK RX11 363 5 15 := ⟨_, rfl, by decide, sg3 73 rfl rfl⟩
set_option maxRecDepth 100000 in
theorem flX11_384 : FLK RX11 384 1 3 := ⟨_, rfl, by decide, sg4 221 rfl rfl⟩
set_option maxRecDepth 100000 in
theorem flX11_395 : FLK RX11 395 1 4 := ⟨_, rfl, by decide, sg4 223 rfl rfl⟩
set_option maxRecDepth 100000 in
theorem flX11_398 : FLK RX11 398 1 2 := ⟨_, rfl, by decide, sg4 219 rfl rfl⟩
set_option maxRecDepth 100000 in
theorem flX11_404 : FLK RX11 404 1 5 := ⟨_, rfl, by decide, sg4 225 rfl rfl⟩
set_option maxRecDepth 100000 in
theorem flX11_407 : FLK RX11 407 4 13 := ⟨_, rfl, by decide, sg2 55 rfl rfl⟩
set_option maxRecDepth 100000 in
theorem flX11_408 : FLK RX11 408 5 16 := ⟨_, rfl, by decide, sg3 76 rfl rfl⟩
set_option maxRecDepth 100000 in
theorem flX11_411 : FLK RX11 411 5 17 := ⟨_, rfl, by decide, sg3 79 rfl rfl⟩
set_option maxRecDepth 100000 in
theorem flX11_417 : FLK RX11 417 6 1 := ⟨_, rfl, by decide, sg1 146 rfl rfl⟩
set_option maxRecDepth 100000 in
theorem flX11_418 : FLK RX11 418 6 0 := ⟨_, rfl, by decide, sg1 144 rfl rfl⟩
set_option maxRecDepth 100000 in
theorem slX11_431 : Cond.fieldLink RX11 431 RX11 "KIND_ABOVE" "[I" ∈ lw_g := sg2 147 rfl rfl
set_option maxRecDepth 100000 in
theorem flX11_452 : FLK RX11 452 8 0 := ⟨_, rfl, by decide, sg3 136 rfl rfl⟩
set_option maxRecDepth 100000 in
theorem flX11_455 : FLK RX11 455 8 1 := ⟨_, rfl, by decide, sg3 140 rfl rfl⟩
set_option maxRecDepth 100000 in
theorem flX11_464 : FLK RX11 464 1 0 := ⟨_, rfl, by decide, sg4 215 rfl rfl⟩
set_option maxRecDepth 100000 in
theorem flX11_467 : FLK RX11 467 1 1 := ⟨_, rfl, by decide, sg4 217 rfl rfl⟩
set_option maxRecDepth 100000 in
theorem flX0_11 : FLK RX0 11 0 0 := ⟨_, rfl, by decide, sg1 111 rfl rfl⟩
set_option maxRecDepth 100000 in
theorem flX0_15 : FLK RX0 15 0 1 := ⟨_, rfl, by decide, sg1 112 rfl rfl⟩
set_option maxRecDepth 100000 in
theorem flX0_18 : FLK RX0 18 9 2 := ⟨_, rfl, by decide, sg1 187 rfl rfl⟩
set_option maxRecDepth 100000 in
theorem flX0_24 : FLK RX0 24 5 9 := ⟨_, rfl, by decide, sg3 58 rfl rfl⟩
set_option maxRecDepth 100000 in
theorem flX0_36 : FLK RX0 36 5 11 := ⟨_, rfl, by decide, sg3 63 rfl rfl⟩
set_option maxRecDepth 100000 in
theorem flX0_45 : FLK RX0 45 9 0 := ⟨_, rfl, by decide, sg1 179 rfl rfl⟩
set_option maxRecDepth 100000 in
theorem flX0_49 : FLK RX0 49 5 10 := ⟨_, rfl, by decide, sg3 61 rfl rfl⟩
set_option maxRecDepth 100000 in
theorem flX0_52 : FLK RX0 52 5 12 := ⟨_, rfl, by decide, sg3 65 rfl rfl⟩
set_option maxRecDepth 100000 in
theorem flX1_9 : FLK RX1 9 1 3 := ⟨_, rfl, by decide, sg4 220 rfl rfl⟩
set_option maxRecDepth 100000 in
theorem flX1_15 : FLK RX1 15 1 4 := ⟨_, rfl, by decide, sg4 222 rfl rfl⟩
set_option maxRecDepth 100000 in
theorem flX1_19 : FLK RX1 19 1 5 := ⟨_, rfl, by decide, sg4 224 rfl rfl⟩
set_option maxRecDepth 100000 in
theorem flX1_23 : FLK RX1 23 1 0 := ⟨_, rfl, by decide, sg4 214 rfl rfl⟩
set_option maxRecDepth 100000 in
theorem flX1_26 : FLK RX1 26 1 1 := ⟨_, rfl, by decide, sg4 216 rfl rfl⟩
set_option maxRecDepth 100000 in
theorem flX1_29 : FLK RX1 29 1 2 := ⟨_, rfl, by decide, sg4 218 rfl rfl⟩
set_option maxRecDepth 100000 in
theorem flX2_9 : FLK RX2 9 2 0 := ⟨_, rfl, by decide, sg1 39 rfl rfl⟩
set_option maxRecDepth 100000 in
theorem flX2_15 : FLK RX2 15 2 1 := ⟨_, rfl, by decide, sg1 40 rfl rfl⟩
set_option maxRecDepth 100000 in
theorem flX2_18 : FLK RX2 18 2 2 := ⟨_, rfl, by decide, sg1 41 rfl rfl⟩
set_option maxRecDepth 100000 in
theorem flX3_9 : FLK RX3 9 3 0 := ⟨_, rfl, by decide, sg1 75 rfl rfl⟩
set_option maxRecDepth 100000 in
theorem flX3_15 : FLK RX3 15 3 1 := ⟨_, rfl, by decide, sg1 77 rfl rfl⟩
set_option maxRecDepth 100000 in
theorem flX3_19 : FLK RX3 19 3 2 := ⟨_, rfl, by decide, sg1 79 rfl rfl⟩
set_option maxRecDepth 100000 in
theorem flX3_22 : FLK RX3 22 3 3 := ⟨_, rfl, by decide, sg1 81 rfl rfl⟩
set_option maxRecDepth 100000 in
theorem flX3_25 : FLK RX3 25 3 4 := ⟨_, rfl, by decide, sg1 83 rfl rfl⟩
set_option maxRecDepth 100000 in
theorem flX3_28 : FLK RX3 28 3 5 := ⟨_, rfl, by decide, sg1 85 rfl rfl⟩
set_option maxRecDepth 100000 in
theorem flX3_32 : FLK RX3 32 3 6 := ⟨_, rfl, by decide, sg1 86 rfl rfl⟩
set_option maxRecDepth 100000 in
theorem flX3_35 : FLK RX3 35 3 7 := ⟨_, rfl, by decide, sg1 87 rfl rfl⟩
set_option maxRecDepth 100000 in
theorem flX3_38 : FLK RX3 38 5 2 := ⟨_, rfl, by decide, sg3 44 rfl rfl⟩
set_option maxRecDepth 100000 in
theorem flX3_49 : FLK RX3 49 5 1 := ⟨_, rfl, by decide, sg3 40 rfl rfl⟩
set_option maxRecDepth 100000 in
theorem flX3_53 : FLK RX3 53 8 1 := ⟨_, rfl, by decide, sg3 139 rfl rfl⟩
set_option maxRecDepth 100000 in
theorem flX3_83 : FLK RX3 83 8 2 := ⟨_, rfl, by decide, sg3 143 rfl rfl⟩
set_option maxRecDepth 100000 in
theorem flX3_89 : FLK RX3 89 8 0 := ⟨_, rfl, by decide, sg3 135 rfl rfl⟩
set_option maxRecDepth 100000 in
theorem flX3_95 : FLK RX3 95 9 2 := ⟨_, rfl, by decide, sg1 191 rfl rfl⟩
set_option maxRecDepth 100000 in
theorem flX3_100 : FLK RX3 100 9 0 := ⟨_, rfl, by decide, sg1 183 rfl rfl⟩
set_option maxRecDepth 100000 in
theorem flX4_9 : FLK RX4 9 4 1 := ⟨_, rfl, by decide, sg2 37 rfl rfl⟩
set_option maxRecDepth 100000 in
theorem flX4_15 : FLK RX4 15 4 2 := ⟨_, rfl, by decide, sg2 38 rfl rfl⟩
set_option maxRecDepth 100000 in
theorem flX4_19 : FLK RX4 19 4 3 := ⟨_, rfl, by decide, sg2 39 rfl rfl⟩
set_option maxRecDepth 100000 in
theorem flX4_23 : FLK RX4 23 4 4 := ⟨_, rfl, by decide, sg2 41 rfl rfl⟩
set_option maxRecDepth 100000 in
theorem flX4_26 : FLK RX4 26 4 5 := ⟨_, rfl, by decide, sg2 42 rfl rfl⟩
set_option maxRecDepth 100000 in
theorem flX4_29 : FLK RX4 29 4 6 := ⟨_, rfl, by decide, sg2 44 rfl rfl⟩
set_option maxRecDepth 100000 in
theorem flX4_33 : FLK RX4 33 4 7 := ⟨_, rfl, by decide, sg2 46 rfl rfl⟩
set_option maxRecDepth 100000 in
theorem flX4_36 : FLK RX4 36 4 8 := ⟨_, rfl, by decide, sg2 48 rfl rfl⟩
set_option maxRecDepth 100000 in
theorem flX4_39 : FLK RX4 39 4 9 := ⟨_, rfl, by decide, sg2 50 rfl rfl⟩
set_option maxRecDepth 100000 in
theorem flX4_42 : FLK RX4 42 4 10 := ⟨_, rfl, by decide, sg2 51 rfl rfl⟩
set_option maxRecDepth 100000 in
theorem flX4_45 : FLK RX4 45 4 11 := ⟨_, rfl, by decide, sg2 52 rfl rfl⟩
set_option maxRecDepth 100000 in
theorem flX4_48 : FLK RX4 48 4 12 := ⟨_, rfl, by decide, sg2 53 rfl rfl⟩
set_option maxRecDepth 100000 in
theorem flX4_51 : FLK RX4 51 4 13 := ⟨_, rfl, by decide, sg2 54 rfl rfl⟩
set_option maxRecDepth 100000 in
theorem flX4_54 : FLK RX4 54 4 0 := ⟨_, rfl, by decide, sg2 35 rfl rfl⟩
set_option maxRecDepth 100000 in
theorem flX4_76 : FLK RX4 76 9 2 := ⟨_, rfl, by decide, sg1 190 rfl rfl⟩
set_option maxRecDepth 100000 in
theorem flX4_81 : FLK RX4 81 9 0 := ⟨_, rfl, by decide, sg1 182 rfl rfl⟩
set_option maxRecDepth 100000 in
theorem flX5_11 : FLK RX5 11 5 1 := ⟨_, rfl, by decide, sg3 38 rfl rfl⟩
set_option maxRecDepth 100000 in
theorem flX5_17 : FLK RX5 17 5 2 := ⟨_, rfl, by decide, sg3 42 rfl rfl⟩
set_option maxRecDepth 100000 in
theorem flX5_21 : FLK RX5 21 5 3 := ⟨_, rfl, by decide, sg3 46 rfl rfl⟩
set_option maxRecDepth 100000 in
theorem flX5_25 : FLK RX5 25 5 4 := ⟨_, rfl, by decide, sg3 48 rfl rfl⟩
set_option maxRecDepth 100000 in
theorem flX5_29 : FLK RX5 29 5 5 := ⟨_, rfl, by decide, sg3 49 rfl rfl⟩
set_option maxRecDepth 100000 in
theorem flX5_32 : FLK RX5 32 5 6 := ⟨_, rfl, by decide, sg3 51 rfl rfl⟩
set_option maxRecDepth 100000 in
theorem flX5_35 : FLK RX5 35 5 7 := ⟨_, rfl, by decide, sg3 53 rfl rfl⟩
set_option maxRecDepth 100000 in
theorem flX5_38 : FLK RX5 38 5 8 := ⟨_, rfl, by decide, sg3 55 rfl rfl⟩
set_option maxRecDepth 100000 in
theorem flX5_41 : FLK RX5 41 5 9 := ⟨_, rfl, by decide, sg3 57 rfl rfl⟩
set_option maxRecDepth 100000 in
theorem flX5_44 : FLK RX5 44 5 10 := ⟨_, rfl, by decide, sg3 60 rfl rfl⟩
set_option maxRecDepth 100000 in
theorem flX5_48 : FLK RX5 48 5 11 := ⟨_, rfl, by decide, sg3 62 rfl rfl⟩
set_option maxRecDepth 100000 in
theorem flX5_51 : FLK RX5 51 5 12 := ⟨_, rfl, by decide, sg3 64 rfl rfl⟩
set_option maxRecDepth 100000 in
theorem flX5_54 : FLK RX5 54 5 13 := ⟨_, rfl, by decide, sg3 67 rfl rfl⟩
set_option maxRecDepth 100000 in
theorem flX5_57 : FLK RX5 57 5 14 := ⟨_, rfl, by decide, sg3 70 rfl rfl⟩
set_option maxRecDepth 100000 in
theorem flX5_60 : FLK RX5 60 5 15 := ⟨_, rfl, by decide, sg3 72 rfl rfl⟩
set_option maxRecDepth 100000 in
theorem flX5_63 : FLK RX5 63 5 16 := ⟨_, rfl, by decide, sg3 74 rfl rfl⟩
set_option maxRecDepth 100000 in
theorem flX5_66 : FLK RX5 66 5 17 := ⟨_, rfl, by decide, sg3 77 rfl rfl⟩
set_option maxRecDepth 100000 in
theorem flX5_69 : FLK RX5 69 5 0 := ⟨_, rfl, by decide, sg3 35 rfl rfl⟩
set_option maxRecDepth 100000 in
theorem flX5_72 : FLK RX5 72 8 2 := ⟨_, rfl, by decide, sg3 142 rfl rfl⟩
set_option maxRecDepth 100000 in
theorem flX5_75 : FLK RX5 75 8 3 := ⟨_, rfl, by decide, sg3 145 rfl rfl⟩
set_option maxRecDepth 100000 in
theorem flX5_78 : FLK RX5 78 8 1 := ⟨_, rfl, by decide, sg3 138 rfl rfl⟩
set_option maxRecDepth 100000 in
theorem flX6_9 : FLK RX6 9 6 0 := ⟨_, rfl, by decide, sg1 143 rfl rfl⟩
set_option maxRecDepth 100000 in
theorem flX6_15 : FLK RX6 15 6 1 := ⟨_, rfl, by decide, sg1 145 rfl rfl⟩
set_option maxRecDepth 100000 in
theorem flX6_19 : FLK RX6 19 6 2 := ⟨_, rfl, by decide, sg1 147 rfl rfl⟩
set_option maxRecDepth 100000 in
theorem flX6_22 : FLK RX6 22 6 3 := ⟨_, rfl, by decide, sg1 148 rfl rfl⟩
set_option maxRecDepth 100000 in
theorem flX6_25 : FLK RX6 25 6 4 := ⟨_, rfl, by decide, sg1 149 rfl rfl⟩
set_option maxRecDepth 100000 in
theorem flX6_28 : FLK RX6 28 6 5 := ⟨_, rfl, by decide, sg1 150 rfl rfl⟩
set_option maxRecDepth 100000 in
theorem flX6_31 : FLK RX6 31 6 6 := ⟨_, rfl, by decide, sg1 151 rfl rfl⟩
set_option maxRecDepth 100000 in
theorem flX6_34 : FLK RX6 34 6 7 := ⟨_, rfl, by decide, sg1 152 rfl rfl⟩
set_option maxRecDepth 100000 in
theorem flX6_37 : FLK RX6 37 6 8 := ⟨_, rfl, by decide, sg1 153 rfl rfl⟩
set_option maxRecDepth 100000 in
theorem flX6_60 : FLK RX6 60 5 17 := ⟨_, rfl, by decide, sg3 78 rfl rfl⟩
set_option maxRecDepth 100000 in
theorem flX6_72 : FLK RX6 72 5 0 := ⟨_, rfl, by decide, sg3 36 rfl rfl⟩
set_option maxRecDepth 100000 in
theorem flX6_79 : FLK RX6 79 5 16 := ⟨_, rfl, by decide, sg3 75 rfl rfl⟩
set_option maxRecDepth 100000 in
theorem flX7_9 : FLK RX7 9 7 0 := ⟨_, rfl, by decide, sg1 124 rfl rfl⟩
set_option maxRecDepth 100000 in
theorem flX7_15 : FLK RX7 15 7 1 := ⟨_, rfl, by decide, sg1 125 rfl rfl⟩
set_option maxRecDepth 100000 in
theorem flX7_18 : FLK RX7 18 7 2 := ⟨_, rfl, by decide, sg1 126 rfl rfl⟩
set_option maxRecDepth 100000 in
theorem flX7_22 : FLK RX7 22 7 3 := ⟨_, rfl, by decide, sg1 127 rfl rfl⟩
set_option maxRecDepth 100000 in
theorem flX7_25 : FLK RX7 25 5 2 := ⟨_, rfl, by decide, sg3 43 rfl rfl⟩
set_option maxRecDepth 100000 in
theorem flX7_30 : FLK RX7 30 5 1 := ⟨_, rfl, by decide, sg3 39 rfl rfl⟩
set_option maxRecDepth 100000 in
theorem flX7_42 : FLK RX7 42 8 7 := ⟨_, rfl, by decide, sg3 156 rfl rfl⟩
set_option maxRecDepth 100000 in
theorem flX7_47 : FLK RX7 47 8 6 := ⟨_, rfl, by decide, sg3 153 rfl rfl⟩
set_option maxRecDepth 100000 in
theorem flX7_50 : FLK RX7 50 8 5 := ⟨_, rfl, by decide, sg3 150 rfl rfl⟩
set_option maxRecDepth 100000 in
theorem flX7_63 : FLK RX7 63 5 13 := ⟨_, rfl, by decide, sg3 68 rfl rfl⟩
set_option maxRecDepth 100000 in
theorem flX7_72 : FLK RX7 72 8 8 := ⟨_, rfl, by decide, sg3 159 rfl rfl⟩
set_option maxRecDepth 100000 in
theorem flX8_9 : FLK RX8 9 8 3 := ⟨_, rfl, by decide, sg3 144 rfl rfl⟩
set_option maxRecDepth 100000 in
theorem flX8_15 : FLK RX8 15 8 4 := ⟨_, rfl, by decide, sg3 147 rfl rfl⟩
set_option maxRecDepth 100000 in
theorem flX8_19 : FLK RX8 19 8 5 := ⟨_, rfl, by decide, sg3 149 rfl rfl⟩
set_option maxRecDepth 100000 in
theorem flX8_22 : FLK RX8 22 8 6 := ⟨_, rfl, by decide, sg3 152 rfl rfl⟩
set_option maxRecDepth 100000 in
theorem flX8_25 : FLK RX8 25 8 7 := ⟨_, rfl, by decide, sg3 155 rfl rfl⟩
set_option maxRecDepth 100000 in
theorem flX8_28 : FLK RX8 28 8 8 := ⟨_, rfl, by decide, sg3 158 rfl rfl⟩
set_option maxRecDepth 100000 in
theorem flX8_31 : FLK RX8 31 8 0 := ⟨_, rfl, by decide, sg3 134 rfl rfl⟩
set_option maxRecDepth 100000 in
theorem flX8_34 : FLK RX8 34 8 1 := ⟨_, rfl, by decide, sg3 137 rfl rfl⟩
set_option maxRecDepth 100000 in
theorem flX8_37 : FLK RX8 37 8 2 := ⟨_, rfl, by decide, sg3 141 rfl rfl⟩
set_option maxRecDepth 100000 in
theorem flX9_9 : FLK RX9 9 9 0 := ⟨_, rfl, by decide, sg1 178 rfl rfl⟩
set_option maxRecDepth 100000 in
theorem flX9_15 : FLK RX9 15 9 1 := ⟨_, rfl, by decide, sg1 184 rfl rfl⟩
set_option maxRecDepth 100000 in
theorem flX9_19 : FLK RX9 19 9 2 := ⟨_, rfl, by decide, sg1 186 rfl rfl⟩
set_option maxRecDepth 100000 in
theorem flX9_22 : FLK RX9 22 9 3 := ⟨_, rfl, by decide, sg1 192 rfl rfl⟩
set_option maxRecDepth 100000 in
theorem flX10_9 : FLK RX10 9 10 0 := ⟨_, rfl, by decide, sg1 57 rfl rfl⟩
set_option maxRecDepth 100000 in
theorem flX10_15 : FLK RX10 15 10 1 := ⟨_, rfl, by decide, sg1 59 rfl rfl⟩
set_option maxRecDepth 100000 in
theorem flX10_19 : FLK RX10 19 10 2 := ⟨_, rfl, by decide, sg1 60 rfl rfl⟩
set_option maxRecDepth 100000 in
theorem flX10_26 : FLK RX10 26 9 2 := ⟨_, rfl, by decide, sg1 188 rfl rfl⟩
set_option maxRecDepth 100000 in
theorem flX10_31 : FLK RX10 31 9 0 := ⟨_, rfl, by decide, sg1 180 rfl rfl⟩
set_option maxRecDepth 100000 in
theorem flX12_7 : FLK RX12 7 12 8 := ⟨_, rfl, by decide, sg5 124 rfl rfl⟩
set_option maxRecDepth 100000 in
theorem flX12_13 : FLK RX12 13 12 9 := ⟨_, rfl, by decide, sg5 125 rfl rfl⟩
set_option maxRecDepth 100000 in
theorem flX12_16 : FLK RX12 16 12 11 := ⟨_, rfl, by decide, sg5 127 rfl rfl⟩
set_option maxRecDepth 100000 in
theorem flX12_20 : FLK RX12 20 12 12 := ⟨_, rfl, by decide, sg5 128 rfl rfl⟩
set_option maxRecDepth 100000 in
theorem flX12_23 : FLK RX12 23 12 13 := ⟨_, rfl, by decide, sg5 129 rfl rfl⟩
set_option maxRecDepth 100000 in
theorem flX12_26 : FLK RX12 26 12 14 := ⟨_, rfl, by decide, sg5 130 rfl rfl⟩
set_option maxRecDepth 100000 in
theorem flX12_29 : FLK RX12 29 12 15 := ⟨_, rfl, by decide, sg5 131 rfl rfl⟩
set_option maxRecDepth 100000 in
theorem flX12_33 : FLK RX12 33 12 16 := ⟨_, rfl, by decide, sg5 132 rfl rfl⟩
set_option maxRecDepth 100000 in
theorem flX12_36 : FLK RX12 36 12 17 := ⟨_, rfl, by decide, sg5 133 rfl rfl⟩
set_option maxRecDepth 100000 in
theorem flX12_39 : FLK RX12 39 12 18 := ⟨_, rfl, by decide, sg5 134 rfl rfl⟩
set_option maxRecDepth 100000 in
theorem flX12_42 : FLK RX12 42 12 19 := ⟨_, rfl, by decide, sg5 135 rfl rfl⟩
set_option maxRecDepth 100000 in
theorem flX12_45 : FLK RX12 45 12 20 := ⟨_, rfl, by decide, sg5 136 rfl rfl⟩
set_option maxRecDepth 100000 in
theorem flX12_48 : FLK RX12 48 12 21 := ⟨_, rfl, by decide, sg5 137 rfl rfl⟩
set_option maxRecDepth 100000 in
theorem flX12_51 : FLK RX12 51 12 22 := ⟨_, rfl, by decide, sg5 138 rfl rfl⟩
set_option maxRecDepth 100000 in
theorem flX12_54 : FLK RX12 54 12 23 := ⟨_, rfl, by decide, sg5 139 rfl rfl⟩
set_option maxRecDepth 100000 in
theorem flX12_57 : FLK RX12 57 12 24 := ⟨_, rfl, by decide, sg5 140 rfl rfl⟩
set_option maxRecDepth 100000 in
theorem flX12_60 : FLK RX12 60 12 25 := ⟨_, rfl, by decide, sg5 141 rfl rfl⟩
set_option maxRecDepth 100000 in
theorem flX12_63 : FLK RX12 63 12 26 := ⟨_, rfl, by decide, sg5 142 rfl rfl⟩
set_option maxRecDepth 100000 in
theorem flX12_66 : FLK RX12 66 12 27 := ⟨_, rfl, by decide, sg5 143 rfl rfl⟩
set_option maxRecDepth 100000 in
theorem flX12_70 : FLK RX12 70 12 28 := ⟨_, rfl, by decide, sg5 144 rfl rfl⟩
set_option maxRecDepth 100000 in
theorem flX12_73 : FLK RX12 73 12 29 := ⟨_, rfl, by decide, sg5 145 rfl rfl⟩
set_option maxRecDepth 100000 in
theorem flX12_76 : FLK RX12 76 12 30 := ⟨_, rfl, by decide, sg5 146 rfl rfl⟩
set_option maxRecDepth 100000 in
theorem flX12_79 : FLK RX12 79 12 31 := ⟨_, rfl, by decide, sg5 147 rfl rfl⟩
set_option maxRecDepth 100000 in
theorem flX12_82 : FLK RX12 82 12 32 := ⟨_, rfl, by decide, sg5 148 rfl rfl⟩
set_option maxRecDepth 100000 in
theorem flX12_85 : FLK RX12 85 12 33 := ⟨_, rfl, by decide, sg5 149 rfl rfl⟩
set_option maxRecDepth 100000 in
theorem flX12_88 : FLK RX12 88 12 34 := ⟨_, rfl, by decide, sg5 150 rfl rfl⟩
set_option maxRecDepth 100000 in
theorem flX12_91 : FLK RX12 91 12 35 := ⟨_, rfl, by decide, sg5 151 rfl rfl⟩
set_option maxRecDepth 100000 in
theorem flX12_94 : FLK RX12 94 12 36 := ⟨_, rfl, by decide, sg5 152 rfl rfl⟩
set_option maxRecDepth 100000 in
theorem flX12_97 : FLK RX12 97 12 37 := ⟨_, rfl, by decide, sg5 153 rfl rfl⟩
set_option maxRecDepth 100000 in
theorem flX12_100 : FLK RX12 100 12 38 := ⟨_, rfl, by decide, sg5 154 rfl rfl⟩
set_option maxRecDepth 100000 in
theorem flX12_103 : FLK RX12 103 12 39 := ⟨_, rfl, by decide, sg5 155 rfl rfl⟩
set_option maxRecDepth 100000 in
theorem flX12_106 : FLK RX12 106 12 40 := ⟨_, rfl, by decide, sg5 156 rfl rfl⟩
set_option maxRecDepth 100000 in
theorem flX12_109 : FLK RX12 109 12 41 := ⟨_, rfl, by decide, sg5 157 rfl rfl⟩
set_option maxRecDepth 100000 in
theorem flX12_112 : FLK RX12 112 12 42 := ⟨_, rfl, by decide, sg5 158 rfl rfl⟩
set_option maxRecDepth 100000 in
theorem flX12_115 : FLK RX12 115 12 43 := ⟨_, rfl, by decide, sg5 159 rfl rfl⟩
set_option maxRecDepth 100000 in
theorem flX12_118 : FLK RX12 118 12 44 := ⟨_, rfl, by decide, sg5 160 rfl rfl⟩
set_option maxRecDepth 100000 in
theorem flX12_121 : FLK RX12 121 12 45 := ⟨_, rfl, by decide, sg5 161 rfl rfl⟩
set_option maxRecDepth 100000 in
theorem flX12_124 : FLK RX12 124 12 46 := ⟨_, rfl, by decide, sg5 162 rfl rfl⟩
set_option maxRecDepth 100000 in
theorem flX12_127 : FLK RX12 127 12 47 := ⟨_, rfl, by decide, sg5 163 rfl rfl⟩
set_option maxRecDepth 100000 in
theorem flX12_130 : FLK RX12 130 12 48 := ⟨_, rfl, by decide, sg5 164 rfl rfl⟩
set_option maxRecDepth 100000 in
theorem flX12_133 : FLK RX12 133 12 49 := ⟨_, rfl, by decide, sg5 165 rfl rfl⟩
set_option maxRecDepth 100000 in
theorem flX12_136 : FLK RX12 136 12 50 := ⟨_, rfl, by decide, sg5 166 rfl rfl⟩
set_option maxRecDepth 100000 in
theorem flX12_139 : FLK RX12 139 12 51 := ⟨_, rfl, by decide, sg5 167 rfl rfl⟩
set_option maxRecDepth 100000 in
theorem flX12_142 : FLK RX12 142 12 52 := ⟨_, rfl, by decide, sg5 168 rfl rfl⟩
set_option maxRecDepth 100000 in
theorem flX12_145 : FLK RX12 145 12 53 := ⟨_, rfl, by decide, sg5 169 rfl rfl⟩
set_option maxRecDepth 100000 in
theorem flX12_148 : FLK RX12 148 12 54 := ⟨_, rfl, by decide, sg5 170 rfl rfl⟩
set_option maxRecDepth 100000 in
theorem flX12_151 : FLK RX12 151 12 55 := ⟨_, rfl, by decide, sg5 171 rfl rfl⟩
set_option maxRecDepth 100000 in
theorem flX12_154 : FLK RX12 154 12 56 := ⟨_, rfl, by decide, sg5 172 rfl rfl⟩
set_option maxRecDepth 100000 in
theorem flX12_157 : FLK RX12 157 12 57 := ⟨_, rfl, by decide, sg5 173 rfl rfl⟩
set_option maxRecDepth 100000 in
theorem flX12_160 : FLK RX12 160 12 58 := ⟨_, rfl, by decide, sg5 174 rfl rfl⟩
set_option maxRecDepth 100000 in
theorem flX12_163 : FLK RX12 163 12 59 := ⟨_, rfl, by decide, sg5 175 rfl rfl⟩
set_option maxRecDepth 100000 in
theorem flX12_166 : FLK RX12 166 12 60 := ⟨_, rfl, by decide, sg5 176 rfl rfl⟩
set_option maxRecDepth 100000 in
theorem flX12_169 : FLK RX12 169 12 61 := ⟨_, rfl, by decide, sg5 177 rfl rfl⟩
set_option maxRecDepth 100000 in
theorem flX12_172 : FLK RX12 172 12 62 := ⟨_, rfl, by decide, sg5 178 rfl rfl⟩
set_option maxRecDepth 100000 in
theorem flX12_175 : FLK RX12 175 12 63 := ⟨_, rfl, by decide, sg5 179 rfl rfl⟩
set_option maxRecDepth 100000 in
theorem flX12_178 : FLK RX12 178 12 64 := ⟨_, rfl, by decide, sg5 180 rfl rfl⟩
set_option maxRecDepth 100000 in
theorem flX12_181 : FLK RX12 181 12 65 := ⟨_, rfl, by decide, sg5 181 rfl rfl⟩
set_option maxRecDepth 100000 in
theorem flX12_184 : FLK RX12 184 12 66 := ⟨_, rfl, by decide, sg5 182 rfl rfl⟩
set_option maxRecDepth 100000 in
theorem flX12_187 : FLK RX12 187 12 67 := ⟨_, rfl, by decide, sg5 183 rfl rfl⟩
set_option maxRecDepth 100000 in
theorem flX12_190 : FLK RX12 190 12 68 := ⟨_, rfl, by decide, sg5 184 rfl rfl⟩
set_option maxRecDepth 100000 in
theorem flX12_193 : FLK RX12 193 12 69 := ⟨_, rfl, by decide, sg5 185 rfl rfl⟩
set_option maxRecDepth 100000 in
theorem flX12_196 : FLK RX12 196 12 70 := ⟨_, rfl, by decide, sg5 186 rfl rfl⟩
set_option maxRecDepth 100000 in
theorem flX12_199 : FLK RX12 199 12 71 := ⟨_, rfl, by decide, sg5 187 rfl rfl⟩
set_option maxRecDepth 100000 in
theorem flX12_202 : FLK RX12 202 12 72 := ⟨_, rfl, by decide, sg5 188 rfl rfl⟩
set_option maxRecDepth 100000 in
theorem flX12_205 : FLK RX12 205 12 73 := ⟨_, rfl, by decide, sg5 189 rfl rfl⟩
set_option maxRecDepth 100000 in
theorem flX12_208 : FLK RX12 208 12 74 := ⟨_, rfl, by decide, sg5 190 rfl rfl⟩
set_option maxRecDepth 100000 in
theorem flX12_211 : FLK RX12 211 12 76 := ⟨_, rfl, by decide, sg5 192 rfl rfl⟩
set_option maxRecDepth 100000 in
theorem flX12_214 : FLK RX12 214 12 77 := ⟨_, rfl, by decide, sg5 193 rfl rfl⟩
set_option maxRecDepth 100000 in
theorem flX12_217 : FLK RX12 217 12 78 := ⟨_, rfl, by decide, sg5 194 rfl rfl⟩
set_option maxRecDepth 100000 in
theorem flX12_220 : FLK RX12 220 12 79 := ⟨_, rfl, by decide, sg5 195 rfl rfl⟩
set_option maxRecDepth 100000 in
theorem flX12_223 : FLK RX12 223 12 80 := ⟨_, rfl, by decide, sg5 196 rfl rfl⟩
set_option maxRecDepth 100000 in
theorem flX12_226 : FLK RX12 226 12 81 := ⟨_, rfl, by decide, sg5 197 rfl rfl⟩
set_option maxRecDepth 100000 in
theorem flX12_229 : FLK RX12 229 12 82 := ⟨_, rfl, by decide, sg5 198 rfl rfl⟩
set_option maxRecDepth 100000 in
theorem flX12_232 : FLK RX12 232 12 83 := ⟨_, rfl, by decide, sg5 199 rfl rfl⟩
set_option maxRecDepth 100000 in
theorem flX12_235 : FLK RX12 235 12 84 := ⟨_, rfl, by decide, sg5 200 rfl rfl⟩
set_option maxRecDepth 100000 in
theorem flX12_238 : FLK RX12 238 12 85 := ⟨_, rfl, by decide, sg5 201 rfl rfl⟩
set_option maxRecDepth 100000 in
theorem flX12_241 : FLK RX12 241 12 86 := ⟨_, rfl, by decide, sg5 202 rfl rfl⟩
set_option maxRecDepth 100000 in
theorem flX12_244 : FLK RX12 244 12 87 := ⟨_, rfl, by decide, sg5 203 rfl rfl⟩
set_option maxRecDepth 100000 in
theorem flX12_247 : FLK RX12 247 12 2 := ⟨_, rfl, by decide, sg5 118 rfl rfl⟩
set_option maxRecDepth 100000 in
theorem flX12_250 : FLK RX12 250 12 4 := ⟨_, rfl, by decide, sg5 120 rfl rfl⟩
set_option maxRecDepth 100000 in
theorem flX12_257 : FLK RX12 257 12 5 := ⟨_, rfl, by decide, sg5 121 rfl rfl⟩
set_option maxRecDepth 100000 in
theorem flX12_286 : FLK RX12 286 12 0 := ⟨_, rfl, by decide, sg5 116 rfl rfl⟩
set_option maxRecDepth 100000 in
theorem flX12_292 : FLK RX12 292 12 3 := ⟨_, rfl, by decide, sg5 119 rfl rfl⟩
set_option maxRecDepth 100000 in
theorem flX12_309 : FLK RX12 309 12 1 := ⟨_, rfl, by decide, sg5 117 rfl rfl⟩
set_option maxRecDepth 100000 in
theorem flX12_315 : FLK RX12 315 12 6 := ⟨_, rfl, by decide, sg5 122 rfl rfl⟩
set_option maxRecDepth 100000 in
theorem flX12_318 : FLK RX12 318 12 7 := ⟨_, rfl, by decide, sg5 123 rfl rfl⟩
set_option maxRecDepth 100000 in
theorem flX12_341 : FLK RX12 341 12 75 := ⟨_, rfl, by decide, sg5 191 rfl rfl⟩
set_option maxRecDepth 100000 in
theorem flX12_376 : FLK RX12 376 12 10 := ⟨_, rfl, by decide, sg5 126 rfl rfl⟩
/-- a method of ours that may be called -/
def okM (M : MD) (n : Nat) : Prop := Cond.code M.1 M.2.1 M.2.2.1 M.2.2.2 ∈ lw_g ∧ plainName M.1.cls = true ∧ Cond.initialized M.1.cls ∈ lw_g ∧ (M.1.cls ≠ "java/lang/invoke/MethodHandle" ∧ M.1.cls ≠ "java/lang/invoke/VarHandle" ∧ (parseMethodDescriptor M.1.desc).map (fun d => d.parameters.length) = some n) ∧ M.2.2.1 ≤ 40
set_option maxRecDepth 100000 in
theorem iniX11 : Cond.initialized RX11 ∈ lw_g := sg1 1 rfl rfl
set_option maxRecDepth 100000 in
theorem iniX0 : Cond.initialized RX0 ∈ lw_g := sg1 5 rfl rfl
set_option maxRecDepth 100000 in
theorem iniX1 : Cond.initialized RX1 ∈ lw_g := sg1 16 rfl rfl
set_option maxRecDepth 100000 in
theorem iniX2 : Cond.initialized RX2 ∈ lw_g := sg1 2 rfl rfl
set_option maxRecDepth 100000 in
theorem iniX3 : Cond.initialized RX3 ∈ lw_g := sg1 4 rfl rfl
set_option maxRecDepth 100000 in
theorem iniX4 : Cond.initialized RX4 ∈ lw_g := sg1 10 rfl rfl
set_option maxRecDepth 100000 in
theorem iniX5 : Cond.initialized RX5 ∈ lw_g := sg1 12 rfl rfl
set_option maxRecDepth 100000 in
theorem iniX6 : Cond.initialized RX6 ∈ lw_g := sg1 7 rfl rfl
set_option maxRecDepth 100000 in
theorem iniX7 : Cond.initialized RX7 ∈ lw_g := sg1 6 rfl rfl
set_option maxRecDepth 100000 in
theorem iniX8 : Cond.initialized RX8 ∈ lw_g := sg1 13 rfl rfl
set_option maxRecDepth 100000 in
theorem iniX9 : Cond.initialized RX9 ∈ lw_g := sg1 8 rfl rfl
set_option maxRecDepth 100000 in
theorem iniX10 : Cond.initialized RX10 ∈ lw_g := sg1 3 rfl rfl
set_option maxRecDepth 100000 in
theorem iniX12 : Cond.initialized RX12 ∈ lw_g := sg1 9 rfl rfl
set_option maxRecDepth 100000 in
theorem iniJ6 : Cond.initialized RJ6 ∈ lw_g := sg1 14 rfl rfl
set_option maxRecDepth 100000 in
theorem iniJ9 : Cond.initialized RJ9 ∈ lw_g := sg1 15 rfl rfl
set_option maxRecDepth 100000 in
theorem pd0 : (parseMethodDescriptor "()V").map (fun d => d.parameters.length) = some 0 := by decide +kernel
set_option maxRecDepth 100000 in
theorem pd1 : (parseMethodDescriptor "(LStudioYears$Picture;ILStudioYears$Shelf;)I").map (fun d => d.parameters.length) = some 3 := by decide +kernel
set_option maxRecDepth 100000 in
theorem pd2 : (parseMethodDescriptor "(LStudioYears$Picture;LStudioYears$Shelf;)V").map (fun d => d.parameters.length) = some 2 := by decide +kernel
set_option maxRecDepth 100000 in
theorem pd3 : (parseMethodDescriptor "(III)V").map (fun d => d.parameters.length) = some 3 := by decide +kernel
set_option maxRecDepth 100000 in
theorem pd4 : (parseMethodDescriptor "(III)Z").map (fun d => d.parameters.length) = some 3 := by decide +kernel
set_option maxRecDepth 100000 in
theorem pd5 : (parseMethodDescriptor "(J)V").map (fun d => d.parameters.length) = some 1 := by decide +kernel
set_option maxRecDepth 100000 in
theorem pd6 : (parseMethodDescriptor "(II)V").map (fun d => d.parameters.length) = some 2 := by decide +kernel
set_option maxRecDepth 100000 in
theorem pd7 : (parseMethodDescriptor "(II)Z").map (fun d => d.parameters.length) = some 2 := by decide +kernel
set_option maxRecDepth 100000 in
theorem pd8 : (parseMethodDescriptor "()I").map (fun d => d.parameters.length) = some 0 := by decide +kernel
set_option maxRecDepth 100000 in
theorem pd9 : (parseMethodDescriptor "(LStudioYears$Picture;)V").map (fun d => d.parameters.length) = some 1 := by decide +kernel
set_option maxRecDepth 100000 in
theorem pd10 : (parseMethodDescriptor "(LStudioYears$Picture;I)V").map (fun d => d.parameters.length) = some 2 := by decide +kernel
set_option maxRecDepth 100000 in
theorem pd11 : (parseMethodDescriptor "(LStudioYears$Picture;III)V").map (fun d => d.parameters.length) = some 4 := by decide +kernel
set_option maxRecDepth 100000 in
theorem pd12 : (parseMethodDescriptor "(LStudioYears$Picture;III)I").map (fun d => d.parameters.length) = some 4 := by decide +kernel
set_option maxRecDepth 100000 in
theorem pd13 : (parseMethodDescriptor "(I)I").map (fun d => d.parameters.length) = some 1 := by decide +kernel
set_option maxRecDepth 100000 in
theorem pd14 : (parseMethodDescriptor "(LStudioYears$Picture;LStudioYears$Shelf;)Z").map (fun d => d.parameters.length) = some 2 := by decide +kernel
set_option maxRecDepth 100000 in
theorem pd15 : (parseMethodDescriptor "(LStudioYears$Picture;)I").map (fun d => d.parameters.length) = some 1 := by decide +kernel
set_option maxRecDepth 100000 in
theorem pd16 : (parseMethodDescriptor "(LStudioYears$Picture;I)I").map (fun d => d.parameters.length) = some 2 := by decide +kernel
set_option maxRecDepth 100000 in
theorem pd17 : (parseMethodDescriptor "(I)V").map (fun d => d.parameters.length) = some 1 := by decide +kernel
set_option maxRecDepth 100000 in
theorem pd18 : (parseMethodDescriptor "([II)V").map (fun d => d.parameters.length) = some 2 := by decide +kernel
set_option maxRecDepth 100000 in
theorem pd19 : (parseMethodDescriptor "(IILStudioYears$Laws;)I").map (fun d => d.parameters.length) = some 3 := by decide +kernel
set_option maxRecDepth 100000 in
theorem pd20 : (parseMethodDescriptor "(I)Z").map (fun d => d.parameters.length) = some 1 := by decide +kernel
set_option maxRecDepth 100000 in
theorem pd21 : (parseMethodDescriptor "(LStudioYears$Shelf;)V").map (fun d => d.parameters.length) = some 1 := by decide +kernel
set_option maxRecDepth 100000 in
theorem pd22 : (parseMethodDescriptor "([I)V").map (fun d => d.parameters.length) = some 1 := by decide +kernel
set_option maxRecDepth 100000 in
theorem pd23 : (parseMethodDescriptor "([LStudioYears$Picture;II)I").map (fun d => d.parameters.length) = some 3 := by decide +kernel
set_option maxRecDepth 100000 in
theorem pd24 : (parseMethodDescriptor "([LStudioYears$Picture;II)V").map (fun d => d.parameters.length) = some 3 := by decide +kernel
set_option maxRecDepth 100000 in
theorem pd25 : (parseMethodDescriptor "(IIII)V").map (fun d => d.parameters.length) = some 4 := by decide +kernel
set_option maxRecDepth 100000 in
theorem pd26 : (parseMethodDescriptor "(LStudioYears$Scene;I)I").map (fun d => d.parameters.length) = some 2 := by decide +kernel
set_option maxRecDepth 100000 in
theorem pd27 : (parseMethodDescriptor "(LStudioYears$Scene;)I").map (fun d => d.parameters.length) = some 1 := by decide +kernel
set_option maxRecDepth 100000 in
theorem pd28 : (parseMethodDescriptor "(LStudioYears$Picture;IIII)V").map (fun d => d.parameters.length) = some 5 := by decide +kernel
set_option maxRecDepth 100000 in
theorem pd29 : (parseMethodDescriptor "(J)J").map (fun d => d.parameters.length) = some 1 := by decide +kernel
set_option maxRecDepth 100000 in
theorem pd30 : (parseMethodDescriptor "(LStudioYears$Shelf;)I").map (fun d => d.parameters.length) = some 1 := by decide +kernel
set_option maxRecDepth 100000 in
theorem pd31 : (parseMethodDescriptor "()Z").map (fun d => d.parameters.length) = some 0 := by decide +kernel
set_option maxRecDepth 100000 in
theorem pd32 : (parseMethodDescriptor "(III)I").map (fun d => d.parameters.length) = some 3 := by decide +kernel
set_option maxRecDepth 100000 in
theorem pd33 : (parseMethodDescriptor "(IIJ)I").map (fun d => d.parameters.length) = some 3 := by decide +kernel
set_option maxRecDepth 100000 in
theorem pd34 : (parseMethodDescriptor "(IIIII)I").map (fun d => d.parameters.length) = some 5 := by decide +kernel
set_option maxRecDepth 100000 in
theorem pd35 : (parseMethodDescriptor "(II)J").map (fun d => d.parameters.length) = some 2 := by decide +kernel
set_option maxRecDepth 100000 in
theorem pd36 : (parseMethodDescriptor "(II)I").map (fun d => d.parameters.length) = some 2 := by decide +kernel
set_option maxRecDepth 100000 in
theorem pd37 : (parseMethodDescriptor "(IIII)I").map (fun d => d.parameters.length) = some 4 := by decide +kernel
set_option maxRecDepth 100000 in
theorem pd38 : (parseMethodDescriptor "(IZ)J").map (fun d => d.parameters.length) = some 2 := by decide +kernel
set_option maxRecDepth 100000 in
theorem pd39 : (parseMethodDescriptor "(I)LStudioYears$Shelf;").map (fun d => d.parameters.length) = some 1 := by decide +kernel
set_option maxRecDepth 100000 in
theorem pd40 : (parseMethodDescriptor "(I)LStudioYears$Person;").map (fun d => d.parameters.length) = some 1 := by decide +kernel
set_option maxRecDepth 100000 in
theorem pd41 : (parseMethodDescriptor "(I)LStudioYears$Picture;").map (fun d => d.parameters.length) = some 1 := by decide +kernel
set_option maxRecDepth 100000 in
theorem pd42 : (parseMethodDescriptor "(II)LStudioYears$Scene;").map (fun d => d.parameters.length) = some 2 := by decide +kernel
set_option maxRecDepth 100000 in
theorem pd43 : (parseMethodDescriptor "(I)LStudioYears$Hall;").map (fun d => d.parameters.length) = some 1 := by decide +kernel
set_option maxRecDepth 100000 in
theorem pd44 : (parseMethodDescriptor "(JJ)J").map (fun d => d.parameters.length) = some 2 := by decide +kernel
set_option maxRecDepth 100000 in
theorem pd45 : (parseMethodDescriptor "(ILStudioYears$Hall;I)Z").map (fun d => d.parameters.length) = some 3 := by decide +kernel
set_option maxRecDepth 100000 in
theorem pd46 : (parseMethodDescriptor "(ILStudioYears$Hall;I)I").map (fun d => d.parameters.length) = some 3 := by decide +kernel
set_option maxRecDepth 100000 in
theorem pnX11 : plainName RX11 = true ∧ RX11 ≠ "java/lang/invoke/MethodHandle" ∧ RX11 ≠ "java/lang/invoke/VarHandle" := ⟨by decide +kernel, by decide +kernel, by decide +kernel⟩
set_option maxRecDepth 100000 in
theorem pnX0 : plainName RX0 = true ∧ RX0 ≠ "java/lang/invoke/MethodHandle" ∧ RX0 ≠ "java/lang/invoke/VarHandle" := ⟨by decide +kernel, by decide +kernel, by decide +kernel⟩
set_option maxRecDepth 100000 in
theorem pnX1 : plainName RX1 = true ∧ RX1 ≠ "java/lang/invoke/MethodHandle" ∧ RX1 ≠ "java/lang/invoke/VarHandle" := ⟨by decide +kernel, by decide +kernel, by decide +kernel⟩
set_option maxRecDepth 100000 in
theorem pnX2 : plainName RX2 = true ∧ RX2 ≠ "java/lang/invoke/MethodHandle" ∧ RX2 ≠ "java/lang/invoke/VarHandle" := ⟨by decide +kernel, by decide +kernel, by decide +kernel⟩
set_option maxRecDepth 100000 in
theorem pnX3 : plainName RX3 = true ∧ RX3 ≠ "java/lang/invoke/MethodHandle" ∧ RX3 ≠ "java/lang/invoke/VarHandle" := ⟨by decide +kernel, by decide +kernel, by decide +kernel⟩
set_option maxRecDepth 100000 in
theorem pnX4 : plainName RX4 = true ∧ RX4 ≠ "java/lang/invoke/MethodHandle" ∧ RX4 ≠ "java/lang/invoke/VarHandle" := ⟨by decide +kernel, by decide +kernel, by decide +kernel⟩
set_option maxRecDepth 100000 in
theorem pnX5 : plainName RX5 = true ∧ RX5 ≠ "java/lang/invoke/MethodHandle" ∧ RX5 ≠ "java/lang/invoke/VarHandle" := ⟨by decide +kernel, by decide +kernel, by decide +kernel⟩
set_option maxRecDepth 100000 in
theorem pnX6 : plainName RX6 = true ∧ RX6 ≠ "java/lang/invoke/MethodHandle" ∧ RX6 ≠ "java/lang/invoke/VarHandle" := ⟨by decide +kernel, by decide +kernel, by decide +kernel⟩
set_option maxRecDepth 100000 in
theorem pnX7 : plainName RX7 = true ∧ RX7 ≠ "java/lang/invoke/MethodHandle" ∧ RX7 ≠ "java/lang/invoke/VarHandle" := ⟨by decide +kernel, by decide +kernel, by decide +kernel⟩
set_option maxRecDepth 100000 in
theorem pnX8 : plainName RX8 = true ∧ RX8 ≠ "java/lang/invoke/MethodHandle" ∧ RX8 ≠ "java/lang/invoke/VarHandle" := ⟨by decide +kernel, by decide +kernel, by decide +kernel⟩
set_option maxRecDepth 100000 in
theorem pnX9 : plainName RX9 = true ∧ RX9 ≠ "java/lang/invoke/MethodHandle" ∧ RX9 ≠ "java/lang/invoke/VarHandle" := ⟨by decide +kernel, by decide +kernel, by decide +kernel⟩
set_option maxRecDepth 100000 in
theorem pnX10 : plainName RX10 = true ∧ RX10 ≠ "java/lang/invoke/MethodHandle" ∧ RX10 ≠ "java/lang/invoke/VarHandle" := ⟨by decide +kernel, by decide +kernel, by decide +kernel⟩
set_option maxRecDepth 100000 in
theorem pnX12 : plainName RX12 = true ∧ RX12 ≠ "java/lang/invoke/MethodHandle" ∧ RX12 ≠ "java/lang/invoke/VarHandle" := ⟨by decide +kernel, by decide +kernel, by decide +kernel⟩
set_option maxRecDepth 100000 in
theorem pnJ6 : plainName RJ6 = true ∧ RJ6 ≠ "java/lang/invoke/MethodHandle" ∧ RJ6 ≠ "java/lang/invoke/VarHandle" := ⟨by decide +kernel, by decide +kernel, by decide +kernel⟩
set_option maxRecDepth 100000 in
theorem okX0_init : okM MX0_init 0 := ⟨sg1 109 rfl rfl, pnX0.1, iniX0, ⟨pnX0.2.1, pnX0.2.2, pd0⟩, by decide⟩
set_option maxRecDepth 100000 in
theorem okX0_add : okM MX0_add 3 := ⟨sg4 123 rfl rfl, pnX0.1, iniX0, ⟨pnX0.2.1, pnX0.2.2, pd1⟩, by decide⟩
set_option maxRecDepth 100000 in
theorem okX0_fillCanKeep : okM MX0_fillCanKeep 2 := ⟨sg4 127 rfl rfl, pnX0.1, iniX0, ⟨pnX0.2.1, pnX0.2.2, pd2⟩, by decide⟩
set_option maxRecDepth 100000 in
theorem okX0_keepHands : okM MX0_keepHands 2 := ⟨sg4 134 rfl rfl, pnX0.1, iniX0, ⟨pnX0.2.1, pnX0.2.2, pd2⟩, by decide⟩
set_option maxRecDepth 100000 in
theorem okX1_init : okM MX1_init 3 := ⟨sg4 212 rfl rfl, pnX1.1, iniX1, ⟨pnX1.2.1, pnX1.2.2, pd3⟩, by decide⟩
set_option maxRecDepth 100000 in
theorem okX1_showsNear : okM MX1_showsNear 3 := ⟨sg5 22 rfl rfl, pnX1.1, iniX1, ⟨pnX1.2.1, pnX1.2.2, pd4⟩, by decide⟩
set_option maxRecDepth 100000 in
theorem okX1_giveBack : okM MX1_giveBack 1 := ⟨sg5 36 rfl rfl, pnX1.1, iniX1, ⟨pnX1.2.1, pnX1.2.2, pd5⟩, by decide⟩
set_option maxRecDepth 100000 in
theorem okX2_init : okM MX2_init 0 := ⟨sg1 37 rfl rfl, pnX2.1, iniX2, ⟨pnX2.2.1, pnX2.2.2, pd0⟩, by decide⟩
set_option maxRecDepth 100000 in
theorem okX2_strike : okM MX2_strike 2 := ⟨sg2 211 rfl rfl, pnX2.1, iniX2, ⟨pnX2.2.1, pnX2.2.2, pd6⟩, by decide⟩
set_option maxRecDepth 100000 in
theorem okX2_areAgainst : okM MX2_areAgainst 2 := ⟨sg2 223 rfl rfl, pnX2.1, iniX2, ⟨pnX2.2.1, pnX2.2.2, pd7⟩, by decide⟩
set_option maxRecDepth 100000 in
theorem okX3_init : okM MX3_init 0 := ⟨sg1 73 rfl rfl, pnX3.1, iniX3, ⟨pnX3.2.1, pnX3.2.2, pd0⟩, by decide⟩
set_option maxRecDepth 100000 in
theorem okX3_forget : okM MX3_forget 0 := ⟨sg3 127 rfl rfl, pnX3.1, iniX3, ⟨pnX3.2.1, pnX3.2.2, pd0⟩, by decide⟩
set_option maxRecDepth 100000 in
theorem okX3_bestCost : okM MX3_bestCost 0 := ⟨sg3 239 rfl rfl, pnX3.1, iniX3, ⟨pnX3.2.1, pnX3.2.2, pd8⟩, by decide⟩
set_option maxRecDepth 100000 in
theorem okX3_findBest : okM MX3_findBest 1 := ⟨sg3 199 rfl rfl, pnX3.1, iniX3, ⟨pnX3.2.1, pnX3.2.2, pd9⟩, by decide⟩
set_option maxRecDepth 100000 in
theorem okX3_fillLeast : okM MX3_fillLeast 2 := ⟨sg3 207 rfl rfl, pnX3.1, iniX3, ⟨pnX3.2.1, pnX3.2.2, pd10⟩, by decide⟩
set_option maxRecDepth 100000 in
theorem okX3_fillWithNext : okM MX3_fillWithNext 4 := ⟨sg3 212 rfl rfl, pnX3.1, iniX3, ⟨pnX3.2.1, pnX3.2.2, pd11⟩, by decide⟩
set_option maxRecDepth 100000 in
theorem okX3_onwardCost : okM MX3_onwardCost 4 := ⟨sg3 216 rfl rfl, pnX3.1, iniX3, ⟨pnX3.2.1, pnX3.2.2, pd12⟩, by decide⟩
set_option maxRecDepth 100000 in
theorem okX3_changeCost : okM MX3_changeCost 4 := ⟨sg3 224 rfl rfl, pnX3.1, iniX3, ⟨pnX3.2.1, pnX3.2.2, pd12⟩, by decide⟩
set_option maxRecDepth 100000 in
theorem okX3_walkBest : okM MX3_walkBest 2 := ⟨sg3 231 rfl rfl, pnX3.1, iniX3, ⟨pnX3.2.1, pnX3.2.2, pd10⟩, by decide⟩
set_option maxRecDepth 100000 in
theorem okX3_firstOfBest : okM MX3_firstOfBest 4 := ⟨sg3 235 rfl rfl, pnX3.1, iniX3, ⟨pnX3.2.1, pnX3.2.2, pd12⟩, by decide⟩
set_option maxRecDepth 100000 in
theorem okX3_dayCost : okM MX3_dayCost 1 := ⟨sg3 220 rfl rfl, pnX3.1, iniX3, ⟨pnX3.2.1, pnX3.2.2, pd13⟩, by decide⟩
set_option maxRecDepth 100000 in
theorem okX3_readOrder : okM MX3_readOrder 2 := ⟨sg4 29 rfl rfl, pnX3.1, iniX3, ⟨pnX3.2.1, pnX3.2.2, pd14⟩, by decide⟩
set_option maxRecDepth 100000 in
theorem okX3_costOf : okM MX3_costOf 1 := ⟨sg4 33 rfl rfl, pnX3.1, iniX3, ⟨pnX3.2.1, pnX3.2.2, pd15⟩, by decide⟩
set_option maxRecDepth 100000 in
theorem okX3_peopleThere : okM MX3_peopleThere 2 := ⟨sg4 37 rfl rfl, pnX3.1, iniX3, ⟨pnX3.2.1, pnX3.2.2, pd16⟩, by decide⟩
set_option maxRecDepth 100000 in
theorem okX3_boundOf : okM MX3_boundOf 1 := ⟨sg4 11 rfl rfl, pnX3.1, iniX3, ⟨pnX3.2.1, pnX3.2.2, pd15⟩, by decide⟩
set_option maxRecDepth 100000 in
theorem okX4_init : okM MX4_init 1 := ⟨sg2 33 rfl rfl, pnX4.1, iniX4, ⟨pnX4.2.1, pnX4.2.2, pd17⟩, by decide⟩
set_option maxRecDepth 100000 in
theorem okX4_beginTerm : okM MX4_beginTerm 2 := ⟨sg2 197 rfl rfl, pnX4.1, iniX4, ⟨pnX4.2.1, pnX4.2.2, pd18⟩, by decide⟩
set_option maxRecDepth 100000 in
theorem okX4_countOf : okM MX4_countOf 3 := ⟨sg2 219 rfl rfl, pnX4.1, iniX4, ⟨pnX4.2.1, pnX4.2.2, pd19⟩, by decide⟩
set_option maxRecDepth 100000 in
theorem okX4_isUnder : okM MX4_isUnder 1 := ⟨sg2 193 rfl rfl, pnX4.1, iniX4, ⟨pnX4.2.1, pnX4.2.2, pd20⟩, by decide⟩
set_option maxRecDepth 100000 in
theorem okX4_isAtWork : okM MX4_isAtWork 1 := ⟨sg3 0 rfl rfl, pnX4.1, iniX4, ⟨pnX4.2.1, pnX4.2.2, pd20⟩, by decide⟩
set_option maxRecDepth 100000 in
theorem okX4_isReady : okM MX4_isReady 1 := ⟨sg4 65 rfl rfl, pnX4.1, iniX4, ⟨pnX4.2.1, pnX4.2.2, pd20⟩, by decide⟩
set_option maxRecDepth 100000 in
theorem okX4_isIll : okM MX4_isIll 1 := ⟨sg4 70 rfl rfl, pnX4.1, iniX4, ⟨pnX4.2.1, pnX4.2.2, pd20⟩, by decide⟩
set_option maxRecDepth 100000 in
theorem okX4_takeIllness : okM MX4_takeIllness 1 := ⟨sg2 231 rfl rfl, pnX4.1, iniX4, ⟨pnX4.2.1, pnX4.2.2, pd21⟩, by decide⟩
set_option maxRecDepth 100000 in
theorem okX4_yearOfTerm : okM MX4_yearOfTerm 1 := ⟨sg3 9 rfl rfl, pnX4.1, iniX4, ⟨pnX4.2.1, pnX4.2.2, pd13⟩, by decide⟩
set_option maxRecDepth 100000 in
theorem okX4_paidOn : okM MX4_paidOn 1 := ⟨sg4 94 rfl rfl, pnX4.1, iniX4, ⟨pnX4.2.1, pnX4.2.2, pd13⟩, by decide⟩
set_option maxRecDepth 100000 in
theorem okX4_addPaidWeek : okM MX4_addPaidWeek 1 := ⟨sg4 98 rfl rfl, pnX4.1, iniX4, ⟨pnX4.2.1, pnX4.2.2, pd17⟩, by decide⟩
set_option maxRecDepth 100000 in
theorem okX4_refusalsOn : okM MX4_refusalsOn 1 := ⟨sg3 5 rfl rfl, pnX4.1, iniX4, ⟨pnX4.2.1, pnX4.2.2, pd13⟩, by decide⟩
set_option maxRecDepth 100000 in
theorem okX4_addRefusal : okM MX4_addRefusal 1 := ⟨sg3 13 rfl rfl, pnX4.1, iniX4, ⟨pnX4.2.1, pnX4.2.2, pd17⟩, by decide⟩
set_option maxRecDepth 100000 in
theorem okX4_settle : okM MX4_settle 1 := ⟨sg4 103 rfl rfl, pnX4.1, iniX4, ⟨pnX4.2.1, pnX4.2.2, pd17⟩, by decide⟩
set_option maxRecDepth 100000 in
theorem okX5_init : okM MX5_init 1 := ⟨sg3 31 rfl rfl, pnX5.1, iniX5, ⟨pnX5.2.1, pnX5.2.2, pd17⟩, by decide⟩
set_option maxRecDepth 100000 in
theorem okX5_beginShooting : okM MX5_beginShooting 1 := ⟨sg4 45 rfl rfl, pnX5.1, iniX5, ⟨pnX5.2.1, pnX5.2.2, pd22⟩, by decide⟩
set_option maxRecDepth 100000 in
theorem okX5_leftOfAll : okM MX5_leftOfAll 0 := ⟨sg4 74 rfl rfl, pnX5.1, iniX5, ⟨pnX5.2.1, pnX5.2.2, pd8⟩, by decide⟩
set_option maxRecDepth 100000 in
theorem okX5_nextScene : okM MX5_nextScene 1 := ⟨sg4 82 rfl rfl, pnX5.1, iniX5, ⟨pnX5.2.1, pnX5.2.2, pd13⟩, by decide⟩
set_option maxRecDepth 100000 in
theorem okX5_castOfAll : okM MX5_castOfAll 0 := ⟨sg5 52 rfl rfl, pnX5.1, iniX5, ⟨pnX5.2.1, pnX5.2.2, pd8⟩, by decide⟩
set_option maxRecDepth 100000 in
theorem okX5_linesOf : okM MX5_linesOf 1 := ⟨sg4 143 rfl rfl, pnX5.1, iniX5, ⟨pnX5.2.1, pnX5.2.2, pd13⟩, by decide⟩
set_option maxRecDepth 100000 in
theorem okX6_init : okM MX6_init 0 := ⟨sg1 141 rfl rfl, pnX6.1, iniX6, ⟨pnX6.2.1, pnX6.2.2, pd0⟩, by decide⟩
set_option maxRecDepth 100000 in
theorem okX6_findBest : okM MX6_findBest 3 := ⟨sg5 73 rfl rfl, pnX6.1, iniX6, ⟨pnX6.2.1, pnX6.2.2, pd23⟩, by decide⟩
set_option maxRecDepth 100000 in
theorem okX6_mostOf : okM MX6_mostOf 1 := ⟨sg5 78 rfl rfl, pnX6.1, iniX6, ⟨pnX6.2.1, pnX6.2.2, pd15⟩, by decide⟩
set_option maxRecDepth 100000 in
theorem okX6_search : okM MX6_search 3 := ⟨sg5 83 rfl rfl, pnX6.1, iniX6, ⟨pnX6.2.1, pnX6.2.2, pd24⟩, by decide⟩
set_option maxRecDepth 100000 in
theorem okX6_isFree : okM MX6_isFree 3 := ⟨sg5 89 rfl rfl, pnX6.1, iniX6, ⟨pnX6.2.1, pnX6.2.2, pd4⟩, by decide⟩
set_option maxRecDepth 100000 in
theorem okX6_use : okM MX6_use 4 := ⟨sg5 93 rfl rfl, pnX6.1, iniX6, ⟨pnX6.2.1, pnX6.2.2, pd25⟩, by decide⟩
set_option maxRecDepth 100000 in
theorem okX7_init : okM MX7_init 0 := ⟨sg1 122 rfl rfl, pnX7.1, iniX7, ⟨pnX7.2.1, pnX7.2.2, pd0⟩, by decide⟩
set_option maxRecDepth 100000 in
theorem okX7_findBest : okM MX7_findBest 2 := ⟨sg4 172 rfl rfl, pnX7.1, iniX7, ⟨pnX7.2.1, pnX7.2.2, pd16⟩, by decide⟩
set_option maxRecDepth 100000 in
theorem okX7_valueOf : okM MX7_valueOf 2 := ⟨sg4 178 rfl rfl, pnX7.1, iniX7, ⟨pnX7.2.1, pnX7.2.2, pd26⟩, by decide⟩
set_option maxRecDepth 100000 in
theorem okX7_mostOf : okM MX7_mostOf 1 := ⟨sg4 175 rfl rfl, pnX7.1, iniX7, ⟨pnX7.2.1, pnX7.2.2, pd27⟩, by decide⟩
set_option maxRecDepth 100000 in
theorem okX7_search : okM MX7_search 5 := ⟨sg4 183 rfl rfl, pnX7.1, iniX7, ⟨pnX7.2.1, pnX7.2.2, pd28⟩, by decide⟩
set_option maxRecDepth 100000 in
theorem okX8_init : okM MX8_init 3 := ⟨sg3 132 rfl rfl, pnX8.1, iniX8, ⟨pnX8.2.1, pnX8.2.2, pd3⟩, by decide⟩
set_option maxRecDepth 100000 in
theorem okX9_init : okM MX9_init 0 := ⟨sg1 176 rfl rfl, pnX9.1, iniX9, ⟨pnX9.2.1, pnX9.2.2, pd0⟩, by decide⟩
set_option maxRecDepth 100000 in
theorem okX9_becomeRow : okM MX9_becomeRow 2 := ⟨sg2 96 rfl rfl, pnX9.1, iniX9, ⟨pnX9.2.1, pnX9.2.2, pd6⟩, by decide⟩
set_option maxRecDepth 100000 in
theorem okX9_becomePicture : okM MX9_becomePicture 1 := ⟨sg2 135 rfl rfl, pnX9.1, iniX9, ⟨pnX9.2.1, pnX9.2.2, pd17⟩, by decide⟩
set_option maxRecDepth 100000 in
theorem okX9_lackOfRow : okM MX9_lackOfRow 0 := ⟨sg2 108 rfl rfl, pnX9.1, iniX9, ⟨pnX9.2.1, pnX9.2.2, pd8⟩, by decide⟩
set_option maxRecDepth 100000 in
theorem okX9_hasSpan : okM MX9_hasSpan 2 := ⟨sg2 120 rfl rfl, pnX9.1, iniX9, ⟨pnX9.2.1, pnX9.2.2, pd7⟩, by decide⟩
set_option maxRecDepth 100000 in
theorem okX9_lowestBits : okM MX9_lowestBits 1 := ⟨sg2 112 rfl rfl, pnX9.1, iniX9, ⟨pnX9.2.1, pnX9.2.2, pd29⟩, by decide⟩
set_option maxRecDepth 100000 in
theorem okX10_init : okM MX10_init 0 := ⟨sg1 55 rfl rfl, pnX10.1, iniX10, ⟨pnX10.2.1, pnX10.2.2, pd0⟩, by decide⟩
set_option maxRecDepth 100000 in
theorem okX10_read : okM MX10_read 1 := ⟨sg2 167 rfl rfl, pnX10.1, iniX10, ⟨pnX10.2.1, pnX10.2.2, pd21⟩, by decide⟩
set_option maxRecDepth 100000 in
theorem okX10_findFault : okM MX10_findFault 1 := ⟨sg2 171 rfl rfl, pnX10.1, iniX10, ⟨pnX10.2.1, pnX10.2.2, pd30⟩, by decide⟩
set_option maxRecDepth 100000 in
theorem okX10_hasNumber : okM MX10_hasNumber 0 := ⟨sg2 187 rfl rfl, pnX10.1, iniX10, ⟨pnX10.2.1, pnX10.2.2, pd31⟩, by decide⟩
set_option maxRecDepth 100000 in
theorem okX10_addDigit : okM MX10_addDigit 1 := ⟨sg2 175 rfl rfl, pnX10.1, iniX10, ⟨pnX10.2.1, pnX10.2.2, pd20⟩, by decide⟩
set_option maxRecDepth 100000 in
theorem okX10_openClause : okM MX10_openClause 1 := ⟨sg2 183 rfl rfl, pnX10.1, iniX10, ⟨pnX10.2.1, pnX10.2.2, pd20⟩, by decide⟩
set_option maxRecDepth 100000 in
theorem okX11_init : okM MX11_init 0 := ⟨sg1 21 rfl rfl, pnX11.1, iniX11, ⟨pnX11.2.1, pnX11.2.2, pd0⟩, by decide⟩
set_option maxRecDepth 100000 in
theorem okX11_person : okM MX11_person 1 := ⟨sg2 25 rfl rfl, pnX11.1, iniX11, ⟨pnX11.2.1, pnX11.2.2, pd13⟩, by decide⟩
set_option maxRecDepth 100000 in
theorem okX11_row : okM MX11_row 3 := ⟨sg2 88 rfl rfl, pnX11.1, iniX11, ⟨pnX11.2.1, pnX11.2.2, pd32⟩, by decide⟩
set_option maxRecDepth 100000 in
theorem okX11_set : okM MX11_set 3 := ⟨sg2 100 rfl rfl, pnX11.1, iniX11, ⟨pnX11.2.1, pnX11.2.2, pd33⟩, by decide⟩
set_option maxRecDepth 100000 in
theorem okX11_copy : okM MX11_copy 5 := ⟨sg2 116 rfl rfl, pnX11.1, iniX11, ⟨pnX11.2.1, pnX11.2.2, pd34⟩, by decide⟩
set_option maxRecDepth 100000 in
theorem okX11_element : okM MX11_element 2 := ⟨sg2 127 rfl rfl, pnX11.1, iniX11, ⟨pnX11.2.1, pnX11.2.2, pd35⟩, by decide⟩
set_option maxRecDepth 100000 in
theorem okX11_show : okM MX11_show 2 := ⟨sg2 131 rfl rfl, pnX11.1, iniX11, ⟨pnX11.2.1, pnX11.2.2, pd36⟩, by decide⟩
set_option maxRecDepth 100000 in
theorem okX11_holds : okM MX11_holds 1 := ⟨sg2 139 rfl rfl, pnX11.1, iniX11, ⟨pnX11.2.1, pnX11.2.2, pd13⟩, by decide⟩
set_option maxRecDepth 100000 in
theorem okX11_kindIn : okM MX11_kindIn 2 := ⟨sg2 143 rfl rfl, pnX11.1, iniX11, ⟨pnX11.2.1, pnX11.2.2, pd36⟩, by decide⟩
set_option maxRecDepth 100000 in
theorem okX11_term : okM MX11_term 2 := ⟨sg2 159 rfl rfl, pnX11.1, iniX11, ⟨pnX11.2.1, pnX11.2.2, pd36⟩, by decide⟩
set_option maxRecDepth 100000 in
theorem okX11_fault : okM MX11_fault 0 := ⟨sg2 203 rfl rfl, pnX11.1, iniX11, ⟨pnX11.2.1, pnX11.2.2, pd8⟩, by decide⟩
set_option maxRecDepth 100000 in
theorem okX11_law : okM MX11_law 2 := ⟨sg2 207 rfl rfl, pnX11.1, iniX11, ⟨pnX11.2.1, pnX11.2.2, pd36⟩, by decide⟩
set_option maxRecDepth 100000 in
theorem okX11_counts : okM MX11_counts 3 := ⟨sg2 215 rfl rfl, pnX11.1, iniX11, ⟨pnX11.2.1, pnX11.2.2, pd32⟩, by decide⟩
set_option maxRecDepth 100000 in
theorem okX11_ill : okM MX11_ill 2 := ⟨sg2 227 rfl rfl, pnX11.1, iniX11, ⟨pnX11.2.1, pnX11.2.2, pd36⟩, by decide⟩
set_option maxRecDepth 100000 in
theorem okX11_refuse : okM MX11_refuse 1 := ⟨sg2 236 rfl rfl, pnX11.1, iniX11, ⟨pnX11.2.1, pnX11.2.2, pd13⟩, by decide⟩
set_option maxRecDepth 100000 in
theorem okX11_recall : okM MX11_recall 1 := ⟨sg3 18 rfl rfl, pnX11.1, iniX11, ⟨pnX11.2.1, pnX11.2.2, pd13⟩, by decide⟩
set_option maxRecDepth 100000 in
theorem okX11_lend : okM MX11_lend 3 := ⟨sg3 22 rfl rfl, pnX11.1, iniX11, ⟨pnX11.2.1, pnX11.2.2, pd32⟩, by decide⟩
set_option maxRecDepth 100000 in
theorem okX11_picture : okM MX11_picture 1 := ⟨sg3 27 rfl rfl, pnX11.1, iniX11, ⟨pnX11.2.1, pnX11.2.2, pd13⟩, by decide⟩
set_option maxRecDepth 100000 in
theorem okX11_scene : okM MX11_scene 4 := ⟨sg3 120 rfl rfl, pnX11.1, iniX11, ⟨pnX11.2.1, pnX11.2.2, pd37⟩, by decide⟩
set_option maxRecDepth 100000 in
theorem okX11_mark : okM MX11_mark 4 := ⟨sg3 183 rfl rfl, pnX11.1, iniX11, ⟨pnX11.2.1, pnX11.2.2, pd37⟩, by decide⟩
set_option maxRecDepth 100000 in
theorem okX11_costs : okM MX11_costs 2 := ⟨sg3 191 rfl rfl, pnX11.1, iniX11, ⟨pnX11.2.1, pnX11.2.2, pd36⟩, by decide⟩
set_option maxRecDepth 100000 in
theorem okX11_best : okM MX11_best 1 := ⟨sg3 195 rfl rfl, pnX11.1, iniX11, ⟨pnX11.2.1, pnX11.2.2, pd13⟩, by decide⟩
set_option maxRecDepth 100000 in
theorem okX11_bestScene : okM MX11_bestScene 2 := ⟨sg4 3 rfl rfl, pnX11.1, iniX11, ⟨pnX11.2.1, pnX11.2.2, pd36⟩, by decide⟩
set_option maxRecDepth 100000 in
theorem okX11_bound : okM MX11_bound 1 := ⟨sg4 7 rfl rfl, pnX11.1, iniX11, ⟨pnX11.2.1, pnX11.2.2, pd13⟩, by decide⟩
set_option maxRecDepth 100000 in
theorem okX11_judge : okM MX11_judge 2 := ⟨sg4 21 rfl rfl, pnX11.1, iniX11, ⟨pnX11.2.1, pnX11.2.2, pd36⟩, by decide⟩
set_option maxRecDepth 100000 in
theorem okX11_begin : okM MX11_begin 2 := ⟨sg4 41 rfl rfl, pnX11.1, iniX11, ⟨pnX11.2.1, pnX11.2.2, pd36⟩, by decide⟩
set_option maxRecDepth 100000 in
theorem okX11_retake : okM MX11_retake 2 := ⟨sg4 49 rfl rfl, pnX11.1, iniX11, ⟨pnX11.2.1, pnX11.2.2, pd36⟩, by decide⟩
set_option maxRecDepth 100000 in
theorem okX11_days : okM MX11_days 1 := ⟨sg4 53 rfl rfl, pnX11.1, iniX11, ⟨pnX11.2.1, pnX11.2.2, pd13⟩, by decide⟩
set_option maxRecDepth 100000 in
theorem okX11_who : okM MX11_who 2 := ⟨sg4 107 rfl rfl, pnX11.1, iniX11, ⟨pnX11.2.1, pnX11.2.2, pd36⟩, by decide⟩
set_option maxRecDepth 100000 in
theorem okX11_about : okM MX11_about 2 := ⟨sg4 111 rfl rfl, pnX11.1, iniX11, ⟨pnX11.2.1, pnX11.2.2, pd36⟩, by decide⟩
set_option maxRecDepth 100000 in
theorem okX11_left : okM MX11_left 2 := ⟨sg4 115 rfl rfl, pnX11.1, iniX11, ⟨pnX11.2.1, pnX11.2.2, pd36⟩, by decide⟩
set_option maxRecDepth 100000 in
theorem okX11_draft : okM MX11_draft 3 := ⟨sg4 119 rfl rfl, pnX11.1, iniX11, ⟨pnX11.2.1, pnX11.2.2, pd32⟩, by decide⟩
set_option maxRecDepth 100000 in
theorem okX11_credit : okM MX11_credit 2 := ⟨sg4 139 rfl rfl, pnX11.1, iniX11, ⟨pnX11.2.1, pnX11.2.2, pd36⟩, by decide⟩
set_option maxRecDepth 100000 in
theorem okX11_named : okM MX11_named 1 := ⟨sg4 147 rfl rfl, pnX11.1, iniX11, ⟨pnX11.2.1, pnX11.2.2, pd13⟩, by decide⟩
set_option maxRecDepth 100000 in
theorem okX11_code : okM MX11_code 2 := ⟨sg4 151 rfl rfl, pnX11.1, iniX11, ⟨pnX11.2.1, pnX11.2.2, pd36⟩, by decide⟩
set_option maxRecDepth 100000 in
theorem okX11_barred : okM MX11_barred 2 := ⟨sg4 155 rfl rfl, pnX11.1, iniX11, ⟨pnX11.2.1, pnX11.2.2, pd36⟩, by decide⟩
set_option maxRecDepth 100000 in
theorem okX11_mend : okM MX11_mend 1 := ⟨sg4 159 rfl rfl, pnX11.1, iniX11, ⟨pnX11.2.1, pnX11.2.2, pd13⟩, by decide⟩
set_option maxRecDepth 100000 in
theorem okX11_take : okM MX11_take 5 := ⟨sg4 164 rfl rfl, pnX11.1, iniX11, ⟨pnX11.2.1, pnX11.2.2, pd34⟩, by decide⟩
set_option maxRecDepth 100000 in
theorem okX11_reel : okM MX11_reel 2 := ⟨sg4 168 rfl rfl, pnX11.1, iniX11, ⟨pnX11.2.1, pnX11.2.2, pd36⟩, by decide⟩
set_option maxRecDepth 100000 in
theorem okX11_reelTake : okM MX11_reelTake 2 := ⟨sg4 188 rfl rfl, pnX11.1, iniX11, ⟨pnX11.2.1, pnX11.2.2, pd36⟩, by decide⟩
set_option maxRecDepth 100000 in
theorem okX11_land : okM MX11_land 2 := ⟨sg4 192 rfl rfl, pnX11.1, iniX11, ⟨pnX11.2.1, pnX11.2.2, pd36⟩, by decide⟩
set_option maxRecDepth 100000 in
theorem okX11_preview : okM MX11_preview 4 := ⟨sg4 196 rfl rfl, pnX11.1, iniX11, ⟨pnX11.2.1, pnX11.2.2, pd37⟩, by decide⟩
set_option maxRecDepth 100000 in
theorem okX11_putRight : okM MX11_putRight 2 := ⟨sg4 200 rfl rfl, pnX11.1, iniX11, ⟨pnX11.2.1, pnX11.2.2, pd38⟩, by decide⟩
set_option maxRecDepth 100000 in
theorem okX11_hall : okM MX11_hall 3 := ⟨sg4 208 rfl rfl, pnX11.1, iniX11, ⟨pnX11.2.1, pnX11.2.2, pd32⟩, by decide⟩
set_option maxRecDepth 100000 in
theorem okX11_clearance : okM MX11_clearance 1 := ⟨sg5 3 rfl rfl, pnX11.1, iniX11, ⟨pnX11.2.1, pnX11.2.2, pd13⟩, by decide⟩
set_option maxRecDepth 100000 in
theorem okX11_book : okM MX11_book 3 := ⟨sg5 7 rfl rfl, pnX11.1, iniX11, ⟨pnX11.2.1, pnX11.2.2, pd32⟩, by decide⟩
set_option maxRecDepth 100000 in
theorem okX11_block : okM MX11_block 3 := ⟨sg5 28 rfl rfl, pnX11.1, iniX11, ⟨pnX11.2.1, pnX11.2.2, pd32⟩, by decide⟩
set_option maxRecDepth 100000 in
theorem okX11_shown : okM MX11_shown 2 := ⟨sg5 40 rfl rfl, pnX11.1, iniX11, ⟨pnX11.2.1, pnX11.2.2, pd36⟩, by decide⟩
set_option maxRecDepth 100000 in
theorem okX11_takings : okM MX11_takings 3 := ⟨sg5 44 rfl rfl, pnX11.1, iniX11, ⟨pnX11.2.1, pnX11.2.2, pd32⟩, by decide⟩
set_option maxRecDepth 100000 in
theorem okX11_got : okM MX11_got 2 := ⟨sg5 57 rfl rfl, pnX11.1, iniX11, ⟨pnX11.2.1, pnX11.2.2, pd36⟩, by decide⟩
set_option maxRecDepth 100000 in
theorem okX11_lot : okM MX11_lot 2 := ⟨sg5 61 rfl rfl, pnX11.1, iniX11, ⟨pnX11.2.1, pnX11.2.2, pd36⟩, by decide⟩
set_option maxRecDepth 100000 in
theorem okX11_worth : okM MX11_worth 3 := ⟨sg5 65 rfl rfl, pnX11.1, iniX11, ⟨pnX11.2.1, pnX11.2.2, pd32⟩, by decide⟩
set_option maxRecDepth 100000 in
theorem okX11_plan : okM MX11_plan 1 := ⟨sg5 69 rfl rfl, pnX11.1, iniX11, ⟨pnX11.2.1, pnX11.2.2, pd13⟩, by decide⟩
set_option maxRecDepth 100000 in
theorem okX11_planned : okM MX11_planned 1 := ⟨sg5 97 rfl rfl, pnX11.1, iniX11, ⟨pnX11.2.1, pnX11.2.2, pd13⟩, by decide⟩
set_option maxRecDepth 100000 in
theorem okX11_status : okM MX11_status 1 := ⟨sg5 101 rfl rfl, pnX11.1, iniX11, ⟨pnX11.2.1, pnX11.2.2, pd13⟩, by decide⟩
set_option maxRecDepth 100000 in
theorem okX11_refused : okM MX11_refused 1 := ⟨sg2 29 rfl rfl, pnX11.1, iniX11, ⟨pnX11.2.1, pnX11.2.2, pd13⟩, by decide⟩
set_option maxRecDepth 100000 in
theorem okX11_shelfAt : okM MX11_shelfAt 1 := ⟨sg2 92 rfl rfl, pnX11.1, iniX11, ⟨pnX11.2.1, pnX11.2.2, pd39⟩, by decide⟩
set_option maxRecDepth 100000 in
theorem okX11_personAt : okM MX11_personAt 1 := ⟨sg2 163 rfl rfl, pnX11.1, iniX11, ⟨pnX11.2.1, pnX11.2.2, pd40⟩, by decide⟩
set_option maxRecDepth 100000 in
theorem okX11_pictureAt : okM MX11_pictureAt 1 := ⟨sg2 152 rfl rfl, pnX11.1, iniX11, ⟨pnX11.2.1, pnX11.2.2, pd41⟩, by decide⟩
set_option maxRecDepth 100000 in
theorem okX11_sceneAt : okM MX11_sceneAt 2 := ⟨sg3 187 rfl rfl, pnX11.1, iniX11, ⟨pnX11.2.1, pnX11.2.2, pd42⟩, by decide⟩
set_option maxRecDepth 100000 in
theorem okX11_hallAt : okM MX11_hallAt 1 := ⟨sg5 11 rfl rfl, pnX11.1, iniX11, ⟨pnX11.2.1, pnX11.2.2, pd43⟩, by decide⟩
set_option maxRecDepth 100000 in
theorem okX11_rowLack : okM MX11_rowLack 1 := ⟨sg2 104 rfl rfl, pnX11.1, iniX11, ⟨pnX11.2.1, pnX11.2.2, pd13⟩, by decide⟩
set_option maxRecDepth 100000 in
theorem okX11_orderLack : okM MX11_orderLack 2 := ⟨sg4 25 rfl rfl, pnX11.1, iniX11, ⟨pnX11.2.1, pnX11.2.2, pd36⟩, by decide⟩
set_option maxRecDepth 100000 in
theorem okX11_hasBitBeyond : okM MX11_hasBitBeyond 2 := ⟨sg3 123 rfl rfl, pnX11.1, iniX11, ⟨pnX11.2.1, pnX11.2.2, pd7⟩, by decide⟩
set_option maxRecDepth 100000 in
theorem okX11_isHallWeek : okM MX11_isHallWeek 1 := ⟨sg5 14 rfl rfl, pnX11.1, iniX11, ⟨pnX11.2.1, pnX11.2.2, pd20⟩, by decide⟩
set_option maxRecDepth 100000 in
theorem okX11_isKind : okM MX11_isKind 1 := ⟨sg2 146 rfl rfl, pnX11.1, iniX11, ⟨pnX11.2.1, pnX11.2.2, pd20⟩, by decide⟩
set_option maxRecDepth 100000 in
theorem okX11_isUnderKind : okM MX11_isUnderKind 2 := ⟨sg2 155 rfl rfl, pnX11.1, iniX11, ⟨pnX11.2.1, pnX11.2.2, pd7⟩, by decide⟩
set_option maxRecDepth 100000 in
theorem okX11_commonDivisor : okM MX11_commonDivisor 2 := ⟨sg4 204 rfl rfl, pnX11.1, iniX11, ⟨pnX11.2.1, pnX11.2.2, pd44⟩, by decide⟩
set_option maxRecDepth 100000 in
theorem okX11_liveDay : okM MX11_liveDay 0 := ⟨sg4 57 rfl rfl, pnX11.1, iniX11, ⟨pnX11.2.1, pnX11.2.2, pd0⟩, by decide⟩
set_option maxRecDepth 100000 in
theorem okX11_readyPeople : okM MX11_readyPeople 0 := ⟨sg4 61 rfl rfl, pnX11.1, iniX11, ⟨pnX11.2.1, pnX11.2.2, pd8⟩, by decide⟩
set_option maxRecDepth 100000 in
theorem okX11_shoot : okM MX11_shoot 2 := ⟨sg4 78 rfl rfl, pnX11.1, iniX11, ⟨pnX11.2.1, pnX11.2.2, pd16⟩, by decide⟩
set_option maxRecDepth 100000 in
theorem okX11_lengthenSuspended : okM MX11_lengthenSuspended 0 := ⟨sg4 86 rfl rfl, pnX11.1, iniX11, ⟨pnX11.2.1, pnX11.2.2, pd0⟩, by decide⟩
set_option maxRecDepth 100000 in
theorem okX11_payWeek : okM MX11_payWeek 0 := ⟨sg4 90 rfl rfl, pnX11.1, iniX11, ⟨pnX11.2.1, pnX11.2.2, pd0⟩, by decide⟩
set_option maxRecDepth 100000 in
theorem okX11_mayBook : okM MX11_mayBook 3 := ⟨sg5 18 rfl rfl, pnX11.1, iniX11, ⟨pnX11.2.1, pnX11.2.2, pd45⟩, by decide⟩
set_option maxRecDepth 100000 in
theorem okX11_earliestWeek : okM MX11_earliestWeek 3 := ⟨sg5 32 rfl rfl, pnX11.1, iniX11, ⟨pnX11.2.1, pnX11.2.2, pd46⟩, by decide⟩
set_option maxRecDepth 100000 in
theorem okX11_payParts : okM MX11_payParts 2 := ⟨sg5 48 rfl rfl, pnX11.1, iniX11, ⟨pnX11.2.1, pnX11.2.2, pd16⟩, by decide⟩
set_option maxRecDepth 100000 in
theorem okX11_peopleWho : okM MX11_peopleWho 1 := ⟨sg5 105 rfl rfl, pnX11.1, iniX11, ⟨pnX11.2.1, pnX11.2.2, pd13⟩, by decide⟩
set_option maxRecDepth 100000 in
theorem okX11_showings : okM MX11_showings 0 := ⟨sg5 109 rfl rfl, pnX11.1, iniX11, ⟨pnX11.2.1, pnX11.2.2, pd8⟩, by decide⟩
set_option maxRecDepth 100000 in
theorem okX12_init : okM MX12_init 0 := ⟨sg5 114 rfl rfl, pnX12.1, iniX12, ⟨pnX12.2.1, pnX12.2.2, pd0⟩, by decide⟩
set_option maxRecDepth 100000 in
theorem okX12_no : okM MX12_no 1 := ⟨sg6 151 rfl rfl, pnX12.1, iniX12, ⟨pnX12.2.1, pnX12.2.2, pd13⟩, by decide⟩
set_option maxRecDepth 100000 in
theorem okX12_isOne : okM MX12_isOne 1 := ⟨sg6 194 rfl rfl, pnX12.1, iniX12, ⟨pnX12.2.1, pnX12.2.2, pd20⟩, by decide⟩
set_option maxRecDepth 100000 in
theorem okX12_isPicture : okM MX12_isPicture 1 := ⟨sg6 171 rfl rfl, pnX12.1, iniX12, ⟨pnX12.2.1, pnX12.2.2, pd20⟩, by decide⟩
set_option maxRecDepth 100000 in
theorem okX12_isScene : okM MX12_isScene 2 := ⟨sg7 33 rfl rfl, pnX12.1, iniX12, ⟨pnX12.2.1, pnX12.2.2, pd7⟩, by decide⟩
set_option maxRecDepth 100000 in
theorem okX12_isHall : okM MX12_isHall 1 := ⟨sg7 193 rfl rfl, pnX12.1, iniX12, ⟨pnX12.2.1, pnX12.2.2, pd20⟩, by decide⟩
set_option maxRecDepth 100000 in
theorem okX12_isShelf : okM MX12_isShelf 1 := ⟨sg6 147 rfl rfl, pnX12.1, iniX12, ⟨pnX12.2.1, pnX12.2.2, pd20⟩, by decide⟩
set_option maxRecDepth 100000 in
theorem okX12_row : okM MX12_row 3 := ⟨sg6 144 rfl rfl, pnX12.1, iniX12, ⟨pnX12.2.1, pnX12.2.2, pd32⟩, by decide⟩
set_option maxRecDepth 100000 in
theorem okX12_set : okM MX12_set 3 := ⟨sg6 155 rfl rfl, pnX12.1, iniX12, ⟨pnX12.2.1, pnX12.2.2, pd33⟩, by decide⟩
set_option maxRecDepth 100000 in
theorem okX12_copy : okM MX12_copy 5 := ⟨sg6 159 rfl rfl, pnX12.1, iniX12, ⟨pnX12.2.1, pnX12.2.2, pd34⟩, by decide⟩
set_option maxRecDepth 100000 in
theorem okX12_element : okM MX12_element 2 := ⟨sg6 163 rfl rfl, pnX12.1, iniX12, ⟨pnX12.2.1, pnX12.2.2, pd35⟩, by decide⟩
set_option maxRecDepth 100000 in
theorem okX12_show : okM MX12_show 2 := ⟨sg6 167 rfl rfl, pnX12.1, iniX12, ⟨pnX12.2.1, pnX12.2.2, pd36⟩, by decide⟩
set_option maxRecDepth 100000 in
theorem okX12_holds : okM MX12_holds 1 := ⟨sg6 175 rfl rfl, pnX12.1, iniX12, ⟨pnX12.2.1, pnX12.2.2, pd13⟩, by decide⟩
set_option maxRecDepth 100000 in
theorem okX12_isUnder : okM MX12_isUnder 2 := ⟨sg6 182 rfl rfl, pnX12.1, iniX12, ⟨pnX12.2.1, pnX12.2.2, pd7⟩, by decide⟩
set_option maxRecDepth 100000 in
theorem okX12_kindIn : okM MX12_kindIn 2 := ⟨sg6 179 rfl rfl, pnX12.1, iniX12, ⟨pnX12.2.1, pnX12.2.2, pd36⟩, by decide⟩
set_option maxRecDepth 100000 in
theorem okX12_wants : okM MX12_wants 1 := ⟨sg6 198 rfl rfl, pnX12.1, iniX12, ⟨pnX12.2.1, pnX12.2.2, pd13⟩, by decide⟩
set_option maxRecDepth 100000 in
theorem okX12_person : okM MX12_person 1 := ⟨sg6 186 rfl rfl, pnX12.1, iniX12, ⟨pnX12.2.1, pnX12.2.2, pd13⟩, by decide⟩
set_option maxRecDepth 100000 in
theorem okX12_slot : okM MX12_slot 1 := ⟨sg6 205 rfl rfl, pnX12.1, iniX12, ⟨pnX12.2.1, pnX12.2.2, pd13⟩, by decide⟩
set_option maxRecDepth 100000 in
theorem okX12_top : okM MX12_top 1 := ⟨sg6 208 rfl rfl, pnX12.1, iniX12, ⟨pnX12.2.1, pnX12.2.2, pd13⟩, by decide⟩
set_option maxRecDepth 100000 in
theorem okX12_reads : okM MX12_reads 1 := ⟨sg6 202 rfl rfl, pnX12.1, iniX12, ⟨pnX12.2.1, pnX12.2.2, pd13⟩, by decide⟩
set_option maxRecDepth 100000 in
theorem okX12_isUnderOn : okM MX12_isUnderOn 2 := ⟨sg6 212 rfl rfl, pnX12.1, iniX12, ⟨pnX12.2.1, pnX12.2.2, pd7⟩, by decide⟩
set_option maxRecDepth 100000 in
theorem okX12_term : okM MX12_term 2 := ⟨sg6 190 rfl rfl, pnX12.1, iniX12, ⟨pnX12.2.1, pnX12.2.2, pd36⟩, by decide⟩
set_option maxRecDepth 100000 in
theorem okX12_fault : okM MX12_fault 0 := ⟨sg6 216 rfl rfl, pnX12.1, iniX12, ⟨pnX12.2.1, pnX12.2.2, pd8⟩, by decide⟩
set_option maxRecDepth 100000 in
theorem okX12_law : okM MX12_law 2 := ⟨sg6 220 rfl rfl, pnX12.1, iniX12, ⟨pnX12.2.1, pnX12.2.2, pd36⟩, by decide⟩
set_option maxRecDepth 100000 in
theorem okX12_countsOn : okM MX12_countsOn 3 := ⟨sg6 228 rfl rfl, pnX12.1, iniX12, ⟨pnX12.2.1, pnX12.2.2, pd32⟩, by decide⟩
set_option maxRecDepth 100000 in
theorem okX12_counts : okM MX12_counts 3 := ⟨sg6 224 rfl rfl, pnX12.1, iniX12, ⟨pnX12.2.1, pnX12.2.2, pd32⟩, by decide⟩
set_option maxRecDepth 100000 in
theorem okX12_ill : okM MX12_ill 2 := ⟨sg6 232 rfl rfl, pnX12.1, iniX12, ⟨pnX12.2.1, pnX12.2.2, pd36⟩, by decide⟩
set_option maxRecDepth 100000 in
theorem okX12_isLent : okM MX12_isLent 2 := ⟨sg7 4 rfl rfl, pnX12.1, iniX12, ⟨pnX12.2.1, pnX12.2.2, pd7⟩, by decide⟩
set_option maxRecDepth 100000 in
theorem okX12_isReady : okM MX12_isReady 2 := ⟨sg7 109 rfl rfl, pnX12.1, iniX12, ⟨pnX12.2.1, pnX12.2.2, pd7⟩, by decide⟩
set_option maxRecDepth 100000 in
theorem okX12_termYear : okM MX12_termYear 1 := ⟨sg7 8 rfl rfl, pnX12.1, iniX12, ⟨pnX12.2.1, pnX12.2.2, pd13⟩, by decide⟩
set_option maxRecDepth 100000 in
theorem okX12_mayAct : okM MX12_mayAct 1 := ⟨sg7 0 rfl rfl, pnX12.1, iniX12, ⟨pnX12.2.1, pnX12.2.2, pd20⟩, by decide⟩
set_option maxRecDepth 100000 in
theorem okX12_refuse : okM MX12_refuse 1 := ⟨sg6 236 rfl rfl, pnX12.1, iniX12, ⟨pnX12.2.1, pnX12.2.2, pd13⟩, by decide⟩
set_option maxRecDepth 100000 in
theorem okX12_recall : okM MX12_recall 1 := ⟨sg7 12 rfl rfl, pnX12.1, iniX12, ⟨pnX12.2.1, pnX12.2.2, pd13⟩, by decide⟩
set_option maxRecDepth 100000 in
theorem okX12_lend : okM MX12_lend 3 := ⟨sg7 16 rfl rfl, pnX12.1, iniX12, ⟨pnX12.2.1, pnX12.2.2, pd32⟩, by decide⟩
set_option maxRecDepth 100000 in
theorem okX12_picture : okM MX12_picture 1 := ⟨sg7 21 rfl rfl, pnX12.1, iniX12, ⟨pnX12.2.1, pnX12.2.2, pd13⟩, by decide⟩
set_option maxRecDepth 100000 in
theorem okX12_scene : okM MX12_scene 4 := ⟨sg7 25 rfl rfl, pnX12.1, iniX12, ⟨pnX12.2.1, pnX12.2.2, pd37⟩, by decide⟩
set_option maxRecDepth 100000 in
theorem okX12_mark : okM MX12_mark 4 := ⟨sg7 29 rfl rfl, pnX12.1, iniX12, ⟨pnX12.2.1, pnX12.2.2, pd37⟩, by decide⟩
set_option maxRecDepth 100000 in
theorem okX12_costs : okM MX12_costs 2 := ⟨sg7 37 rfl rfl, pnX12.1, iniX12, ⟨pnX12.2.1, pnX12.2.2, pd36⟩, by decide⟩
set_option maxRecDepth 100000 in
theorem okX12_dayPay : okM MX12_dayPay 1 := ⟨sg7 57 rfl rfl, pnX12.1, iniX12, ⟨pnX12.2.1, pnX12.2.2, pd13⟩, by decide⟩
set_option maxRecDepth 100000 in
theorem okX12_inSome : okM MX12_inSome 2 := ⟨sg7 53 rfl rfl, pnX12.1, iniX12, ⟨pnX12.2.1, pnX12.2.2, pd36⟩, by decide⟩
set_option maxRecDepth 100000 in
theorem okX12_step : okM MX12_step 5 := ⟨sg7 49 rfl rfl, pnX12.1, iniX12, ⟨pnX12.2.1, pnX12.2.2, pd34⟩, by decide⟩
set_option maxRecDepth 100000 in
theorem okX12_costOf : okM MX12_costOf 1 := ⟨sg7 77 rfl rfl, pnX12.1, iniX12, ⟨pnX12.2.1, pnX12.2.2, pd13⟩, by decide⟩
set_option maxRecDepth 100000 in
theorem okX12_seeks : okM MX12_seeks 1 := ⟨sg7 45 rfl rfl, pnX12.1, iniX12, ⟨pnX12.2.1, pnX12.2.2, pd13⟩, by decide⟩
set_option maxRecDepth 100000 in
theorem okX12_best : okM MX12_best 1 := ⟨sg7 41 rfl rfl, pnX12.1, iniX12, ⟨pnX12.2.1, pnX12.2.2, pd13⟩, by decide⟩
set_option maxRecDepth 100000 in
theorem okX12_bestScene : okM MX12_bestScene 2 := ⟨sg7 61 rfl rfl, pnX12.1, iniX12, ⟨pnX12.2.1, pnX12.2.2, pd36⟩, by decide⟩
set_option maxRecDepth 100000 in
theorem okX12_bound : okM MX12_bound 1 := ⟨sg7 65 rfl rfl, pnX12.1, iniX12, ⟨pnX12.2.1, pnX12.2.2, pd13⟩, by decide⟩
set_option maxRecDepth 100000 in
theorem okX12_isOrder : okM MX12_isOrder 2 := ⟨sg7 73 rfl rfl, pnX12.1, iniX12, ⟨pnX12.2.1, pnX12.2.2, pd7⟩, by decide⟩
set_option maxRecDepth 100000 in
theorem okX12_judge : okM MX12_judge 2 := ⟨sg7 69 rfl rfl, pnX12.1, iniX12, ⟨pnX12.2.1, pnX12.2.2, pd36⟩, by decide⟩
set_option maxRecDepth 100000 in
theorem okX12_begin : okM MX12_begin 2 := ⟨sg7 81 rfl rfl, pnX12.1, iniX12, ⟨pnX12.2.1, pnX12.2.2, pd36⟩, by decide⟩
set_option maxRecDepth 100000 in
theorem okX12_retake : okM MX12_retake 2 := ⟨sg7 85 rfl rfl, pnX12.1, iniX12, ⟨pnX12.2.1, pnX12.2.2, pd36⟩, by decide⟩
set_option maxRecDepth 100000 in
theorem okX12_canShoot : okM MX12_canShoot 1 := ⟨sg7 105 rfl rfl, pnX12.1, iniX12, ⟨pnX12.2.1, pnX12.2.2, pd20⟩, by decide⟩
set_option maxRecDepth 100000 in
theorem okX12_leftOf : okM MX12_leftOf 1 := ⟨sg7 97 rfl rfl, pnX12.1, iniX12, ⟨pnX12.2.1, pnX12.2.2, pd13⟩, by decide⟩
set_option maxRecDepth 100000 in
theorem okX12_shoots : okM MX12_shoots 1 := ⟨sg7 101 rfl rfl, pnX12.1, iniX12, ⟨pnX12.2.1, pnX12.2.2, pd17⟩, by decide⟩
set_option maxRecDepth 100000 in
theorem okX12_lives : okM MX12_lives 0 := ⟨sg7 93 rfl rfl, pnX12.1, iniX12, ⟨pnX12.2.1, pnX12.2.2, pd0⟩, by decide⟩
set_option maxRecDepth 100000 in
theorem okX12_days : okM MX12_days 1 := ⟨sg7 89 rfl rfl, pnX12.1, iniX12, ⟨pnX12.2.1, pnX12.2.2, pd13⟩, by decide⟩
set_option maxRecDepth 100000 in
theorem okX12_who : okM MX12_who 2 := ⟨sg7 113 rfl rfl, pnX12.1, iniX12, ⟨pnX12.2.1, pnX12.2.2, pd36⟩, by decide⟩
set_option maxRecDepth 100000 in
theorem okX12_about : okM MX12_about 2 := ⟨sg7 117 rfl rfl, pnX12.1, iniX12, ⟨pnX12.2.1, pnX12.2.2, pd36⟩, by decide⟩
set_option maxRecDepth 100000 in
theorem okX12_left : okM MX12_left 2 := ⟨sg7 121 rfl rfl, pnX12.1, iniX12, ⟨pnX12.2.1, pnX12.2.2, pd36⟩, by decide⟩
set_option maxRecDepth 100000 in
theorem okX12_draft : okM MX12_draft 3 := ⟨sg7 125 rfl rfl, pnX12.1, iniX12, ⟨pnX12.2.1, pnX12.2.2, pd32⟩, by decide⟩
set_option maxRecDepth 100000 in
theorem okX12_creditOf : okM MX12_creditOf 2 := ⟨sg7 133 rfl rfl, pnX12.1, iniX12, ⟨pnX12.2.1, pnX12.2.2, pd36⟩, by decide⟩
set_option maxRecDepth 100000 in
theorem okX12_credit : okM MX12_credit 2 := ⟨sg7 129 rfl rfl, pnX12.1, iniX12, ⟨pnX12.2.1, pnX12.2.2, pd36⟩, by decide⟩
set_option maxRecDepth 100000 in
theorem okX12_named : okM MX12_named 1 := ⟨sg7 137 rfl rfl, pnX12.1, iniX12, ⟨pnX12.2.1, pnX12.2.2, pd13⟩, by decide⟩
set_option maxRecDepth 100000 in
theorem okX12_code : okM MX12_code 2 := ⟨sg7 141 rfl rfl, pnX12.1, iniX12, ⟨pnX12.2.1, pnX12.2.2, pd36⟩, by decide⟩
set_option maxRecDepth 100000 in
theorem okX12_barred : okM MX12_barred 2 := ⟨sg7 145 rfl rfl, pnX12.1, iniX12, ⟨pnX12.2.1, pnX12.2.2, pd36⟩, by decide⟩
set_option maxRecDepth 100000 in
theorem okX12_mend : okM MX12_mend 1 := ⟨sg7 149 rfl rfl, pnX12.1, iniX12, ⟨pnX12.2.1, pnX12.2.2, pd13⟩, by decide⟩
set_option maxRecDepth 100000 in
theorem okX12_take : okM MX12_take 5 := ⟨sg7 153 rfl rfl, pnX12.1, iniX12, ⟨pnX12.2.1, pnX12.2.2, pd34⟩, by decide⟩
set_option maxRecDepth 100000 in
theorem okX12_reel : okM MX12_reel 2 := ⟨sg7 157 rfl rfl, pnX12.1, iniX12, ⟨pnX12.2.1, pnX12.2.2, pd36⟩, by decide⟩
set_option maxRecDepth 100000 in
theorem okX12_reelTake : okM MX12_reelTake 2 := ⟨sg7 161 rfl rfl, pnX12.1, iniX12, ⟨pnX12.2.1, pnX12.2.2, pd36⟩, by decide⟩
set_option maxRecDepth 100000 in
theorem okX12_land : okM MX12_land 2 := ⟨sg7 165 rfl rfl, pnX12.1, iniX12, ⟨pnX12.2.1, pnX12.2.2, pd36⟩, by decide⟩
set_option maxRecDepth 100000 in
theorem okX12_preview : okM MX12_preview 4 := ⟨sg7 169 rfl rfl, pnX12.1, iniX12, ⟨pnX12.2.1, pnX12.2.2, pd37⟩, by decide⟩
set_option maxRecDepth 100000 in
theorem okX12_common : okM MX12_common 2 := ⟨sg7 177 rfl rfl, pnX12.1, iniX12, ⟨pnX12.2.1, pnX12.2.2, pd44⟩, by decide⟩
set_option maxRecDepth 100000 in
theorem okX12_putRight : okM MX12_putRight 2 := ⟨sg7 173 rfl rfl, pnX12.1, iniX12, ⟨pnX12.2.1, pnX12.2.2, pd38⟩, by decide⟩
set_option maxRecDepth 100000 in
theorem okX12_hall : okM MX12_hall 3 := ⟨sg7 181 rfl rfl, pnX12.1, iniX12, ⟨pnX12.2.1, pnX12.2.2, pd32⟩, by decide⟩
set_option maxRecDepth 100000 in
theorem okX12_clearance : okM MX12_clearance 1 := ⟨sg7 185 rfl rfl, pnX12.1, iniX12, ⟨pnX12.2.1, pnX12.2.2, pd13⟩, by decide⟩
set_option maxRecDepth 100000 in
theorem okX12_mayBook : okM MX12_mayBook 3 := ⟨sg7 197 rfl rfl, pnX12.1, iniX12, ⟨pnX12.2.1, pnX12.2.2, pd4⟩, by decide⟩
set_option maxRecDepth 100000 in
theorem okX12_book : okM MX12_book 3 := ⟨sg7 189 rfl rfl, pnX12.1, iniX12, ⟨pnX12.2.1, pnX12.2.2, pd32⟩, by decide⟩
set_option maxRecDepth 100000 in
theorem okX12_block : okM MX12_block 3 := ⟨sg7 201 rfl rfl, pnX12.1, iniX12, ⟨pnX12.2.1, pnX12.2.2, pd32⟩, by decide⟩
set_option maxRecDepth 100000 in
theorem okX12_shown : okM MX12_shown 2 := ⟨sg7 205 rfl rfl, pnX12.1, iniX12, ⟨pnX12.2.1, pnX12.2.2, pd36⟩, by decide⟩
set_option maxRecDepth 100000 in
theorem okX12_takings : okM MX12_takings 3 := ⟨sg7 209 rfl rfl, pnX12.1, iniX12, ⟨pnX12.2.1, pnX12.2.2, pd32⟩, by decide⟩
set_option maxRecDepth 100000 in
theorem okX12_got : okM MX12_got 2 := ⟨sg7 213 rfl rfl, pnX12.1, iniX12, ⟨pnX12.2.1, pnX12.2.2, pd36⟩, by decide⟩
set_option maxRecDepth 100000 in
theorem okX12_lot : okM MX12_lot 2 := ⟨sg7 217 rfl rfl, pnX12.1, iniX12, ⟨pnX12.2.1, pnX12.2.2, pd36⟩, by decide⟩
set_option maxRecDepth 100000 in
theorem okX12_worth : okM MX12_worth 3 := ⟨sg7 221 rfl rfl, pnX12.1, iniX12, ⟨pnX12.2.1, pnX12.2.2, pd32⟩, by decide⟩
set_option maxRecDepth 100000 in
theorem okX12_isIn : okM MX12_isIn 3 := ⟨sg7 233 rfl rfl, pnX12.1, iniX12, ⟨pnX12.2.1, pnX12.2.2, pd4⟩, by decide⟩
set_option maxRecDepth 100000 in
theorem okX12_mayBegin : okM MX12_mayBegin 3 := ⟨sg7 229 rfl rfl, pnX12.1, iniX12, ⟨pnX12.2.1, pnX12.2.2, pd4⟩, by decide⟩
set_option maxRecDepth 100000 in
theorem okX12_plan : okM MX12_plan 1 := ⟨sg7 225 rfl rfl, pnX12.1, iniX12, ⟨pnX12.2.1, pnX12.2.2, pd13⟩, by decide⟩
set_option maxRecDepth 100000 in
theorem okX12_planned : okM MX12_planned 1 := ⟨sg7 237 rfl rfl, pnX12.1, iniX12, ⟨pnX12.2.1, pnX12.2.2, pd13⟩, by decide⟩
set_option maxRecDepth 100000 in
theorem okX12_status : okM MX12_status 1 := ⟨sg8 1 rfl rfl, pnX12.1, iniX12, ⟨pnX12.2.1, pnX12.2.2, pd13⟩, by decide⟩
set_option maxRecDepth 100000 in
theorem okJ6_numberOfTrailingZeros_0f7a4 : okM MJ6_numberOfTrailingZeros_0f7a4 1 := ⟨sg3 202 rfl rfl, pnJ6.1, iniJ6, ⟨pnJ6.2.1, pnJ6.2.2, pd13⟩, by decide⟩
set_option maxRecDepth 100000 in
theorem okJ6_bitCount_0f7a4 : okM MJ6_bitCount_0f7a4 1 := ⟨sg4 14 rfl rfl, pnJ6.1, iniJ6, ⟨pnJ6.2.1, pnJ6.2.2, pd13⟩, by decide⟩
def lkV (own : String) (idx : Nat) (y : MethodName) : Prop := Cond.methodLink own idx y ∈ lw_g ∧ Cond.instanceMethod y ∈ lw_g ∧ Cond.selects y.cls y y ∈ lw_g
def lkS (own : String) (idx : Nat) (y : MethodName) : Prop := Cond.methodLink own idx y ∈ lw_g ∧ Cond.static y ∈ lw_g
def lkI (own : String) (idx : Nat) (y : MethodName) : Prop := Cond.methodLink own idx y ∈ lw_g ∧ Cond.instanceMethod y ∈ lw_g
set_option maxRecDepth 100000 in
theorem lkX11_105 : lkV RX11 105 yX11_refused := ⟨sg2 26 rfl rfl, sg2 28 rfl rfl, sgP 0 rfl rfl⟩
set_option maxRecDepth 100000 in
theorem lkX11_109 : lkI RX11 109 yX4_init := ⟨sg2 31 rfl rfl, sg2 32 rfl rfl⟩
set_option maxRecDepth 100000 in
theorem lkX11_115 : lkV RX11 115 yX11_shelfAt := ⟨sg2 89 rfl rfl, sg2 91 rfl rfl, sgP 1 rfl rfl⟩
set_option maxRecDepth 100000 in
theorem lkX11_119 : lkV RX11 119 yX9_becomeRow := ⟨sg2 93 rfl rfl, sg2 94 rfl rfl, sg2 95 rfl rfl⟩
set_option maxRecDepth 100000 in
theorem lkX11_123 : lkV RX11 123 yX11_rowLack := ⟨sg2 101 rfl rfl, sg2 103 rfl rfl, sgP 2 rfl rfl⟩
set_option maxRecDepth 100000 in
theorem lkX11_133 : lkV RX11 133 yX9_lowestBits := ⟨sg2 109 rfl rfl, sg2 110 rfl rfl, sg2 111 rfl rfl⟩
set_option maxRecDepth 100000 in
theorem lkX11_137 : lkV RX11 137 yX9_lackOfRow := ⟨sg2 105 rfl rfl, sg2 106 rfl rfl, sg2 107 rfl rfl⟩
set_option maxRecDepth 100000 in
theorem lkX11_144 : lkV RX11 144 yX9_hasSpan := ⟨sg2 117 rfl rfl, sg2 118 rfl rfl, sg2 119 rfl rfl⟩
set_option maxRecDepth 100000 in
theorem lkX11_154 : lkV RX11 154 yX9_becomePicture := ⟨sg2 132 rfl rfl, sg2 133 rfl rfl, sg2 134 rfl rfl⟩
set_option maxRecDepth 100000 in
theorem lkX11_160 : lkS RX11 160 yX11_isKind := ⟨sg2 144 rfl rfl, sg2 145 rfl rfl⟩
set_option maxRecDepth 100000 in
theorem lkX11_164 : lkV RX11 164 yX11_pictureAt := ⟨sg2 149 rfl rfl, sg2 151 rfl rfl, sgP 3 rfl rfl⟩
set_option maxRecDepth 100000 in
theorem lkX11_171 : lkS RX11 171 yX11_isUnderKind := ⟨sg2 153 rfl rfl, sg2 154 rfl rfl⟩
set_option maxRecDepth 100000 in
theorem lkX11_174 : lkV RX11 174 yX11_personAt := ⟨sg2 160 rfl rfl, sg2 162 rfl rfl, sgP 4 rfl rfl⟩
set_option maxRecDepth 100000 in
theorem lkX11_178 : lkV RX11 178 yX10_read := ⟨sg2 164 rfl rfl, sg2 165 rfl rfl, sg2 166 rfl rfl⟩
set_option maxRecDepth 100000 in
theorem lkX11_185 : lkV RX11 185 yX4_isUnder := ⟨sg2 190 rfl rfl, sg2 191 rfl rfl, sg2 192 rfl rfl⟩
set_option maxRecDepth 100000 in
theorem lkX11_191 : lkV RX11 191 yX4_beginTerm := ⟨sg2 194 rfl rfl, sg2 195 rfl rfl, sg2 196 rfl rfl⟩
set_option maxRecDepth 100000 in
theorem lkX11_201 : lkV RX11 201 yX2_strike := ⟨sg2 208 rfl rfl, sg2 209 rfl rfl, sg2 210 rfl rfl⟩
set_option maxRecDepth 100000 in
theorem lkX11_204 : lkV RX11 204 yX4_countOf := ⟨sg2 216 rfl rfl, sg2 217 rfl rfl, sg2 218 rfl rfl⟩
set_option maxRecDepth 100000 in
theorem lkX11_208 : lkV RX11 208 yX4_takeIllness := ⟨sg2 228 rfl rfl, sg2 229 rfl rfl, sg2 230 rfl rfl⟩
set_option maxRecDepth 100000 in
theorem lkX11_214 : lkV RX11 214 yX4_isAtWork := ⟨sg2 237 rfl rfl, sg2 238 rfl rfl, sg2 239 rfl rfl⟩
set_option maxRecDepth 100000 in
theorem lkX11_217 : lkV RX11 217 yX4_refusalsOn := ⟨sg3 2 rfl rfl, sg3 3 rfl rfl, sg3 4 rfl rfl⟩
set_option maxRecDepth 100000 in
theorem lkX11_220 : lkV RX11 220 yX4_addRefusal := ⟨sg3 10 rfl rfl, sg3 11 rfl rfl, sg3 12 rfl rfl⟩
set_option maxRecDepth 100000 in
theorem lkX11_231 : lkI RX11 231 yX5_init := ⟨sg3 29 rfl rfl, sg3 30 rfl rfl⟩
set_option maxRecDepth 100000 in
theorem lkX11_232 : lkS RX11 232 yX11_hasBitBeyond := ⟨sg3 121 rfl rfl, sg3 122 rfl rfl⟩
set_option maxRecDepth 100000 in
theorem lkX11_241 : lkV RX11 241 yX3_forget := ⟨sg3 124 rfl rfl, sg3 125 rfl rfl, sg3 126 rfl rfl⟩
set_option maxRecDepth 100000 in
theorem lkX11_250 : lkI RX11 250 yX8_init := ⟨sg3 130 rfl rfl, sg3 131 rfl rfl⟩
set_option maxRecDepth 100000 in
theorem lkX11_253 : lkV RX11 253 yX11_sceneAt := ⟨sg3 184 rfl rfl, sg3 186 rfl rfl, sgP 10 rfl rfl⟩
set_option maxRecDepth 100000 in
theorem lkX11_266 : lkV RX11 266 yX3_findBest := ⟨sg3 196 rfl rfl, sg3 197 rfl rfl, sg3 198 rfl rfl⟩
set_option maxRecDepth 100000 in
theorem lkX11_270 : lkV RX11 270 yX3_bestCost := ⟨sg3 236 rfl rfl, sg3 237 rfl rfl, sg3 238 rfl rfl⟩
set_option maxRecDepth 100000 in
theorem lkX11_276 : lkV RX11 276 yX3_boundOf := ⟨sg4 8 rfl rfl, sg4 9 rfl rfl, sg4 10 rfl rfl⟩
set_option maxRecDepth 100000 in
theorem lkX11_280 : lkV RX11 280 yX11_orderLack := ⟨sg4 22 rfl rfl, sg4 24 rfl rfl, sgP 18 rfl rfl⟩
set_option maxRecDepth 100000 in
theorem lkX11_284 : lkV RX11 284 yX3_costOf := ⟨sg4 30 rfl rfl, sg4 31 rfl rfl, sg4 32 rfl rfl⟩
set_option maxRecDepth 100000 in
theorem lkX11_290 : lkV RX11 290 yX5_beginShooting := ⟨sg4 42 rfl rfl, sg4 43 rfl rfl, sg4 44 rfl rfl⟩
set_option maxRecDepth 100000 in
theorem lkX11_297 : lkV RX11 297 yX11_liveDay := ⟨sg4 54 rfl rfl, sg4 56 rfl rfl, sgP 20 rfl rfl⟩
set_option maxRecDepth 100000 in
theorem lkX11_306 : lkV RX11 306 yX4_isReady := ⟨sg4 62 rfl rfl, sg4 63 rfl rfl, sg4 64 rfl rfl⟩
set_option maxRecDepth 100000 in
theorem lkX11_309 : lkV RX11 309 yX5_leftOfAll := ⟨sg4 71 rfl rfl, sg4 72 rfl rfl, sg4 73 rfl rfl⟩
set_option maxRecDepth 100000 in
theorem lkX11_327 : lkV RX11 327 yX0_add := ⟨sg4 120 rfl rfl, sg4 121 rfl rfl, sg4 122 rfl rfl⟩
set_option maxRecDepth 100000 in
theorem lkX11_331 : lkV RX11 331 yX5_linesOf := ⟨sg4 140 rfl rfl, sg4 141 rfl rfl, sg4 142 rfl rfl⟩
set_option maxRecDepth 100000 in
theorem lkX11_337 : lkS RX11 337 yJ9_max_7cf53 := ⟨sg4 160 rfl rfl, sg4 129 rfl rfl⟩
set_option maxRecDepth 100000 in
theorem lkX11_354 : lkV RX11 354 yX7_findBest := ⟨sg4 169 rfl rfl, sg4 170 rfl rfl, sg4 171 rfl rfl⟩
set_option maxRecDepth 100000 in
theorem lkX11_368 : lkS RX11 368 yX11_commonDivisor := ⟨sg4 202 rfl rfl, sg4 203 rfl rfl⟩
set_option maxRecDepth 100000 in
theorem lkX11_372 : lkI RX11 372 yX1_init := ⟨sg4 210 rfl rfl, sg4 211 rfl rfl⟩
set_option maxRecDepth 100000 in
theorem lkX11_373 : lkV RX11 373 yX11_hallAt := ⟨sg5 8 rfl rfl, sg5 10 rfl rfl, sgP 29 rfl rfl⟩
set_option maxRecDepth 100000 in
theorem lkX11_377 : lkS RX11 377 yX11_isHallWeek := ⟨sg5 12 rfl rfl, sg5 13 rfl rfl⟩
set_option maxRecDepth 100000 in
theorem lkX11_380 : lkV RX11 380 yX11_mayBook := ⟨sg5 15 rfl rfl, sg5 17 rfl rfl, sgP 30 rfl rfl⟩
set_option maxRecDepth 100000 in
theorem lkX11_387 : lkV RX11 387 yX11_earliestWeek := ⟨sg5 29 rfl rfl, sg5 31 rfl rfl, sgP 31 rfl rfl⟩
set_option maxRecDepth 100000 in
theorem lkX11_391 : lkV RX11 391 yX1_giveBack := ⟨sg5 33 rfl rfl, sg5 34 rfl rfl, sg5 35 rfl rfl⟩
set_option maxRecDepth 100000 in
theorem lkX11_401 : lkV RX11 401 yX11_payParts := ⟨sg5 45 rfl rfl, sg5 47 rfl rfl, sgP 32 rfl rfl⟩
set_option maxRecDepth 100000 in
theorem lkX11_414 : lkV RX11 414 yX6_findBest := ⟨sg5 70 rfl rfl, sg5 71 rfl rfl, sg5 72 rfl rfl⟩
set_option maxRecDepth 100000 in
theorem lkX11_421 : lkV RX11 421 yX11_peopleWho := ⟨sg5 102 rfl rfl, sg5 104 rfl rfl, sgP 36 rfl rfl⟩
set_option maxRecDepth 100000 in
theorem lkX11_424 : lkV RX11 424 yX11_showings := ⟨sg5 106 rfl rfl, sg5 108 rfl rfl, sgP 37 rfl rfl⟩
set_option maxRecDepth 100000 in
theorem lkX11_427 : lkV RX11 427 yX3_readOrder := ⟨sg4 26 rfl rfl, sg4 27 rfl rfl, sg4 28 rfl rfl⟩
set_option maxRecDepth 100000 in
theorem lkX11_434 : lkV RX11 434 yX11_readyPeople := ⟨sg4 58 rfl rfl, sg4 60 rfl rfl, sgP 21 rfl rfl⟩
set_option maxRecDepth 100000 in
theorem lkX11_437 : lkV RX11 437 yX11_shoot := ⟨sg4 75 rfl rfl, sg4 77 rfl rfl, sgP 23 rfl rfl⟩
set_option maxRecDepth 100000 in
theorem lkX11_440 : lkV RX11 440 yX11_lengthenSuspended := ⟨sg4 83 rfl rfl, sg4 85 rfl rfl, sgP 24 rfl rfl⟩
set_option maxRecDepth 100000 in
theorem lkX11_443 : lkV RX11 443 yX11_payWeek := ⟨sg4 87 rfl rfl, sg4 89 rfl rfl, sgP 25 rfl rfl⟩
set_option maxRecDepth 100000 in
theorem lkX11_446 : lkV RX11 446 yX4_settle := ⟨sg4 100 rfl rfl, sg4 101 rfl rfl, sg4 102 rfl rfl⟩
set_option maxRecDepth 100000 in
theorem lkX11_449 : lkV RX11 449 yX5_nextScene := ⟨sg4 79 rfl rfl, sg4 80 rfl rfl, sg4 81 rfl rfl⟩
set_option maxRecDepth 100000 in
theorem lkX11_458 : lkV RX11 458 yX4_paidOn := ⟨sg4 91 rfl rfl, sg4 92 rfl rfl, sg4 93 rfl rfl⟩
set_option maxRecDepth 100000 in
theorem lkX11_461 : lkV RX11 461 yX4_addPaidWeek := ⟨sg4 95 rfl rfl, sg4 96 rfl rfl, sg4 97 rfl rfl⟩
set_option maxRecDepth 100000 in
theorem lkX11_470 : lkV RX11 470 yX1_showsNear := ⟨sg5 19 rfl rfl, sg5 20 rfl rfl, sg5 21 rfl rfl⟩
set_option maxRecDepth 100000 in
theorem lkX11_474 : lkV RX11 474 yX5_castOfAll := ⟨sg5 49 rfl rfl, sg5 50 rfl rfl, sg5 51 rfl rfl⟩
set_option maxRecDepth 100000 in
theorem lkX11_477 : lkS RX11 477 yJ9_min_7cf53 := ⟨sg5 53 rfl rfl, sg3 226 rfl rfl⟩
set_option maxRecDepth 100000 in
theorem lkX0_29 : lkV RX0 29 yX0_fillCanKeep := ⟨sg4 124 rfl rfl, sg4 126 rfl rfl, sgP 26 rfl rfl⟩
set_option maxRecDepth 100000 in
theorem lkX0_33 : lkV RX0 33 yX0_keepHands := ⟨sg4 131 rfl rfl, sg4 133 rfl rfl, sgP 27 rfl rfl⟩
set_option maxRecDepth 100000 in
theorem lkX0_55 : lkS RX0 55 yJ9_max_7cf53 := ⟨sg4 128 rfl rfl, sg4 129 rfl rfl⟩
set_option maxRecDepth 100000 in
theorem lkX1_32 : lkS RX1 32 yJ9_min_7cf53 := ⟨sg5 23 rfl rfl, sg3 226 rfl rfl⟩
set_option maxRecDepth 100000 in
theorem lkX1_38 : lkS RX1 38 yJ9_max_7cf53 := ⟨sg5 24 rfl rfl, sg4 129 rfl rfl⟩
set_option maxRecDepth 100000 in
theorem lkX3_43 : lkS RX3 43 yJ6_numberOfTrailingZeros_0f7a4 := ⟨sg3 200 rfl rfl, sg3 201 rfl rfl⟩
set_option maxRecDepth 100000 in
theorem lkX3_58 : lkV RX3 58 yX3_fillLeast := ⟨sg3 204 rfl rfl, sg3 206 rfl rfl, sgP 11 rfl rfl⟩
set_option maxRecDepth 100000 in
theorem lkX3_62 : lkV RX3 62 yX3_walkBest := ⟨sg3 228 rfl rfl, sg3 230 rfl rfl, sgP 16 rfl rfl⟩
set_option maxRecDepth 100000 in
theorem lkX3_66 : lkV RX3 66 yX3_fillWithNext := ⟨sg3 209 rfl rfl, sg3 211 rfl rfl, sgP 12 rfl rfl⟩
set_option maxRecDepth 100000 in
theorem lkX3_70 : lkV RX3 70 yX3_onwardCost := ⟨sg3 213 rfl rfl, sg3 215 rfl rfl, sgP 13 rfl rfl⟩
set_option maxRecDepth 100000 in
theorem lkX3_74 : lkV RX3 74 yX3_changeCost := ⟨sg3 221 rfl rfl, sg3 223 rfl rfl, sgP 15 rfl rfl⟩
set_option maxRecDepth 100000 in
theorem lkX3_77 : lkS RX3 77 yJ9_min_7cf53 := ⟨sg3 225 rfl rfl, sg3 226 rfl rfl⟩
set_option maxRecDepth 100000 in
theorem lkX3_86 : lkV RX3 86 yX3_dayCost := ⟨sg3 217 rfl rfl, sg3 219 rfl rfl, sgP 14 rfl rfl⟩
set_option maxRecDepth 100000 in
theorem lkX3_92 : lkV RX3 92 yX3_firstOfBest := ⟨sg3 232 rfl rfl, sg3 234 rfl rfl, sgP 17 rfl rfl⟩
set_option maxRecDepth 100000 in
theorem lkX3_104 : lkV RX3 104 yX3_peopleThere := ⟨sg4 34 rfl rfl, sg4 36 rfl rfl, sgP 19 rfl rfl⟩
set_option maxRecDepth 100000 in
theorem lkX3_108 : lkS RX3 108 yJ6_bitCount_0f7a4 := ⟨sg4 12 rfl rfl, sg4 13 rfl rfl⟩
set_option maxRecDepth 100000 in
theorem lkX4_60 : lkV RX4 60 yX2_areAgainst := ⟨sg2 220 rfl rfl, sg2 221 rfl rfl, sg2 222 rfl rfl⟩
set_option maxRecDepth 100000 in
theorem lkX4_66 : lkV RX4 66 yX4_isUnder := ⟨sg3 1 rfl rfl, sg2 191 rfl rfl, sg2 192 rfl rfl⟩
set_option maxRecDepth 100000 in
theorem lkX4_70 : lkV RX4 70 yX4_isAtWork := ⟨sg4 66 rfl rfl, sg2 238 rfl rfl, sg2 239 rfl rfl⟩
set_option maxRecDepth 100000 in
theorem lkX4_73 : lkV RX4 73 yX4_isIll := ⟨sg4 67 rfl rfl, sg4 69 rfl rfl, sgP 22 rfl rfl⟩
set_option maxRecDepth 100000 in
theorem lkX4_90 : lkV RX4 90 yX4_yearOfTerm := ⟨sg3 6 rfl rfl, sg3 8 rfl rfl, sgP 9 rfl rfl⟩
set_option maxRecDepth 100000 in
theorem lkX4_94 : lkV RX4 94 yX4_paidOn := ⟨sg4 99 rfl rfl, sg4 92 rfl rfl, sg4 93 rfl rfl⟩
set_option maxRecDepth 100000 in
theorem lkX4_97 : lkV RX4 97 yX4_refusalsOn := ⟨sg3 14 rfl rfl, sg3 3 rfl rfl, sg3 4 rfl rfl⟩
set_option maxRecDepth 100000 in
theorem lkX6_40 : lkS RX6 40 yJ9_min_7cf53 := ⟨sg5 74 rfl rfl, sg3 226 rfl rfl⟩
set_option maxRecDepth 100000 in
theorem lkX6_46 : lkV RX6 46 yX5_castOfAll := ⟨sg5 75 rfl rfl, sg5 50 rfl rfl, sg5 51 rfl rfl⟩
set_option maxRecDepth 100000 in
theorem lkX6_52 : lkS RX6 52 yX6_mostOf := ⟨sg5 76 rfl rfl, sg5 77 rfl rfl⟩
set_option maxRecDepth 100000 in
theorem lkX6_56 : lkV RX6 56 yX6_search := ⟨sg5 80 rfl rfl, sg5 82 rfl rfl, sgP 33 rfl rfl⟩
set_option maxRecDepth 100000 in
theorem lkX6_63 : lkS RX6 63 yJ9_max_7cf53 := ⟨sg5 79 rfl rfl, sg4 129 rfl rfl⟩
set_option maxRecDepth 100000 in
theorem lkX6_82 : lkV RX6 82 yX6_isFree := ⟨sg5 86 rfl rfl, sg5 88 rfl rfl, sgP 34 rfl rfl⟩
set_option maxRecDepth 100000 in
theorem lkX6_86 : lkV RX6 86 yX6_use := ⟨sg5 90 rfl rfl, sg5 92 rfl rfl, sgP 35 rfl rfl⟩
set_option maxRecDepth 100000 in
theorem lkX7_34 : lkS RX7 34 yX7_mostOf := ⟨sg4 173 rfl rfl, sg4 174 rfl rfl⟩
set_option maxRecDepth 100000 in
theorem lkX7_38 : lkV RX7 38 yX7_search := ⟨sg4 180 rfl rfl, sg4 182 rfl rfl, sgP 28 rfl rfl⟩
set_option maxRecDepth 100000 in
theorem lkX7_53 : lkS RX7 53 yX7_valueOf := ⟨sg4 176 rfl rfl, sg4 177 rfl rfl⟩
set_option maxRecDepth 100000 in
theorem lkX7_57 : lkS RX7 57 yJ9_max_7cf53 := ⟨sg4 179 rfl rfl, sg4 129 rfl rfl⟩
set_option maxRecDepth 100000 in
theorem lkX10_22 : lkV RX10 22 yX10_findFault := ⟨sg2 168 rfl rfl, sg2 170 rfl rfl, sgP 5 rfl rfl⟩
set_option maxRecDepth 100000 in
theorem lkX10_35 : lkV RX10 35 yX10_addDigit := ⟨sg2 172 rfl rfl, sg2 174 rfl rfl, sgP 6 rfl rfl⟩
set_option maxRecDepth 100000 in
theorem lkX10_39 : lkV RX10 39 yX10_openClause := ⟨sg2 180 rfl rfl, sg2 182 rfl rfl, sgP 7 rfl rfl⟩
set_option maxRecDepth 100000 in
theorem lkX10_42 : lkV RX10 42 yX10_hasNumber := ⟨sg2 184 rfl rfl, sg2 186 rfl rfl, sgP 8 rfl rfl⟩
set_option maxRecDepth 100000 in
theorem lkL_9 : lkI RL 9 yX11_init := ⟨sg1 19 rfl rfl, sg1 20 rfl rfl⟩
set_option maxRecDepth 100000 in
theorem lkL_12 : lkI RL 12 yX12_init := ⟨sg5 112 rfl rfl, sg5 113 rfl rfl⟩
set_option maxRecDepth 100000 in
theorem lkL_13 : lkV RL 13 yX11_person := ⟨sg2 22 rfl rfl, sg2 23 rfl rfl, sg2 24 rfl rfl⟩
set_option maxRecDepth 100000 in
theorem lkL_17 : lkV RL 17 yX12_person := ⟨sg6 183 rfl rfl, sg6 184 rfl rfl, sg6 185 rfl rfl⟩
set_option maxRecDepth 100000 in
theorem lkL_18 : lkV RL 18 yX11_row := ⟨sg2 85 rfl rfl, sg2 86 rfl rfl, sg2 87 rfl rfl⟩
set_option maxRecDepth 100000 in
theorem lkL_22 : lkV RL 22 yX12_row := ⟨sg6 141 rfl rfl, sg6 142 rfl rfl, sg6 143 rfl rfl⟩
set_option maxRecDepth 100000 in
theorem lkL_25 : lkV RL 25 yX11_set := ⟨sg2 97 rfl rfl, sg2 98 rfl rfl, sg2 99 rfl rfl⟩
set_option maxRecDepth 100000 in
theorem lkL_29 : lkV RL 29 yX12_set := ⟨sg6 152 rfl rfl, sg6 153 rfl rfl, sg6 154 rfl rfl⟩
set_option maxRecDepth 100000 in
theorem lkL_30 : lkV RL 30 yX11_copy := ⟨sg2 113 rfl rfl, sg2 114 rfl rfl, sg2 115 rfl rfl⟩
set_option maxRecDepth 100000 in
theorem lkL_34 : lkV RL 34 yX12_copy := ⟨sg6 156 rfl rfl, sg6 157 rfl rfl, sg6 158 rfl rfl⟩
set_option maxRecDepth 100000 in
theorem lkL_35 : lkV RL 35 yX11_element := ⟨sg2 124 rfl rfl, sg2 125 rfl rfl, sg2 126 rfl rfl⟩
set_option maxRecDepth 100000 in
theorem lkL_39 : lkV RL 39 yX12_element := ⟨sg6 160 rfl rfl, sg6 161 rfl rfl, sg6 162 rfl rfl⟩
set_option maxRecDepth 100000 in
theorem lkL_40 : lkV RL 40 yX11_show := ⟨sg2 128 rfl rfl, sg2 129 rfl rfl, sg2 130 rfl rfl⟩
set_option maxRecDepth 100000 in
theorem lkL_44 : lkV RL 44 yX12_show := ⟨sg6 164 rfl rfl, sg6 165 rfl rfl, sg6 166 rfl rfl⟩
set_option maxRecDepth 100000 in
theorem lkL_45 : lkV RL 45 yX11_holds := ⟨sg2 136 rfl rfl, sg2 137 rfl rfl, sg2 138 rfl rfl⟩
set_option maxRecDepth 100000 in
theorem lkL_48 : lkV RL 48 yX12_holds := ⟨sg6 172 rfl rfl, sg6 173 rfl rfl, sg6 174 rfl rfl⟩
set_option maxRecDepth 100000 in
theorem lkL_49 : lkV RL 49 yX11_kindIn := ⟨sg2 140 rfl rfl, sg2 141 rfl rfl, sg2 142 rfl rfl⟩
set_option maxRecDepth 100000 in
theorem lkL_52 : lkV RL 52 yX12_kindIn := ⟨sg6 176 rfl rfl, sg6 177 rfl rfl, sg6 178 rfl rfl⟩
set_option maxRecDepth 100000 in
theorem lkL_53 : lkV RL 53 yX11_term := ⟨sg2 156 rfl rfl, sg2 157 rfl rfl, sg2 158 rfl rfl⟩
set_option maxRecDepth 100000 in
theorem lkL_56 : lkV RL 56 yX12_term := ⟨sg6 187 rfl rfl, sg6 188 rfl rfl, sg6 189 rfl rfl⟩
set_option maxRecDepth 100000 in
theorem lkL_57 : lkV RL 57 yX11_fault := ⟨sg2 200 rfl rfl, sg2 201 rfl rfl, sg2 202 rfl rfl⟩
set_option maxRecDepth 100000 in
theorem lkL_61 : lkV RL 61 yX12_fault := ⟨sg6 213 rfl rfl, sg6 214 rfl rfl, sg6 215 rfl rfl⟩
set_option maxRecDepth 100000 in
theorem lkL_62 : lkV RL 62 yX11_law := ⟨sg2 204 rfl rfl, sg2 205 rfl rfl, sg2 206 rfl rfl⟩
set_option maxRecDepth 100000 in
theorem lkL_65 : lkV RL 65 yX12_law := ⟨sg6 217 rfl rfl, sg6 218 rfl rfl, sg6 219 rfl rfl⟩
set_option maxRecDepth 100000 in
theorem lkL_66 : lkV RL 66 yX11_counts := ⟨sg2 212 rfl rfl, sg2 213 rfl rfl, sg2 214 rfl rfl⟩
set_option maxRecDepth 100000 in
theorem lkL_69 : lkV RL 69 yX12_counts := ⟨sg6 221 rfl rfl, sg6 222 rfl rfl, sg6 223 rfl rfl⟩
set_option maxRecDepth 100000 in
theorem lkL_70 : lkV RL 70 yX11_ill := ⟨sg2 224 rfl rfl, sg2 225 rfl rfl, sg2 226 rfl rfl⟩
set_option maxRecDepth 100000 in
theorem lkL_73 : lkV RL 73 yX12_ill := ⟨sg6 229 rfl rfl, sg6 230 rfl rfl, sg6 231 rfl rfl⟩
set_option maxRecDepth 100000 in
theorem lkL_74 : lkV RL 74 yX11_refuse := ⟨sg2 233 rfl rfl, sg2 234 rfl rfl, sg2 235 rfl rfl⟩
set_option maxRecDepth 100000 in
theorem lkL_77 : lkV RL 77 yX12_refuse := ⟨sg6 233 rfl rfl, sg6 234 rfl rfl, sg6 235 rfl rfl⟩
set_option maxRecDepth 100000 in
theorem lkL_78 : lkV RL 78 yX11_recall := ⟨sg3 15 rfl rfl, sg3 16 rfl rfl, sg3 17 rfl rfl⟩
set_option maxRecDepth 100000 in
theorem lkL_81 : lkV RL 81 yX12_recall := ⟨sg7 9 rfl rfl, sg7 10 rfl rfl, sg7 11 rfl rfl⟩
set_option maxRecDepth 100000 in
theorem lkL_82 : lkV RL 82 yX11_lend := ⟨sg3 19 rfl rfl, sg3 20 rfl rfl, sg3 21 rfl rfl⟩
set_option maxRecDepth 100000 in
theorem lkL_85 : lkV RL 85 yX12_lend := ⟨sg7 13 rfl rfl, sg7 14 rfl rfl, sg7 15 rfl rfl⟩
set_option maxRecDepth 100000 in
theorem lkL_86 : lkV RL 86 yX11_picture := ⟨sg3 24 rfl rfl, sg3 25 rfl rfl, sg3 26 rfl rfl⟩
set_option maxRecDepth 100000 in
theorem lkL_89 : lkV RL 89 yX12_picture := ⟨sg7 18 rfl rfl, sg7 19 rfl rfl, sg7 20 rfl rfl⟩
set_option maxRecDepth 100000 in
theorem lkL_90 : lkV RL 90 yX11_scene := ⟨sg3 117 rfl rfl, sg3 118 rfl rfl, sg3 119 rfl rfl⟩
set_option maxRecDepth 100000 in
theorem lkL_94 : lkV RL 94 yX12_scene := ⟨sg7 22 rfl rfl, sg7 23 rfl rfl, sg7 24 rfl rfl⟩
set_option maxRecDepth 100000 in
theorem lkL_95 : lkV RL 95 yX11_mark := ⟨sg3 180 rfl rfl, sg3 181 rfl rfl, sg3 182 rfl rfl⟩
set_option maxRecDepth 100000 in
theorem lkL_98 : lkV RL 98 yX12_mark := ⟨sg7 26 rfl rfl, sg7 27 rfl rfl, sg7 28 rfl rfl⟩
set_option maxRecDepth 100000 in
theorem lkL_99 : lkV RL 99 yX11_costs := ⟨sg3 188 rfl rfl, sg3 189 rfl rfl, sg3 190 rfl rfl⟩
set_option maxRecDepth 100000 in
theorem lkL_102 : lkV RL 102 yX12_costs := ⟨sg7 34 rfl rfl, sg7 35 rfl rfl, sg7 36 rfl rfl⟩
set_option maxRecDepth 100000 in
theorem lkL_103 : lkV RL 103 yX11_best := ⟨sg3 192 rfl rfl, sg3 193 rfl rfl, sg3 194 rfl rfl⟩
set_option maxRecDepth 100000 in
theorem lkL_106 : lkV RL 106 yX12_best := ⟨sg7 38 rfl rfl, sg7 39 rfl rfl, sg7 40 rfl rfl⟩
set_option maxRecDepth 100000 in
theorem lkL_107 : lkV RL 107 yX11_bestScene := ⟨sg4 0 rfl rfl, sg4 1 rfl rfl, sg4 2 rfl rfl⟩
set_option maxRecDepth 100000 in
theorem lkL_110 : lkV RL 110 yX12_bestScene := ⟨sg7 58 rfl rfl, sg7 59 rfl rfl, sg7 60 rfl rfl⟩
set_option maxRecDepth 100000 in
theorem lkL_111 : lkV RL 111 yX11_bound := ⟨sg4 4 rfl rfl, sg4 5 rfl rfl, sg4 6 rfl rfl⟩
set_option maxRecDepth 100000 in
theorem lkL_114 : lkV RL 114 yX12_bound := ⟨sg7 62 rfl rfl, sg7 63 rfl rfl, sg7 64 rfl rfl⟩
set_option maxRecDepth 100000 in
theorem lkL_115 : lkV RL 115 yX11_judge := ⟨sg4 18 rfl rfl, sg4 19 rfl rfl, sg4 20 rfl rfl⟩
set_option maxRecDepth 100000 in
theorem lkL_118 : lkV RL 118 yX12_judge := ⟨sg7 66 rfl rfl, sg7 67 rfl rfl, sg7 68 rfl rfl⟩
set_option maxRecDepth 100000 in
theorem lkL_119 : lkV RL 119 yX11_begin := ⟨sg4 38 rfl rfl, sg4 39 rfl rfl, sg4 40 rfl rfl⟩
set_option maxRecDepth 100000 in
theorem lkL_122 : lkV RL 122 yX12_begin := ⟨sg7 78 rfl rfl, sg7 79 rfl rfl, sg7 80 rfl rfl⟩
set_option maxRecDepth 100000 in
theorem lkL_123 : lkV RL 123 yX11_retake := ⟨sg4 46 rfl rfl, sg4 47 rfl rfl, sg4 48 rfl rfl⟩
set_option maxRecDepth 100000 in
theorem lkL_126 : lkV RL 126 yX12_retake := ⟨sg7 82 rfl rfl, sg7 83 rfl rfl, sg7 84 rfl rfl⟩
set_option maxRecDepth 100000 in
theorem lkL_127 : lkV RL 127 yX11_days := ⟨sg4 50 rfl rfl, sg4 51 rfl rfl, sg4 52 rfl rfl⟩
set_option maxRecDepth 100000 in
theorem lkL_130 : lkV RL 130 yX12_days := ⟨sg7 86 rfl rfl, sg7 87 rfl rfl, sg7 88 rfl rfl⟩
set_option maxRecDepth 100000 in
theorem lkL_131 : lkV RL 131 yX11_who := ⟨sg4 104 rfl rfl, sg4 105 rfl rfl, sg4 106 rfl rfl⟩
set_option maxRecDepth 100000 in
theorem lkL_134 : lkV RL 134 yX12_who := ⟨sg7 110 rfl rfl, sg7 111 rfl rfl, sg7 112 rfl rfl⟩
set_option maxRecDepth 100000 in
theorem lkL_135 : lkV RL 135 yX11_about := ⟨sg4 108 rfl rfl, sg4 109 rfl rfl, sg4 110 rfl rfl⟩
set_option maxRecDepth 100000 in
theorem lkL_138 : lkV RL 138 yX12_about := ⟨sg7 114 rfl rfl, sg7 115 rfl rfl, sg7 116 rfl rfl⟩
set_option maxRecDepth 100000 in
theorem lkL_139 : lkV RL 139 yX11_left := ⟨sg4 112 rfl rfl, sg4 113 rfl rfl, sg4 114 rfl rfl⟩
set_option maxRecDepth 100000 in
theorem lkL_142 : lkV RL 142 yX12_left := ⟨sg7 118 rfl rfl, sg7 119 rfl rfl, sg7 120 rfl rfl⟩
set_option maxRecDepth 100000 in
theorem lkL_143 : lkV RL 143 yX11_draft := ⟨sg4 116 rfl rfl, sg4 117 rfl rfl, sg4 118 rfl rfl⟩
set_option maxRecDepth 100000 in
theorem lkL_146 : lkV RL 146 yX12_draft := ⟨sg7 122 rfl rfl, sg7 123 rfl rfl, sg7 124 rfl rfl⟩
set_option maxRecDepth 100000 in
theorem lkL_147 : lkV RL 147 yX11_credit := ⟨sg4 136 rfl rfl, sg4 137 rfl rfl, sg4 138 rfl rfl⟩
set_option maxRecDepth 100000 in
theorem lkL_150 : lkV RL 150 yX12_credit := ⟨sg7 126 rfl rfl, sg7 127 rfl rfl, sg7 128 rfl rfl⟩
set_option maxRecDepth 100000 in
theorem lkL_151 : lkV RL 151 yX11_named := ⟨sg4 144 rfl rfl, sg4 145 rfl rfl, sg4 146 rfl rfl⟩
set_option maxRecDepth 100000 in
theorem lkL_154 : lkV RL 154 yX12_named := ⟨sg7 134 rfl rfl, sg7 135 rfl rfl, sg7 136 rfl rfl⟩
set_option maxRecDepth 100000 in
theorem lkL_155 : lkV RL 155 yX11_code := ⟨sg4 148 rfl rfl, sg4 149 rfl rfl, sg4 150 rfl rfl⟩
set_option maxRecDepth 100000 in
theorem lkL_158 : lkV RL 158 yX12_code := ⟨sg7 138 rfl rfl, sg7 139 rfl rfl, sg7 140 rfl rfl⟩
set_option maxRecDepth 100000 in
theorem lkL_159 : lkV RL 159 yX11_barred := ⟨sg4 152 rfl rfl, sg4 153 rfl rfl, sg4 154 rfl rfl⟩
set_option maxRecDepth 100000 in
theorem lkL_162 : lkV RL 162 yX12_barred := ⟨sg7 142 rfl rfl, sg7 143 rfl rfl, sg7 144 rfl rfl⟩
set_option maxRecDepth 100000 in
theorem lkL_163 : lkV RL 163 yX11_mend := ⟨sg4 156 rfl rfl, sg4 157 rfl rfl, sg4 158 rfl rfl⟩
set_option maxRecDepth 100000 in
theorem lkL_166 : lkV RL 166 yX12_mend := ⟨sg7 146 rfl rfl, sg7 147 rfl rfl, sg7 148 rfl rfl⟩
set_option maxRecDepth 100000 in
theorem lkL_167 : lkV RL 167 yX11_take := ⟨sg4 161 rfl rfl, sg4 162 rfl rfl, sg4 163 rfl rfl⟩
set_option maxRecDepth 100000 in
theorem lkL_170 : lkV RL 170 yX12_take := ⟨sg7 150 rfl rfl, sg7 151 rfl rfl, sg7 152 rfl rfl⟩
set_option maxRecDepth 100000 in
theorem lkL_171 : lkV RL 171 yX11_reel := ⟨sg4 165 rfl rfl, sg4 166 rfl rfl, sg4 167 rfl rfl⟩
set_option maxRecDepth 100000 in
theorem lkL_174 : lkV RL 174 yX12_reel := ⟨sg7 154 rfl rfl, sg7 155 rfl rfl, sg7 156 rfl rfl⟩
set_option maxRecDepth 100000 in
theorem lkL_175 : lkV RL 175 yX11_reelTake := ⟨sg4 185 rfl rfl, sg4 186 rfl rfl, sg4 187 rfl rfl⟩
set_option maxRecDepth 100000 in
theorem lkL_178 : lkV RL 178 yX12_reelTake := ⟨sg7 158 rfl rfl, sg7 159 rfl rfl, sg7 160 rfl rfl⟩
set_option maxRecDepth 100000 in
theorem lkL_179 : lkV RL 179 yX11_land := ⟨sg4 189 rfl rfl, sg4 190 rfl rfl, sg4 191 rfl rfl⟩
set_option maxRecDepth 100000 in
theorem lkL_182 : lkV RL 182 yX12_land := ⟨sg7 162 rfl rfl, sg7 163 rfl rfl, sg7 164 rfl rfl⟩
set_option maxRecDepth 100000 in
theorem lkL_183 : lkV RL 183 yX11_preview := ⟨sg4 193 rfl rfl, sg4 194 rfl rfl, sg4 195 rfl rfl⟩
set_option maxRecDepth 100000 in
theorem lkL_186 : lkV RL 186 yX12_preview := ⟨sg7 166 rfl rfl, sg7 167 rfl rfl, sg7 168 rfl rfl⟩
set_option maxRecDepth 100000 in
theorem lkL_187 : lkV RL 187 yX11_putRight := ⟨sg4 197 rfl rfl, sg4 198 rfl rfl, sg4 199 rfl rfl⟩
set_option maxRecDepth 100000 in
theorem lkL_191 : lkV RL 191 yX12_putRight := ⟨sg7 170 rfl rfl, sg7 171 rfl rfl, sg7 172 rfl rfl⟩
set_option maxRecDepth 100000 in
theorem lkL_192 : lkV RL 192 yX11_hall := ⟨sg4 205 rfl rfl, sg4 206 rfl rfl, sg4 207 rfl rfl⟩
set_option maxRecDepth 100000 in
theorem lkL_195 : lkV RL 195 yX12_hall := ⟨sg7 178 rfl rfl, sg7 179 rfl rfl, sg7 180 rfl rfl⟩
set_option maxRecDepth 100000 in
theorem lkL_196 : lkV RL 196 yX11_clearance := ⟨sg5 0 rfl rfl, sg5 1 rfl rfl, sg5 2 rfl rfl⟩
set_option maxRecDepth 100000 in
theorem lkL_199 : lkV RL 199 yX12_clearance := ⟨sg7 182 rfl rfl, sg7 183 rfl rfl, sg7 184 rfl rfl⟩
set_option maxRecDepth 100000 in
theorem lkL_200 : lkV RL 200 yX11_book := ⟨sg5 4 rfl rfl, sg5 5 rfl rfl, sg5 6 rfl rfl⟩
set_option maxRecDepth 100000 in
theorem lkL_203 : lkV RL 203 yX12_book := ⟨sg7 186 rfl rfl, sg7 187 rfl rfl, sg7 188 rfl rfl⟩
set_option maxRecDepth 100000 in
theorem lkL_204 : lkV RL 204 yX11_block := ⟨sg5 25 rfl rfl, sg5 26 rfl rfl, sg5 27 rfl rfl⟩
set_option maxRecDepth 100000 in
theorem lkL_207 : lkV RL 207 yX12_block := ⟨sg7 198 rfl rfl, sg7 199 rfl rfl, sg7 200 rfl rfl⟩
set_option maxRecDepth 100000 in
theorem lkL_208 : lkV RL 208 yX11_shown := ⟨sg5 37 rfl rfl, sg5 38 rfl rfl, sg5 39 rfl rfl⟩
set_option maxRecDepth 100000 in
theorem lkL_211 : lkV RL 211 yX12_shown := ⟨sg7 202 rfl rfl, sg7 203 rfl rfl, sg7 204 rfl rfl⟩
set_option maxRecDepth 100000 in
theorem lkL_212 : lkV RL 212 yX11_takings := ⟨sg5 41 rfl rfl, sg5 42 rfl rfl, sg5 43 rfl rfl⟩
set_option maxRecDepth 100000 in
theorem lkL_215 : lkV RL 215 yX12_takings := ⟨sg7 206 rfl rfl, sg7 207 rfl rfl, sg7 208 rfl rfl⟩
set_option maxRecDepth 100000 in
theorem lkL_216 : lkV RL 216 yX11_got := ⟨sg5 54 rfl rfl, sg5 55 rfl rfl, sg5 56 rfl rfl⟩
set_option maxRecDepth 100000 in
theorem lkL_219 : lkV RL 219 yX12_got := ⟨sg7 210 rfl rfl, sg7 211 rfl rfl, sg7 212 rfl rfl⟩
set_option maxRecDepth 100000 in
theorem lkL_220 : lkV RL 220 yX11_lot := ⟨sg5 58 rfl rfl, sg5 59 rfl rfl, sg5 60 rfl rfl⟩
set_option maxRecDepth 100000 in
theorem lkL_223 : lkV RL 223 yX12_lot := ⟨sg7 214 rfl rfl, sg7 215 rfl rfl, sg7 216 rfl rfl⟩
set_option maxRecDepth 100000 in
theorem lkL_224 : lkV RL 224 yX11_worth := ⟨sg5 62 rfl rfl, sg5 63 rfl rfl, sg5 64 rfl rfl⟩
set_option maxRecDepth 100000 in
theorem lkL_227 : lkV RL 227 yX12_worth := ⟨sg7 218 rfl rfl, sg7 219 rfl rfl, sg7 220 rfl rfl⟩
set_option maxRecDepth 100000 in
theorem lkL_228 : lkV RL 228 yX11_plan := ⟨sg5 66 rfl rfl, sg5 67 rfl rfl, sg5 68 rfl rfl⟩
set_option maxRecDepth 100000 in
theorem lkL_231 : lkV RL 231 yX12_plan := ⟨sg7 222 rfl rfl, sg7 223 rfl rfl, sg7 224 rfl rfl⟩
set_option maxRecDepth 100000 in
theorem lkL_232 : lkV RL 232 yX11_planned := ⟨sg5 94 rfl rfl, sg5 95 rfl rfl, sg5 96 rfl rfl⟩
set_option maxRecDepth 100000 in
theorem lkL_235 : lkV RL 235 yX12_planned := ⟨sg7 234 rfl rfl, sg7 235 rfl rfl, sg7 236 rfl rfl⟩
set_option maxRecDepth 100000 in
theorem lkL_236 : lkV RL 236 yX11_status := ⟨sg5 98 rfl rfl, sg5 99 rfl rfl, sg5 100 rfl rfl⟩
set_option maxRecDepth 100000 in
theorem lkL_239 : lkV RL 239 yX12_status := ⟨sg7 238 rfl rfl, sg7 239 rfl rfl, sg8 0 rfl rfl⟩
set_option maxRecDepth 100000 in
theorem lkX12_253 : lkV RX12 253 yX12_isPicture := ⟨sg6 168 rfl rfl, sg6 170 rfl rfl, sgP 39 rfl rfl⟩
set_option maxRecDepth 100000 in
theorem lkX12_260 : lkS RX12 260 yX12_isShelf := ⟨sg6 145 rfl rfl, sg6 146 rfl rfl⟩
set_option maxRecDepth 100000 in
theorem lkX12_263 : lkV RX12 263 yX12_no := ⟨sg6 148 rfl rfl, sg6 150 rfl rfl, sgP 38 rfl rfl⟩
set_option maxRecDepth 100000 in
theorem lkX12_267 : lkS RX12 267 yX12_isUnder := ⟨sg6 180 rfl rfl, sg6 181 rfl rfl⟩
set_option maxRecDepth 100000 in
theorem lkX12_271 : lkS RX12 271 yX12_slot := ⟨sg6 203 rfl rfl, sg6 204 rfl rfl⟩
set_option maxRecDepth 100000 in
theorem lkX12_274 : lkS RX12 274 yX12_top := ⟨sg6 206 rfl rfl, sg6 207 rfl rfl⟩
set_option maxRecDepth 100000 in
theorem lkX12_277 : lkV RX12 277 yX12_isOne := ⟨sg6 191 rfl rfl, sg6 193 rfl rfl, sgP 40 rfl rfl⟩
set_option maxRecDepth 100000 in
theorem lkX12_280 : lkV RX12 280 yX12_wants := ⟨sg6 195 rfl rfl, sg6 197 rfl rfl, sgP 41 rfl rfl⟩
set_option maxRecDepth 100000 in
theorem lkX12_283 : lkV RX12 283 yX12_reads := ⟨sg6 199 rfl rfl, sg6 201 rfl rfl, sgP 42 rfl rfl⟩
set_option maxRecDepth 100000 in
theorem lkX12_289 : lkV RX12 289 yX12_isUnderOn := ⟨sg6 209 rfl rfl, sg6 211 rfl rfl, sgP 43 rfl rfl⟩
set_option maxRecDepth 100000 in
theorem lkX12_295 : lkV RX12 295 yX12_countsOn := ⟨sg6 225 rfl rfl, sg6 227 rfl rfl, sgP 44 rfl rfl⟩
set_option maxRecDepth 100000 in
theorem lkX12_299 : lkV RX12 299 yX12_isLent := ⟨sg7 1 rfl rfl, sg7 3 rfl rfl, sgP 46 rfl rfl⟩
set_option maxRecDepth 100000 in
theorem lkX12_302 : lkV RX12 302 yX12_mayAct := ⟨sg6 237 rfl rfl, sg6 239 rfl rfl, sgP 45 rfl rfl⟩
set_option maxRecDepth 100000 in
theorem lkX12_305 : lkV RX12 305 yX12_termYear := ⟨sg7 5 rfl rfl, sg7 7 rfl rfl, sgP 47 rfl rfl⟩
set_option maxRecDepth 100000 in
theorem lkX12_312 : lkV RX12 312 yX12_isScene := ⟨sg7 30 rfl rfl, sg7 32 rfl rfl, sgP 48 rfl rfl⟩
set_option maxRecDepth 100000 in
theorem lkX12_321 : lkV RX12 321 yX12_inSome := ⟨sg7 50 rfl rfl, sg7 52 rfl rfl, sgP 51 rfl rfl⟩
set_option maxRecDepth 100000 in
theorem lkX12_325 : lkV RX12 325 yX12_dayPay := ⟨sg7 54 rfl rfl, sg7 56 rfl rfl, sgP 52 rfl rfl⟩
set_option maxRecDepth 100000 in
theorem lkX12_328 : lkV RX12 328 yX12_step := ⟨sg7 46 rfl rfl, sg7 48 rfl rfl, sgP 50 rfl rfl⟩
set_option maxRecDepth 100000 in
theorem lkX12_332 : lkV RX12 332 yX12_seeks := ⟨sg7 42 rfl rfl, sg7 44 rfl rfl, sgP 49 rfl rfl⟩
set_option maxRecDepth 100000 in
theorem lkX12_335 : lkV RX12 335 yX12_isOrder := ⟨sg7 70 rfl rfl, sg7 72 rfl rfl, sgP 53 rfl rfl⟩
set_option maxRecDepth 100000 in
theorem lkX12_338 : lkV RX12 338 yX12_costOf := ⟨sg7 74 rfl rfl, sg7 76 rfl rfl, sgP 54 rfl rfl⟩
set_option maxRecDepth 100000 in
theorem lkX12_344 : lkV RX12 344 yX12_isReady := ⟨sg7 106 rfl rfl, sg7 108 rfl rfl, sgP 59 rfl rfl⟩
set_option maxRecDepth 100000 in
theorem lkX12_347 : lkV RX12 347 yX12_canShoot := ⟨sg7 102 rfl rfl, sg7 104 rfl rfl, sgP 58 rfl rfl⟩
set_option maxRecDepth 100000 in
theorem lkX12_350 : lkV RX12 350 yX12_leftOf := ⟨sg7 94 rfl rfl, sg7 96 rfl rfl, sgP 56 rfl rfl⟩
set_option maxRecDepth 100000 in
theorem lkX12_353 : lkV RX12 353 yX12_shoots := ⟨sg7 98 rfl rfl, sg7 100 rfl rfl, sgP 57 rfl rfl⟩
set_option maxRecDepth 100000 in
theorem lkX12_357 : lkV RX12 357 yX12_lives := ⟨sg7 90 rfl rfl, sg7 92 rfl rfl, sgP 55 rfl rfl⟩
set_option maxRecDepth 100000 in
theorem lkX12_360 : lkV RX12 360 yX12_creditOf := ⟨sg7 130 rfl rfl, sg7 132 rfl rfl, sgP 60 rfl rfl⟩
set_option maxRecDepth 100000 in
theorem lkX12_365 : lkS RX12 365 yX12_common := ⟨sg7 175 rfl rfl, sg7 176 rfl rfl⟩
set_option maxRecDepth 100000 in
theorem lkX12_369 : lkV RX12 369 yX12_isHall := ⟨sg7 190 rfl rfl, sg7 192 rfl rfl, sgP 61 rfl rfl⟩
set_option maxRecDepth 100000 in
theorem lkX12_372 : lkV RX12 372 yX12_mayBook := ⟨sg7 194 rfl rfl, sg7 196 rfl rfl, sgP 62 rfl rfl⟩
set_option maxRecDepth 100000 in
theorem lkX12_379 : lkV RX12 379 yX12_isIn := ⟨sg7 230 rfl rfl, sg7 232 rfl rfl, sgP 64 rfl rfl⟩
set_option maxRecDepth 100000 in
theorem lkX12_382 : lkV RX12 382 yX12_mayBegin := ⟨sg7 226 rfl rfl, sg7 228 rfl rfl, sgP 63 rfl rfl⟩
set_option maxRecDepth 100000 in
theorem imX11_35 : Cond.instanceMethod yX2_init ∈ lw_g := sg1 36 rfl rfl
set_option maxRecDepth 100000 in
theorem imX11_42 : Cond.instanceMethod yX10_init ∈ lw_g := sg1 54 rfl rfl
set_option maxRecDepth 100000 in
theorem imX11_49 : Cond.instanceMethod yX3_init ∈ lw_g := sg1 72 rfl rfl
set_option maxRecDepth 100000 in
theorem imX11_56 : Cond.instanceMethod yX0_init ∈ lw_g := sg1 108 rfl rfl
set_option maxRecDepth 100000 in
theorem imX11_63 : Cond.instanceMethod yX7_init ∈ lw_g := sg1 121 rfl rfl
set_option maxRecDepth 100000 in
theorem imX11_70 : Cond.instanceMethod yX6_init ∈ lw_g := sg1 140 rfl rfl
set_option maxRecDepth 100000 in
theorem imX11_104 : Cond.instanceMethod yX9_init ∈ lw_g := sg1 175 rfl rfl
set_option maxRecDepth 100000 in
theorem imX6_75 : Cond.static yX11_isUnderKind ∈ lw_g := sg2 154 rfl rfl
set_option maxRecDepth 100000 in
theorem kcX11_227 : Cond.constant RX11 227 (99999 : Int32) ∈ lw_g := sg3 23 rfl rfl
set_option maxRecDepth 100000 in
theorem kcX11_366 : Cond.constantLong RX11 366 (-1000 : Int64) ∈ lw_g := sg4 201 rfl rfl
set_option maxRecDepth 100000 in
theorem kcX3_65 : Cond.constant RX3 65 (1000000000 : Int32) ∈ lw_g := sg3 208 rfl rfl
set_option maxRecDepth 100000 in
theorem kcL_23 : Cond.constantLong RL 23 (4294967295 : Int64) ∈ lw_g := sg8 2 rfl rfl
set_option maxRecDepth 100000 in
theorem kcX12_308 : Cond.constant RX12 308 (99999 : Int32) ∈ lw_g := sg7 17 rfl rfl
set_option maxRecDepth 100000 in
theorem kcX12_363 : Cond.constantLong RX12 363 (-1000 : Int64) ∈ lw_g := sg7 174 rfl rfl
set_option maxRecDepth 100000 in
theorem kcJ6_264 : Cond.constant RJ6 264 (65536 : Int32) ∈ lw_g := sg3 203 rfl rfl
set_option maxRecDepth 100000 in
theorem kcJ6_265 : Cond.constant RJ6 265 (1431655765 : Int32) ∈ lw_g := sg4 15 rfl rfl
set_option maxRecDepth 100000 in
theorem kcJ6_266 : Cond.constant RJ6 266 (858993459 : Int32) ∈ lw_g := sg4 16 rfl rfl
set_option maxRecDepth 100000 in
theorem kcJ6_267 : Cond.constant RJ6 267 (252645135 : Int32) ∈ lw_g := sg4 17 rfl rfl
