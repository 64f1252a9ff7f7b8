/-! constants by their numbers; nest mates' links; statics -/
theorem kcX11_178 : Cond.constantLong RX11 178 (zL (10)) ∈ LW := by rw [show zL (10) = (10 : Int64) from rfl]; exact q780
theorem kcJ6_265 : Cond.constant RJ6 265 (zI (1431655765)) ∈ LW := by rw [show zI (1431655765) = (1431655765 : Int32) from rfl]; exact q806
theorem kcJ6_266 : Cond.constant RJ6 266 (zI (858993459)) ∈ LW := by rw [show zI (858993459) = (858993459 : Int32) from rfl]; exact q807
theorem kcJ6_267 : Cond.constant RJ6 267 (zI (252645135)) ∈ LW := by rw [show zI (252645135) = (252645135 : Int32) from rfl]; exact q808
theorem kcX11_206 : Cond.constant RX11 206 (zI (-100000)) ∈ LW := by rw [show zI (-100000) = (-100000 : Int32) from rfl]; exact q834
theorem kcJ6_264 : Cond.constant RJ6 264 (zI (65536)) ∈ LW := by rw [show zI (65536) = (65536 : Int32) from rfl]; exact q856
theorem kcX11_235 : Cond.constant RX11 235 (zI (999999)) ∈ LW := by rw [show zI (999999) = (999999 : Int32) from rfl]; exact q912
theorem kcX11_236 : Cond.constantLong RX11 236 (zL (1103515245)) ∈ LW := by rw [show zL (1103515245) = (1103515245 : Int64) from rfl]; exact q913
theorem kcX11_238 : Cond.constantLong RX11 238 (zL (12345)) ∈ LW := by rw [show zL (12345) = (12345 : Int64) from rfl]; exact q914
theorem kcX11_240 : Cond.constantLong RX11 240 (zL (2147483648)) ∈ LW := by rw [show zL (2147483648) = (2147483648 : Int64) from rfl]; exact q915
theorem kcX11_242 : Cond.constantLong RX11 242 (zL (65536)) ∈ LW := by rw [show zL (65536) = (65536 : Int64) from rfl]; exact q916
theorem kcX11_306 : Cond.constantLong RX11 306 (zL (827)) ∈ LW := by rw [show zL (827) = (827 : Int64) from rfl]; exact q1012
theorem kcX11_343 : Cond.constantLong RX11 343 (zL (31)) ∈ LW := by rw [show zL (31) = (31 : Int64) from rfl]; exact q1016
theorem kcX12_60 : Cond.constantLong RX12 60 (zL (2)) ∈ LW := by rw [show zL (2) = (2 : Int64) from rfl]; exact q1096
theorem kcX12_62 : Cond.constantLong RX12 62 (zL (70)) ∈ LW := by rw [show zL (70) = (70 : Int64) from rfl]; exact q1097
theorem kcX12_68 : Cond.constantLong RX12 68 (zL (3)) ∈ LW := by rw [show zL (3) = (3 : Int64) from rfl]; exact q1109
theorem kcX12_70 : Cond.constantLong RX12 70 (zL (9999)) ∈ LW := by rw [show zL (9999) = (9999 : Int64) from rfl]; exact q1110
theorem kcX12_72 : Cond.constantLong RX12 72 (zL (4)) ∈ LW := by rw [show zL (4) = (4 : Int64) from rfl]; exact q1115
theorem kcX12_74 : Cond.constantLong RX12 74 (zL (20)) ∈ LW := by rw [show zL (20) = (20 : Int64) from rfl]; exact q1116
theorem kcX12_76 : Cond.constantLong RX12 76 (zL (9)) ∈ LW := by rw [show zL (9) = (9 : Int64) from rfl]; exact q1117
theorem kcX12_142 : Cond.constantLong RX12 142 (zL (5)) ∈ LW := by rw [show zL (5) = (5 : Int64) from rfl]; exact q1223
theorem kcX12_156 : Cond.constantLong RX12 156 (zL (200)) ∈ LW := by rw [show zL (200) = (200 : Int64) from rfl]; exact q1243
theorem kcX12_164 : Cond.constantLong RX12 164 (zL (60)) ∈ LW := by rw [show zL (60) = (60 : Int64) from rfl]; exact q1256
theorem kcX12_166 : Cond.constantLong RX12 166 (zL (10)) ∈ LW := by rw [show zL (10) = (10 : Int64) from rfl]; exact q1257
theorem kcX12_189 : Cond.constantLong RX12 189 (zL (999)) ∈ LW := by rw [show zL (999) = (999 : Int64) from rfl]; exact q1288
theorem kcX12_194 : Cond.constantLong RX12 194 (zL (50)) ∈ LW := by rw [show zL (50) = (50 : Int64) from rfl]; exact q1296
theorem kcX12_199 : Cond.constant RX12 199 (zI (-100000)) ∈ LW := by rw [show zI (-100000) = (-100000 : Int32) from rfl]; exact q1305
theorem kcX12_200 : Cond.constant RX12 200 (zI (-1000000)) ∈ LW := by rw [show zI (-1000000) = (-1000000 : Int32) from rfl]; exact q1310
theorem kcX12_204 : Cond.constantLong RX12 204 (zL (99)) ∈ LW := by rw [show zL (99) = (99 : Int64) from rfl]; exact q1319
theorem kcX12_209 : Cond.constantLong RX12 209 (zL (999999)) ∈ LW := by rw [show zL (999999) = (999999 : Int64) from rfl]; exact q1336
theorem kcX12_211 : Cond.constantLong RX12 211 (zL (1103515245)) ∈ LW := by rw [show zL (1103515245) = (1103515245 : Int64) from rfl]; exact q1337
theorem kcX12_213 : Cond.constantLong RX12 213 (zL (12345)) ∈ LW := by rw [show zL (12345) = (12345 : Int64) from rfl]; exact q1338
theorem kcX12_215 : Cond.constantLong RX12 215 (zL (2147483648)) ∈ LW := by rw [show zL (2147483648) = (2147483648 : Int64) from rfl]; exact q1339
theorem kcX12_217 : Cond.constantLong RX12 217 (zL (65536)) ∈ LW := by rw [show zL (65536) = (65536 : Int64) from rfl]; exact q1340
theorem kcX12_222 : Cond.constantLong RX12 222 (zL (25)) ∈ LW := by rw [show zL (25) = (25 : Int64) from rfl]; exact q1352
theorem kcX12_231 : Cond.constantLong RX12 231 (zL (30)) ∈ LW := by rw [show zL (30) = (30 : Int64) from rfl]; exact q1361
theorem kcX12_236 : Cond.constant RX12 236 (zI (1000000)) ∈ LW := by rw [show zI (1000000) = (1000000 : Int32) from rfl]; exact q1374
theorem kcX12_237 : Cond.constantLong RX12 237 (zL (127)) ∈ LW := by rw [show zL (127) = (127 : Int64) from rfl]; exact q1387
theorem kcX12_243 : Cond.constantLong RX12 243 (zL (97)) ∈ LW := by rw [show zL (97) = (97 : Int64) from rfl]; exact q1403
theorem kcX12_245 : Cond.constantLong RX12 245 (zL (122)) ∈ LW := by rw [show zL (122) = (122 : Int64) from rfl]; exact q1404
theorem kcX12_247 : Cond.constantLong RX12 247 (zL (48)) ∈ LW := by rw [show zL (48) = (48 : Int64) from rfl]; exact q1408
theorem kcX12_249 : Cond.constantLong RX12 249 (zL (57)) ∈ LW := by rw [show zL (57) = (57 : Int64) from rfl]; exact q1409
theorem kcX12_298 : Cond.constantLong RX12 298 (zL (13)) ∈ LW := by rw [show zL (13) = (13 : Int64) from rfl]; exact q1462
theorem kcX12_305 : Cond.constantLong RX12 305 (zL (827)) ∈ LW := by rw [show zL (827) = (827 : Int64) from rfl]; exact q1471
theorem kcX12_303 : Cond.constantLong RX12 303 (zL (31)) ∈ LW := by rw [show zL (31) = (31 : Int64) from rfl]; exact q1472
theorem nwX11_9 : (RX11, 9, yX7_init, "LongYear") ∈ NWl := List.mem_of_getElem? (i := 0) rfl
theorem nwX11_22 : (RX11, 22, yX3_init, "LongYear") ∈ NWl := List.mem_of_getElem? (i := 1) rfl
theorem nwX11_25 : (RX11, 25, yX9_init, "LongYear") ∈ NWl := List.mem_of_getElem? (i := 2) rfl
theorem nwX9_1 : (RX9, 1, yX3_init, "LongYear") ∈ NWl := List.mem_of_getElem? (i := 3) rfl
theorem nwX11_28 : (RX11, 28, yX4_init, "LongYear") ∈ NWl := List.mem_of_getElem? (i := 4) rfl
theorem nwX4_1 : (RX4, 1, yX3_init, "LongYear") ∈ NWl := List.mem_of_getElem? (i := 5) rfl
theorem nwX11_31 : (RX11, 31, yX6_init, "LongYear") ∈ NWl := List.mem_of_getElem? (i := 6) rfl
theorem nwX6_1 : (RX6, 1, yX3_init, "LongYear") ∈ NWl := List.mem_of_getElem? (i := 7) rfl
theorem nwX11_34 : (RX11, 34, yX8_init, "LongYear") ∈ NWl := List.mem_of_getElem? (i := 8) rfl
theorem nwX8_1 : (RX8, 1, yX4_init, "LongYear") ∈ NWl := List.mem_of_getElem? (i := 9) rfl
theorem nwX5_11 : (RX5, 11, yX0_init, "LongYear") ∈ NWl := List.mem_of_getElem? (i := 10) rfl
theorem nwX2_23 : (RX2, 23, yX3_init, "LongYear") ∈ NWl := List.mem_of_getElem? (i := 11) rfl
theorem nwX7_22 : (RX7, 22, yX11_put, "LongYear") ∈ NWl := List.mem_of_getElem? (i := 12) rfl
theorem nwX7_71 : (RX7, 71, yX11_at, "LongYear") ∈ NWl := List.mem_of_getElem? (i := 13) rfl
theorem nwX7_115 : (RX7, 115, yX11_within, "LongYear") ∈ NWl := List.mem_of_getElem? (i := 14) rfl
theorem nwX0_50 : (RX0, 50, yX11_put, "LongYear") ∈ NWl := List.mem_of_getElem? (i := 15) rfl
theorem nwX0_46 : (RX0, 46, yX11_copy, "LongYear") ∈ NWl := List.mem_of_getElem? (i := 16) rfl
theorem nwX5_51 : (RX5, 51, yX11_farmAt, "LongYear") ∈ NWl := List.mem_of_getElem? (i := 17) rfl
theorem nwX5_55 : (RX5, 55, yX11_leftOver, "LongYear") ∈ NWl := List.mem_of_getElem? (i := 18) rfl
theorem nwX2_90 : (RX2, 90, yX11_leftOver, "LongYear") ∈ NWl := List.mem_of_getElem? (i := 19) rfl
theorem nwX2_130 : (RX2, 130, yX11_stored, "LongYear") ∈ NWl := List.mem_of_getElem? (i := 20) rfl
theorem nwX10_82 : (RX10, 82, yX11_copy, "LongYear") ∈ NWl := List.mem_of_getElem? (i := 21) rfl
theorem nwX10_56 : (RX10, 56, yX11_farmAt, "LongYear") ∈ NWl := List.mem_of_getElem? (i := 22) rfl
theorem nwX10_67 : (RX10, 67, yX11_put, "LongYear") ∈ NWl := List.mem_of_getElem? (i := 23) rfl
theorem nwX10_45 : (RX10, 45, yX11_at, "LongYear") ∈ NWl := List.mem_of_getElem? (i := 24) rfl
theorem nwX0_54 : (RX0, 54, yX11_at, "LongYear") ∈ NWl := List.mem_of_getElem? (i := 25) rfl
theorem nwX2_158 : (RX2, 158, yX11_mix, "LongYear") ∈ NWl := List.mem_of_getElem? (i := 26) rfl
theorem nwX0_82 : (RX0, 82, yX11_mix, "LongYear") ∈ NWl := List.mem_of_getElem? (i := 27) rfl
theorem zs0 (G : WG) : ((RX7, "NUMBERS", "[I", .ref (gT G 0)) : String × String × String × Value) ∈ ZSl G := List.mem_of_getElem? (i := 0) rfl
theorem zs1 (G : WG) : ((RX7, "LEAST", "[I", .ref (gT G 1)) : String × String × String × Value) ∈ ZSl G := List.mem_of_getElem? (i := 1) rfl
theorem zs2 (G : WG) : ((RX7, "MOST", "[I", .ref (gT G 2)) : String × String × String × Value) ∈ ZSl G := List.mem_of_getElem? (i := 2) rfl
theorem zs3 (G : WG) : (("java/lang/String", "COMPACT_STRINGS", "Z", .int 1) : String × String × String × Value) ∈ ZSl G := List.mem_of_getElem? (i := 3) rfl
theorem zs4 (G : WG) : (("jdk/internal/util/Preconditions", "SIOOBE_FORMATTER", "Ljava/util/function/BiFunction;", va_rf (gZ G)) : String × String × String × Value) ∈ ZSl G := List.mem_of_getElem? (i := 4) rfl
theorem stamthmax : Cond.static Lib.Math.max.name ∈ LW := q586
theorem codmthmax : Cond.code Lib.Math.max.name Lib.Math.max.code 2 (some .int) ∈ LW := q587
theorem stamthmin : Cond.static Lib.Math.min.name ∈ LW := q561
theorem codmthmin : Cond.code Lib.Math.min.name Lib.Math.min.code 2 (some .int) ∈ LW := q562
theorem inimth : Cond.initialized "java/lang/Math" ∈ LW := q18
