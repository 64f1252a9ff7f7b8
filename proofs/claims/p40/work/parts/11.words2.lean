/-! constants by their numbers; nest mates' links; statics -/
theorem kcJ6_265 : Cond.constant RJ6 265 (zI (1431655765)) ∈ LW := by rw [show zI (1431655765) = (1431655765 : Int32) from rfl]; exact q589
theorem kcJ6_266 : Cond.constant RJ6 266 (zI (858993459)) ∈ LW := by rw [show zI (858993459) = (858993459 : Int32) from rfl]; exact q590
theorem kcJ6_267 : Cond.constant RJ6 267 (zI (252645135)) ∈ LW := by rw [show zI (252645135) = (252645135 : Int32) from rfl]; exact q591
theorem kcX11_206 : Cond.constant RX11 206 (zI (-100000)) ∈ LW := by rw [show zI (-100000) = (-100000 : Int32) from rfl]; exact q621
theorem kcJ6_264 : Cond.constant RJ6 264 (zI (65536)) ∈ LW := by rw [show zI (65536) = (65536 : Int32) from rfl]; exact q643
theorem kcX11_235 : Cond.constant RX11 235 (zI (999999)) ∈ LW := by rw [show zI (999999) = (999999 : Int32) from rfl]; exact q654
theorem kcX11_236 : Cond.constantLong RX11 236 (zL (1103515245)) ∈ LW := by rw [show zL (1103515245) = (1103515245 : Int64) from rfl]; exact q655
theorem kcX11_238 : Cond.constantLong RX11 238 (zL (12345)) ∈ LW := by rw [show zL (12345) = (12345 : Int64) from rfl]; exact q656
theorem kcX11_240 : Cond.constantLong RX11 240 (zL (2147483648)) ∈ LW := by rw [show zL (2147483648) = (2147483648 : Int64) from rfl]; exact q657
theorem kcX11_242 : Cond.constantLong RX11 242 (zL (65536)) ∈ LW := by rw [show zL (65536) = (65536 : Int64) from rfl]; exact q658
theorem kcL_7 : Cond.constant RL 7 (zI (1327217884)) ∈ LW := by rw [show zI (1327217884) = (1327217884 : Int32) from rfl]; exact q695
theorem kcL_8 : Cond.constant RL 8 (zI (2147483647)) ∈ LW := by rw [show zI (2147483647) = (2147483647 : Int32) from rfl]; exact q699
theorem kcL_97 : Cond.constant RL 97 (zI (1000000)) ∈ LW := by rw [show zI (1000000) = (1000000 : Int32) from rfl]; exact q748
theorem nwX11_9 : (RX11, 9, yX7_init, "LongYear") ∈ NWl := List.mem_of_getElem? (i := 0) rfl
theorem nwX11_22 : (RX11, 22, yX3_init, "LongYear") ∈ NWl := List.mem_of_getElem? (i := 1) rfl
theorem nwX11_25 : (RX11, 25, yX9_init, "LongYear") ∈ NWl := List.mem_of_getElem? (i := 2) rfl
theorem nwX9_1 : (RX9, 1, yX3_init, "LongYear") ∈ NWl := List.mem_of_getElem? (i := 3) rfl
theorem nwX11_28 : (RX11, 28, yX4_init, "LongYear") ∈ NWl := List.mem_of_getElem? (i := 4) rfl
theorem nwX4_1 : (RX4, 1, yX3_init, "LongYear") ∈ NWl := List.mem_of_getElem? (i := 5) rfl
theorem nwX11_31 : (RX11, 31, yX6_init, "LongYear") ∈ NWl := List.mem_of_getElem? (i := 6) rfl
theorem nwX6_1 : (RX6, 1, yX3_init, "LongYear") ∈ NWl := List.mem_of_getElem? (i := 7) rfl
theorem nwX11_34 : (RX11, 34, yX8_init, "LongYear") ∈ NWl := List.mem_of_getElem? (i := 8) rfl
theorem nwX8_1 : (RX8, 1, yX4_init, "LongYear") ∈ NWl := List.mem_of_getElem? (i := 9) rfl
theorem nwX5_11 : (RX5, 11, yX0_init, "LongYear") ∈ NWl := List.mem_of_getElem? (i := 10) rfl
theorem nwX2_23 : (RX2, 23, yX3_init, "LongYear") ∈ NWl := List.mem_of_getElem? (i := 11) rfl
theorem nwX5_55 : (RX5, 55, yX11_leftOver, "LongYear") ∈ NWl := List.mem_of_getElem? (i := 12) rfl
theorem nwX5_51 : (RX5, 51, yX11_farmAt, "LongYear") ∈ NWl := List.mem_of_getElem? (i := 13) rfl
theorem nwX2_90 : (RX2, 90, yX11_leftOver, "LongYear") ∈ NWl := List.mem_of_getElem? (i := 14) rfl
theorem nwX2_130 : (RX2, 130, yX11_stored, "LongYear") ∈ NWl := List.mem_of_getElem? (i := 15) rfl
theorem nwX10_82 : (RX10, 82, yX11_copy, "LongYear") ∈ NWl := List.mem_of_getElem? (i := 16) rfl
theorem nwX10_56 : (RX10, 56, yX11_farmAt, "LongYear") ∈ NWl := List.mem_of_getElem? (i := 17) rfl
theorem nwX10_67 : (RX10, 67, yX11_put, "LongYear") ∈ NWl := List.mem_of_getElem? (i := 18) rfl
theorem nwX10_45 : (RX10, 45, yX11_at, "LongYear") ∈ NWl := List.mem_of_getElem? (i := 19) rfl
theorem nwX0_50 : (RX0, 50, yX11_put, "LongYear") ∈ NWl := List.mem_of_getElem? (i := 20) rfl
theorem nwX0_54 : (RX0, 54, yX11_at, "LongYear") ∈ NWl := List.mem_of_getElem? (i := 21) rfl
theorem nwX0_46 : (RX0, 46, yX11_copy, "LongYear") ∈ NWl := List.mem_of_getElem? (i := 22) rfl
theorem stamthmax : Cond.static Lib.Math.max.name ∈ LW := q397
theorem codmthmax : Cond.code Lib.Math.max.name Lib.Math.max.code 2 (some .int) ∈ LW := q398
theorem stamthmin : Cond.static Lib.Math.min.name ∈ LW := q356
theorem codmthmin : Cond.code Lib.Math.min.name Lib.Math.min.code 2 (some .int) ∈ LW := q357
theorem inimth : Cond.initialized "java/lang/Math" ∈ LW := q13

