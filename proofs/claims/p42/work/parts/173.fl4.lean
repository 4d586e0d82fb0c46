/-! fullnesses, all of them -/
theorem fb_0 : (([1, 2, 3] : List Nat).all fun r => (List.range 121).all fun a => chk2 a r) = true := by decide +kernel
theorem fb_1 : (([4, 5, 6] : List Nat).all fun r => (List.range 121).all fun a => chk2 a r) = true := by decide +kernel
theorem fb_2 : (([7, 8, 9] : List Nat).all fun r => (List.range 121).all fun a => chk2 a r) = true := by decide +kernel
theorem fb_3 : (([10, 11, 12] : List Nat).all fun r => (List.range 121).all fun a => chk2 a r) = true := by decide +kernel
theorem fb_4 : (([13, 14, 15] : List Nat).all fun r => (List.range 121).all fun a => chk2 a r) = true := by decide +kernel
theorem fb_5 : (([16, 17, 18] : List Nat).all fun r => (List.range 121).all fun a => chk2 a r) = true := by decide +kernel
theorem fb_6 : (([19, 20, 21] : List Nat).all fun r => (List.range 121).all fun a => chk2 a r) = true := by decide +kernel
theorem fb_7 : (([22, 24, 25] : List Nat).all fun r => (List.range 121).all fun a => chk2 a r) = true := by decide +kernel
theorem fb_8 : (([26, 27, 28] : List Nat).all fun r => (List.range 121).all fun a => chk2 a r) = true := by decide +kernel
theorem fb_9 : (([30, 32, 33] : List Nat).all fun r => (List.range 121).all fun a => chk2 a r) = true := by decide +kernel
theorem fb_10 : (([34, 35, 36] : List Nat).all fun r => (List.range 121).all fun a => chk2 a r) = true := by decide +kernel
theorem fb_11 : (([38, 39, 40] : List Nat).all fun r => (List.range 121).all fun a => chk2 a r) = true := by decide +kernel
theorem fb_12 : (([42, 44, 45] : List Nat).all fun r => (List.range 121).all fun a => chk2 a r) = true := by decide +kernel
theorem fb_13 : (([48, 50, 51] : List Nat).all fun r => (List.range 121).all fun a => chk2 a r) = true := by decide +kernel
theorem fb_14 : (([52, 54, 55] : List Nat).all fun r => (List.range 121).all fun a => chk2 a r) = true := by decide +kernel
theorem fb_15 : (([56, 57, 60] : List Nat).all fun r => (List.range 121).all fun a => chk2 a r) = true := by decide +kernel
theorem fb_16 : (([64, 65, 68] : List Nat).all fun r => (List.range 121).all fun a => chk2 a r) = true := by decide +kernel
theorem fb_17 : (([70, 72, 75] : List Nat).all fun r => (List.range 121).all fun a => chk2 a r) = true := by decide +kernel
theorem fb_18 : (([76, 80, 85] : List Nat).all fun r => (List.range 121).all fun a => chk2 a r) = true := by decide +kernel
theorem fb_19 : (([90, 95, 100] : List Nat).all fun r => (List.range 121).all fun a => chk2 a r) = true := by decide +kernel

