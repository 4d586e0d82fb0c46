/-! shares of what is burnt, all of them -/
theorem fa_0 : ((List.range 25).all fun i => (List.range (1 + i + 1)).all fun a => chk1 a (1 + i)) = true := by decide +kernel
theorem fa_1 : ((List.range 11).all fun i => (List.range (26 + i + 1)).all fun a => chk1 a (26 + i)) = true := by decide +kernel
theorem fa_2 : ((List.range 8).all fun i => (List.range (37 + i + 1)).all fun a => chk1 a (37 + i)) = true := by decide +kernel
theorem fa_3 : ((List.range 7).all fun i => (List.range (45 + i + 1)).all fun a => chk1 a (45 + i)) = true := by decide +kernel
theorem fa_4 : ((List.range 6).all fun i => (List.range (52 + i + 1)).all fun a => chk1 a (52 + i)) = true := by decide +kernel
theorem fa_5 : ((List.range 6).all fun i => (List.range (58 + i + 1)).all fun a => chk1 a (58 + i)) = true := by decide +kernel
theorem fa_6 : ((List.range 5).all fun i => (List.range (64 + i + 1)).all fun a => chk1 a (64 + i)) = true := by decide +kernel
theorem fa_7 : ((List.range 5).all fun i => (List.range (69 + i + 1)).all fun a => chk1 a (69 + i)) = true := by decide +kernel
theorem fa_8 : ((List.range 5).all fun i => (List.range (74 + i + 1)).all fun a => chk1 a (74 + i)) = true := by decide +kernel
theorem fa_9 : ((List.range 5).all fun i => (List.range (79 + i + 1)).all fun a => chk1 a (79 + i)) = true := by decide +kernel

