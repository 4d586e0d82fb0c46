/-! shares of what is burnt, all of them, further -/
theorem fa_10 : ((List.range 4).all fun i => (List.range (84 + i + 1)).all fun a => chk1 a (84 + i)) = true := by decide +kernel
theorem fa_11 : ((List.range 4).all fun i => (List.range (88 + i + 1)).all fun a => chk1 a (88 + i)) = true := by decide +kernel
theorem fa_12 : ((List.range 4).all fun i => (List.range (92 + i + 1)).all fun a => chk1 a (92 + i)) = true := by decide +kernel
theorem fa_13 : ((List.range 4).all fun i => (List.range (96 + i + 1)).all fun a => chk1 a (96 + i)) = true := by decide +kernel
theorem fa_14 : ((List.range 4).all fun i => (List.range (100 + i + 1)).all fun a => chk1 a (100 + i)) = true := by decide +kernel
theorem fa_15 : ((List.range 4).all fun i => (List.range (104 + i + 1)).all fun a => chk1 a (104 + i)) = true := by decide +kernel
theorem fa_16 : ((List.range 3).all fun i => (List.range (108 + i + 1)).all fun a => chk1 a (108 + i)) = true := by decide +kernel
theorem fa_17 : ((List.range 3).all fun i => (List.range (111 + i + 1)).all fun a => chk1 a (111 + i)) = true := by decide +kernel
theorem fa_18 : ((List.range 3).all fun i => (List.range (114 + i + 1)).all fun a => chk1 a (114 + i)) = true := by decide +kernel
theorem fa_19 : ((List.range 3).all fun i => (List.range (117 + i + 1)).all fun a => chk1 a (117 + i)) = true := by decide +kernel
theorem fa_20 : ((List.range 1).all fun i => (List.range (120 + i + 1)).all fun a => chk1 a (120 + i)) = true := by decide +kernel

