/-! what holds of the world that the constructors leave -/
theorem i_g : (w1.1 9 0 0 = 0 ∧ w1.1 9 0 1 = 0 ∧ w1.1 9 0 7 = 0 ∧ w1.1 9 0 8 = 4 ∧ w1.1 9 0 9 = 0) := by decide +kernel
theorem i_b : ∀ b, b < 12 → w1.1 9 0 (10 + b) = -1 := by decide +kernel
theorem i_26 : ∀ j, j < 5 → w1.1 9 0 (2 + j) = 0 := by decide +kernel
theorem i_c0 : ∀ c, c < 5 → zC (w1.1 9 0) c 0 = if c < 2 then 1 else 0 := by decide +kernel
theorem i_c : ∀ c, c < 5 → ∀ k, k < 6 → k ≠ 0 → zC (w1.1 9 0) c k = if k = 2 then -1 else 0 := by decide +kernel
theorem i_h : ∀ c, c < 5 → ∀ h, h < 3 → ∀ k, k < 3 → zH (w1.1 9 0) c h k = if k = 0 then 0 else -1 := by decide +kernel
theorem i_f : w1.2.1 0 0 = 0 ∧ w1.2.1 0 1 = 4 ∧ (∀ j, j < 7 → w1.2.1 0 (2 + j) = 0) := by decide +kernel
theorem i_r0 : ∀ b, b < 12 → w1.1 0 0 b = -1 := by decide +kernel
theorem i_r6 : ∀ c, c < 5 → w1.1 0 6 c = if c < 2 then 1 else 0 := by decide +kernel
theorem i_r7 : ∀ c, c < 5 → w1.1 0 7 c = -1 ∧ w1.1 0 8 c = 0 ∧ w1.1 0 9 c = 0 ∧ w1.1 0 10 c = 0 ∧ w1.1 0 11 c = 0 := by decide +kernel
theorem i_r13 : ∀ i, i < 15 → w1.1 0 13 i = -1 ∧ w1.1 0 14 i = -1 ∧ w1.1 0 15 i = -1 := by decide +kernel
theorem i_m : w1.2.1 8 0 = 0 ∧ w1.2.1 8 1 = 0 ∧ w1.2.1 8 2 = 0 ∧ w1.2.1 8 3 = 0 ∧ w1.2.1 9 1 = 0 ∧ w1.2.1 9 2 = 0 ∧ w1.2.1 9 3 = 0 := by decide +kernel
theorem inv_w2 : INV w2 0 0 := by
  unfold w2
  exact inv_out w1 i_g.1 i_g.2.1 i_g.2.2.1 i_g.2.2.2.1 i_g.2.2.2.2 i_b i_26 i_c0 i_c i_h i_f.1 i_f.2.1 i_f.2.2 i_r0 i_r6 (fun c hc => (i_r7 c hc).1) (fun c hc => (i_r7 c hc).2.1) (fun c hc => (i_r7 c hc).2.2.1) (fun c hc => (i_r7 c hc).2.2.2.1) (fun c hc => (i_r7 c hc).2.2.2.2) (fun i hi => (i_r13 i hi).1) (fun i hi => (i_r13 i hi).2.1) (fun i hi => (i_r13 i hi).2.2) i_m.1 i_m.2.1 i_m.2.2.1 i_m.2.2.2.1 i_m.2.2.2.2.1 i_m.2.2.2.2.2.1 i_m.2.2.2.2.2.2
