/-! fractions: all together -/
theorem chk1_all {a s : Nat} (h1 : 1 ≤ s) (h2 : s ≤ 120) (ha : a ≤ s) : chk1 a s = true := by
  have key : ∀ lo n : Nat, ((List.range n).all fun i => (List.range (lo + i + 1)).all fun a => chk1 a (lo + i)) = true → lo ≤ s → s < lo + n → chk1 a s = true := fun lo n h g1 g2 => by
    have h3 := List.all_eq_true.mp (List.all_eq_true.mp h (s - lo) (List.mem_range.mpr (by omega))) a (List.mem_range.mpr (by omega))
    rw [show lo + (s - lo) = s by omega] at h3
    exact h3
  by_cases q0 : s < 26
  · exact key 1 25 fa_0 (by omega) q0
  by_cases q1 : s < 37
  · exact key 26 11 fa_1 (by omega) q1
  by_cases q2 : s < 45
  · exact key 37 8 fa_2 (by omega) q2
  by_cases q3 : s < 52
  · exact key 45 7 fa_3 (by omega) q3
  by_cases q4 : s < 58
  · exact key 52 6 fa_4 (by omega) q4
  by_cases q5 : s < 64
  · exact key 58 6 fa_5 (by omega) q5
  by_cases q6 : s < 69
  · exact key 64 5 fa_6 (by omega) q6
  by_cases q7 : s < 74
  · exact key 69 5 fa_7 (by omega) q7
  by_cases q8 : s < 79
  · exact key 74 5 fa_8 (by omega) q8
  by_cases q9 : s < 84
  · exact key 79 5 fa_9 (by omega) q9
  by_cases q10 : s < 88
  · exact key 84 4 fa_10 (by omega) q10
  by_cases q11 : s < 92
  · exact key 88 4 fa_11 (by omega) q11
  by_cases q12 : s < 96
  · exact key 92 4 fa_12 (by omega) q12
  by_cases q13 : s < 100
  · exact key 96 4 fa_13 (by omega) q13
  by_cases q14 : s < 104
  · exact key 100 4 fa_14 (by omega) q14
  by_cases q15 : s < 108
  · exact key 104 4 fa_15 (by omega) q15
  by_cases q16 : s < 111
  · exact key 108 3 fa_16 (by omega) q16
  by_cases q17 : s < 114
  · exact key 111 3 fa_17 (by omega) q17
  by_cases q18 : s < 117
  · exact key 114 3 fa_18 (by omega) q18
  by_cases q19 : s < 120
  · exact key 117 3 fa_19 (by omega) q19
  exact key 120 1 fa_20 (by omega) (by omega)
def rooms : List Nat := [1, 2, 3, 4, 5, 6, 7, 8, 9, 10, 11, 12, 13, 14, 15, 16, 17, 18, 19, 20, 21, 22, 24, 25, 26, 27, 28, 30, 32, 33, 34, 35, 36, 38, 39, 40, 42, 44, 45, 48, 50, 51, 52, 54, 55, 56, 57, 60, 64, 65, 68, 70, 72, 75, 76, 80, 85, 90, 95, 100]
theorem rooms_all : ∀ i, i < 20 → ∀ j, j < 5 → rooms.contains ((i + 1) * (j + 1)) = true := by decide +kernel
theorem chk2_all {a r : Nat} (hr : r ∈ rooms) (ha : a ≤ 120) : chk2 a r = true := by
  have key : ∀ l : List Nat, (l.all fun r => (List.range 121).all fun a => chk2 a r) = true → r ∈ l → chk2 a r = true := fun l h g => List.all_eq_true.mp (List.all_eq_true.mp h r g) a (List.mem_range.mpr (by omega))
  have hs : rooms = ([1, 2, 3] : List Nat) ++ ([4, 5, 6] : List Nat) ++ ([7, 8, 9] : List Nat) ++ ([10, 11, 12] : List Nat) ++ ([13, 14, 15] : List Nat) ++ ([16, 17, 18] : List Nat) ++ ([19, 20, 21] : List Nat) ++ ([22, 24, 25] : List Nat) ++ ([26, 27, 28] : List Nat) ++ ([30, 32, 33] : List Nat) ++ ([34, 35, 36] : List Nat) ++ ([38, 39, 40] : List Nat) ++ ([42, 44, 45] : List Nat) ++ ([48, 50, 51] : List Nat) ++ ([52, 54, 55] : List Nat) ++ ([56, 57, 60] : List Nat) ++ ([64, 65, 68] : List Nat) ++ ([70, 72, 75] : List Nat) ++ ([76, 80, 85] : List Nat) ++ ([90, 95, 100] : List Nat) := rfl
  rw [hs] at hr
  simp only [List.mem_append] at hr
  rcases hr with ((((((((((((((((((h0 | h1) | h2) | h3) | h4) | h5) | h6) | h7) | h8) | h9) | h10) | h11) | h12) | h13) | h14) | h15) | h16) | h17) | h18) | h19
  · exact key _ fb_0 h0
  · exact key _ fb_1 h1
  · exact key _ fb_2 h2
  · exact key _ fb_3 h3
  · exact key _ fb_4 h4
  · exact key _ fb_5 h5
  · exact key _ fb_6 h6
  · exact key _ fb_7 h7
  · exact key _ fb_8 h8
  · exact key _ fb_9 h9
  · exact key _ fb_10 h10
  · exact key _ fb_11 h11
  · exact key _ fb_12 h12
  · exact key _ fb_13 h13
  · exact key _ fb_14 h14
  · exact key _ fb_15 h15
  · exact key _ fb_16 h16
  · exact key _ fb_17 h17
  · exact key _ fb_18 h18
  · exact key _ fb_19 h19

