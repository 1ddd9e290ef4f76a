-- THE START, 1 (printed by wip/gen/start.py)
theorem st_r {k : Nat} (h : k < 108) : k ∈ [0, 1, 2, 3, 4, 5, 6, 7, 8, 9, 10, 11, 12, 13, 14, 15, 16, 17, 18, 19, 20, 21, 22, 23, 24, 25, 26, 27, 28, 29, 30, 31, 32, 33, 34, 35, 36, 37, 38, 39, 40, 41, 42, 43, 44, 45, 46, 47, 48, 49, 50, 51, 52, 53, 54, 55, 56, 57, 58, 59, 60, 61, 62, 63, 64, 65, 66, 67, 68, 69, 70, 71, 72, 73, 74, 75, 76, 77, 78, 79, 80, 81, 82, 83, 84, 85, 86, 87, 88, 89, 90, 91, 92, 93, 94, 95, 96, 97, 98, 99, 100, 101, 102, 103, 104, 105, 106, 107] := by
  have h9 : List.range 108 = [0, 1, 2, 3, 4, 5, 6, 7, 8, 9, 10, 11, 12, 13, 14, 15, 16, 17, 18, 19, 20, 21, 22, 23, 24, 25, 26, 27, 28, 29, 30, 31, 32, 33, 34, 35, 36, 37, 38, 39, 40, 41, 42, 43, 44, 45, 46, 47, 48, 49, 50, 51, 52, 53, 54, 55, 56, 57, 58, 59, 60, 61, 62, 63, 64, 65, 66, 67, 68, 69, 70, 71, 72, 73, 74, 75, 76, 77, 78, 79, 80, 81, 82, 83, 84, 85, 86, 87, 88, 89, 90, 91, 92, 93, 94, 95, 96, 97, 98, 99, 100, 101, 102, 103, 104, 105, 106, 107] := by decide +kernel
  rw [← h9]
  exact List.mem_range.mpr h
theorem st_cons {α : Type} {a b : α} {l m : List α} (h : a = b) (k : l = m) : a :: l = b :: m := by rw [h, k]
theorem st_ai (ca : Nat → ClassId) (ad : Nat → Nat) {k t n : Nat} (hk : ax_kd k = (t, n)) (h1 : t = 1 ∨ t = 2 ∨ t = 3) (hz : in0 k = fun _ => 0) : ax_ce ca ad in0 k = .inl (ca k, n, .inl fun _ => 0) := by
  unfold ax_ce
  rw [hk, hz]
  rcases h1 with rfl | rfl | rfl <;> rfl
theorem st_al (ca : Nat → ClassId) (ad : Nat → Nat) {k n : Nat} (hk : ax_kd k = (4, n)) (hz : in0 k = fun _ => 0) : ax_ce ca ad in0 k = .inl (ca k, n, .inr (.inl fun _ => 0)) := by
  unfold ax_ce
  rw [hk, hz]
  rfl
theorem st_z {k : Nat} (h : ¬ (k = 4 ∨ k = 25 ∨ k = 31 ∨ k = 1 ∨ k = 35 ∨ k = 51 ∨ k = 0 ∨ k = 67 ∨ k = 90 ∨ k = 91)) : in0 k = fun _ => 0 := in0_z (by omega) (by omega) (by omega) (by omega) (by omega) (by omega)
set_option maxRecDepth 100000 in
theorem st_c0 (ca : Nat → ClassId) (ad : Nat → Nat) : ax_ce ca ad in0 0 = .inr (8, [.ref (ad 1), .ref (ad 3), .ref (ad 14), .ref (ad 16), .ref (ad 19), .ref (ad 31), .ref (ad 34), .int 0, .ref (ad 35), .ref (ad 51), .int 0]) := by rfl
set_option maxRecDepth 100000 in
theorem st_c1 (ca : Nat → ClassId) (ad : Nat → Nat) : ax_ce ca ad in0 1 = .inr (5, [.ref (ad 2), .int 0, .int 0, .int (-1), .int 0, .int 0, .int 0, .long 0, .int 0, .int 0]) := by rfl
theorem st_c2 (ca : Nat → ClassId) (ad : Nat → Nat) : ax_ce ca ad in0 2 = .inl (ca 2, 1600, .inl fun _ => 0) := st_ai ca ad (t := 2) (by decide +kernel) (Or.inr (Or.inl rfl)) (st_z (by decide))
set_option maxRecDepth 100000 in
theorem st_c3 (ca : Nat → ClassId) (ad : Nat → Nat) : ax_ce ca ad in0 3 = .inr (4, [.ref (ad 4), .ref (ad 7), .ref (ad 8), .ref (ad 9), .ref (ad 10), .ref (ad 11), .ref (ad 12), .ref (ad 13), .int 0, .int 0]) := by rfl
set_option maxRecDepth 100000 in
theorem st_c4 (ca : Nat → ClassId) (ad : Nat → Nat) : ax_ce ca ad in0 4 = .inr (7, [.ref (ad 5), .ref (ad 6), .int (-1), .int 0, .int 0, .int 0]) := by rfl
theorem st_c5 (ca : Nat → ClassId) (ad : Nat → Nat) : ax_ce ca ad in0 5 = .inl (ca 5, 6, .inl fun _ => 0) := st_ai ca ad (t := 1) (by decide +kernel) (Or.inl rfl) (st_z (by decide))
theorem st_c6 (ca : Nat → ClassId) (ad : Nat → Nat) : ax_ce ca ad in0 6 = .inl (ca 6, 6, .inl fun _ => 0) := st_ai ca ad (t := 1) (by decide +kernel) (Or.inl rfl) (st_z (by decide))
theorem st_c7 (ca : Nat → ClassId) (ad : Nat → Nat) : ax_ce ca ad in0 7 = .inl (ca 7, 12, .inl fun _ => 0) := st_ai ca ad (t := 1) (by decide +kernel) (Or.inl rfl) (st_z (by decide))
theorem st_c8 (ca : Nat → ClassId) (ad : Nat → Nat) : ax_ce ca ad in0 8 = .inl (ca 8, 12, .inl fun _ => 0) := st_ai ca ad (t := 1) (by decide +kernel) (Or.inl rfl) (st_z (by decide))
theorem st_c9 (ca : Nat → ClassId) (ad : Nat → Nat) : ax_ce ca ad in0 9 = .inl (ca 9, 6, .inl fun _ => 0) := st_ai ca ad (t := 1) (by decide +kernel) (Or.inl rfl) (st_z (by decide))
theorem st_c10 (ca : Nat → ClassId) (ad : Nat → Nat) : ax_ce ca ad in0 10 = .inl (ca 10, 384, .inl fun _ => 0) := st_ai ca ad (t := 1) (by decide +kernel) (Or.inl rfl) (st_z (by decide))
theorem st_c11 (ca : Nat → ClassId) (ad : Nat → Nat) : ax_ce ca ad in0 11 = .inl (ca 11, 100, .inl fun _ => 0) := st_ai ca ad (t := 1) (by decide +kernel) (Or.inl rfl) (st_z (by decide))
theorem st_c12 (ca : Nat → ClassId) (ad : Nat → Nat) : ax_ce ca ad in0 12 = .inl (ca 12, 6, .inl fun _ => 0) := st_ai ca ad (t := 1) (by decide +kernel) (Or.inl rfl) (st_z (by decide))
theorem st_c13 (ca : Nat → ClassId) (ad : Nat → Nat) : ax_ce ca ad in0 13 = .inl (ca 13, 6, .inl fun _ => 0) := st_ai ca ad (t := 1) (by decide +kernel) (Or.inl rfl) (st_z (by decide))
set_option maxRecDepth 100000 in
theorem st_c14 (ca : Nat → ClassId) (ad : Nat → Nat) : ax_ce ca ad in0 14 = .inr (3, [.ref (ad 15), .int 0, .int 0, .int 0]) := by rfl
theorem st_c15 (ca : Nat → ClassId) (ad : Nat → Nat) : ax_ce ca ad in0 15 = .inl (ca 15, 656, .inl fun _ => 0) := st_ai ca ad (t := 1) (by decide +kernel) (Or.inl rfl) (st_z (by decide))
set_option maxRecDepth 100000 in
theorem st_c16 (ca : Nat → ClassId) (ad : Nat → Nat) : ax_ce ca ad in0 16 = .inr (0, [.ref (ad 17), .ref (ad 18)]) := by rfl
theorem st_c17 (ca : Nat → ClassId) (ad : Nat → Nat) : ax_ce ca ad in0 17 = .inl (ca 17, 48, .inl fun _ => 0) := st_ai ca ad (t := 1) (by decide +kernel) (Or.inl rfl) (st_z (by decide))
theorem st_c18 (ca : Nat → ClassId) (ad : Nat → Nat) : ax_ce ca ad in0 18 = .inl (ca 18, 3, .inl fun _ => 0) := st_ai ca ad (t := 3) (by decide +kernel) (Or.inr (Or.inr rfl)) (st_z (by decide))
set_option maxRecDepth 100000 in
theorem st_c19 (ca : Nat → ClassId) (ad : Nat → Nat) : ax_ce ca ad in0 19 = .inr (6, [.ref (ad 20), .ref (ad 21), .ref (ad 22), .ref (ad 23), .ref (ad 24), .ref (ad 25), .ref (ad 28), .ref (ad 29), .ref (ad 30), .int 0, .int 0]) := by rfl
theorem st_c20 (ca : Nat → ClassId) (ad : Nat → Nat) : ax_ce ca ad in0 20 = .inl (ca 20, 30, .inl fun _ => 0) := st_ai ca ad (t := 1) (by decide +kernel) (Or.inl rfl) (st_z (by decide))
theorem st_c21 (ca : Nat → ClassId) (ad : Nat → Nat) : ax_ce ca ad in0 21 = .inl (ca 21, 30, .inl fun _ => 0) := st_ai ca ad (t := 1) (by decide +kernel) (Or.inl rfl) (st_z (by decide))
theorem st_c22 (ca : Nat → ClassId) (ad : Nat → Nat) : ax_ce ca ad in0 22 = .inl (ca 22, 30, .inl fun _ => 0) := st_ai ca ad (t := 3) (by decide +kernel) (Or.inr (Or.inr rfl)) (st_z (by decide))
theorem st_c23 (ca : Nat → ClassId) (ad : Nat → Nat) : ax_ce ca ad in0 23 = .inl (ca 23, 30, .inl fun _ => 0) := st_ai ca ad (t := 1) (by decide +kernel) (Or.inl rfl) (st_z (by decide))
theorem st_c24 (ca : Nat → ClassId) (ad : Nat → Nat) : ax_ce ca ad in0 24 = .inl (ca 24, 30, .inl fun _ => 0) := st_ai ca ad (t := 1) (by decide +kernel) (Or.inl rfl) (st_z (by decide))
set_option maxRecDepth 100000 in
theorem st_c25 (ca : Nat → ClassId) (ad : Nat → Nat) : ax_ce ca ad in0 25 = .inr (7, [.ref (ad 26), .ref (ad 27), .int (-1), .int 0, .int 0, .int 0]) := by rfl
theorem st_c26 (ca : Nat → ClassId) (ad : Nat → Nat) : ax_ce ca ad in0 26 = .inl (ca 26, 6, .inl fun _ => 0) := st_ai ca ad (t := 1) (by decide +kernel) (Or.inl rfl) (st_z (by decide))
theorem st_c27 (ca : Nat → ClassId) (ad : Nat → Nat) : ax_ce ca ad in0 27 = .inl (ca 27, 6, .inl fun _ => 0) := st_ai ca ad (t := 1) (by decide +kernel) (Or.inl rfl) (st_z (by decide))
theorem st_c28 (ca : Nat → ClassId) (ad : Nat → Nat) : ax_ce ca ad in0 28 = .inl (ca 28, 1000, .inl fun _ => 0) := st_ai ca ad (t := 2) (by decide +kernel) (Or.inr (Or.inl rfl)) (st_z (by decide))
theorem st_c29 (ca : Nat → ClassId) (ad : Nat → Nat) : ax_ce ca ad in0 29 = .inl (ca 29, 100, .inl fun _ => 0) := st_ai ca ad (t := 3) (by decide +kernel) (Or.inr (Or.inr rfl)) (st_z (by decide))
theorem st_c30 (ca : Nat → ClassId) (ad : Nat → Nat) : ax_ce ca ad in0 30 = .inl (ca 30, 7, .inl fun _ => 0) := st_ai ca ad (t := 1) (by decide +kernel) (Or.inl rfl) (st_z (by decide))
set_option maxRecDepth 100000 in
theorem st_c31 (ca : Nat → ClassId) (ad : Nat → Nat) : ax_ce ca ad in0 31 = .inr (7, [.ref (ad 32), .ref (ad 33), .int (-1), .int 0, .int 0, .int 0]) := by rfl
theorem st_c32 (ca : Nat → ClassId) (ad : Nat → Nat) : ax_ce ca ad in0 32 = .inl (ca 32, 6, .inl fun _ => 0) := st_ai ca ad (t := 1) (by decide +kernel) (Or.inl rfl) (st_z (by decide))
theorem st_c33 (ca : Nat → ClassId) (ad : Nat → Nat) : ax_ce ca ad in0 33 = .inl (ca 33, 6, .inl fun _ => 0) := st_ai ca ad (t := 1) (by decide +kernel) (Or.inl rfl) (st_z (by decide))
theorem st_c34 (ca : Nat → ClassId) (ad : Nat → Nat) : ax_ce ca ad in0 34 = .inl (ca 34, 6, .inl fun _ => 0) := st_ai ca ad (t := 1) (by decide +kernel) (Or.inl rfl) (st_z (by decide))
set_option maxRecDepth 100000 in
theorem st_c35 (ca : Nat → ClassId) (ad : Nat → Nat) : ax_ce ca ad in0 35 = .inr (1, [.ref (ad 36), .ref (ad 37), .ref (ad 38), .ref (ad 39), .ref (ad 40), .ref (ad 41), .ref (ad 42), .ref (ad 43), .ref (ad 47), .int 0, .int 0, .int 0, .int 1, .int 0, .int 0, .int 0, .int 0]) := by rfl
theorem st_c36 (ca : Nat → ClassId) (ad : Nat → Nat) : ax_ce ca ad in0 36 = .inl (ca 36, 6, .inr (.inl fun _ => 0)) := st_al ca ad (by decide +kernel) (st_z (by decide))
theorem st_c37 (ca : Nat → ClassId) (ad : Nat → Nat) : ax_ce ca ad in0 37 = .inl (ca 37, 6, .inl fun _ => 0) := st_ai ca ad (t := 1) (by decide +kernel) (Or.inl rfl) (st_z (by decide))
theorem st_c38 (ca : Nat → ClassId) (ad : Nat → Nat) : ax_ce ca ad in0 38 = .inl (ca 38, 6, .inl fun _ => 0) := st_ai ca ad (t := 1) (by decide +kernel) (Or.inl rfl) (st_z (by decide))
theorem st_c39 (ca : Nat → ClassId) (ad : Nat → Nat) : ax_ce ca ad in0 39 = .inl (ca 39, 6, .inl fun _ => 0) := st_ai ca ad (t := 1) (by decide +kernel) (Or.inl rfl) (st_z (by decide))
theorem st_c40 (ca : Nat → ClassId) (ad : Nat → Nat) : ax_ce ca ad in0 40 = .inl (ca 40, 6, .inl fun _ => 0) := st_ai ca ad (t := 1) (by decide +kernel) (Or.inl rfl) (st_z (by decide))
theorem st_c41 (ca : Nat → ClassId) (ad : Nat → Nat) : ax_ce ca ad in0 41 = .inl (ca 41, 6, .inl fun _ => 0) := st_ai ca ad (t := 1) (by decide +kernel) (Or.inl rfl) (st_z (by decide))
theorem st_c42 (ca : Nat → ClassId) (ad : Nat → Nat) : ax_ce ca ad in0 42 = .inl (ca 42, 6, .inl fun _ => 0) := st_ai ca ad (t := 1) (by decide +kernel) (Or.inl rfl) (st_z (by decide))
set_option maxRecDepth 100000 in
theorem st_c43 (ca : Nat → ClassId) (ad : Nat → Nat) : ax_ce ca ad in0 43 = .inr (2, [.ref (ad 44), .ref (ad 45), .ref (ad 46), .int 0, .int 0, .int 0]) := by rfl
theorem st_c44 (ca : Nat → ClassId) (ad : Nat → Nat) : ax_ce ca ad in0 44 = .inl (ca 44, 280, .inl fun _ => 0) := st_ai ca ad (t := 1) (by decide +kernel) (Or.inl rfl) (st_z (by decide))
theorem st_c45 (ca : Nat → ClassId) (ad : Nat → Nat) : ax_ce ca ad in0 45 = .inl (ca 45, 5, .inl fun _ => 0) := st_ai ca ad (t := 1) (by decide +kernel) (Or.inl rfl) (st_z (by decide))
theorem st_c46 (ca : Nat → ClassId) (ad : Nat → Nat) : ax_ce ca ad in0 46 = .inl (ca 46, 30, .inl fun _ => 0) := st_ai ca ad (t := 1) (by decide +kernel) (Or.inl rfl) (st_z (by decide))
set_option maxRecDepth 100000 in
theorem st_c47 (ca : Nat → ClassId) (ad : Nat → Nat) : ax_ce ca ad in0 47 = .inr (2, [.ref (ad 48), .ref (ad 49), .ref (ad 50), .int 0, .int 0, .int 0]) := by rfl
theorem st_c48 (ca : Nat → ClassId) (ad : Nat → Nat) : ax_ce ca ad in0 48 = .inl (ca 48, 280, .inl fun _ => 0) := st_ai ca ad (t := 1) (by decide +kernel) (Or.inl rfl) (st_z (by decide))
theorem st_c49 (ca : Nat → ClassId) (ad : Nat → Nat) : ax_ce ca ad in0 49 = .inl (ca 49, 5, .inl fun _ => 0) := st_ai ca ad (t := 1) (by decide +kernel) (Or.inl rfl) (st_z (by decide))
theorem st_c50 (ca : Nat → ClassId) (ad : Nat → Nat) : ax_ce ca ad in0 50 = .inl (ca 50, 30, .inl fun _ => 0) := st_ai ca ad (t := 1) (by decide +kernel) (Or.inl rfl) (st_z (by decide))
set_option maxRecDepth 100000 in
theorem st_c51 (ca : Nat → ClassId) (ad : Nat → Nat) : ax_ce ca ad in0 51 = .inr (1, [.ref (ad 52), .ref (ad 53), .ref (ad 54), .ref (ad 55), .ref (ad 56), .ref (ad 57), .ref (ad 58), .ref (ad 59), .ref (ad 63), .int 0, .int 0, .int 0, .int 1, .int 0, .int 0, .int 0, .int 0]) := by rfl
theorem st_c52 (ca : Nat → ClassId) (ad : Nat → Nat) : ax_ce ca ad in0 52 = .inl (ca 52, 6, .inr (.inl fun _ => 0)) := st_al ca ad (by decide +kernel) (st_z (by decide))
theorem st_c53 (ca : Nat → ClassId) (ad : Nat → Nat) : ax_ce ca ad in0 53 = .inl (ca 53, 6, .inl fun _ => 0) := st_ai ca ad (t := 1) (by decide +kernel) (Or.inl rfl) (st_z (by decide))
theorem st_c54 (ca : Nat → ClassId) (ad : Nat → Nat) : ax_ce ca ad in0 54 = .inl (ca 54, 6, .inl fun _ => 0) := st_ai ca ad (t := 1) (by decide +kernel) (Or.inl rfl) (st_z (by decide))
theorem st_c55 (ca : Nat → ClassId) (ad : Nat → Nat) : ax_ce ca ad in0 55 = .inl (ca 55, 6, .inl fun _ => 0) := st_ai ca ad (t := 1) (by decide +kernel) (Or.inl rfl) (st_z (by decide))
theorem st_c56 (ca : Nat → ClassId) (ad : Nat → Nat) : ax_ce ca ad in0 56 = .inl (ca 56, 6, .inl fun _ => 0) := st_ai ca ad (t := 1) (by decide +kernel) (Or.inl rfl) (st_z (by decide))
theorem st_c57 (ca : Nat → ClassId) (ad : Nat → Nat) : ax_ce ca ad in0 57 = .inl (ca 57, 6, .inl fun _ => 0) := st_ai ca ad (t := 1) (by decide +kernel) (Or.inl rfl) (st_z (by decide))
theorem st_c58 (ca : Nat → ClassId) (ad : Nat → Nat) : ax_ce ca ad in0 58 = .inl (ca 58, 6, .inl fun _ => 0) := st_ai ca ad (t := 1) (by decide +kernel) (Or.inl rfl) (st_z (by decide))
set_option maxRecDepth 100000 in
theorem st_c59 (ca : Nat → ClassId) (ad : Nat → Nat) : ax_ce ca ad in0 59 = .inr (2, [.ref (ad 60), .ref (ad 61), .ref (ad 62), .int 0, .int 0, .int 0]) := by rfl
theorem st_c60 (ca : Nat → ClassId) (ad : Nat → Nat) : ax_ce ca ad in0 60 = .inl (ca 60, 280, .inl fun _ => 0) := st_ai ca ad (t := 1) (by decide +kernel) (Or.inl rfl) (st_z (by decide))
theorem st_c61 (ca : Nat → ClassId) (ad : Nat → Nat) : ax_ce ca ad in0 61 = .inl (ca 61, 5, .inl fun _ => 0) := st_ai ca ad (t := 1) (by decide +kernel) (Or.inl rfl) (st_z (by decide))
theorem st_c62 (ca : Nat → ClassId) (ad : Nat → Nat) : ax_ce ca ad in0 62 = .inl (ca 62, 30, .inl fun _ => 0) := st_ai ca ad (t := 1) (by decide +kernel) (Or.inl rfl) (st_z (by decide))
set_option maxRecDepth 100000 in
theorem st_c63 (ca : Nat → ClassId) (ad : Nat → Nat) : ax_ce ca ad in0 63 = .inr (2, [.ref (ad 64), .ref (ad 65), .ref (ad 66), .int 0, .int 0, .int 0]) := by rfl
theorem st_c64 (ca : Nat → ClassId) (ad : Nat → Nat) : ax_ce ca ad in0 64 = .inl (ca 64, 280, .inl fun _ => 0) := st_ai ca ad (t := 1) (by decide +kernel) (Or.inl rfl) (st_z (by decide))
theorem st_c65 (ca : Nat → ClassId) (ad : Nat → Nat) : ax_ce ca ad in0 65 = .inl (ca 65, 5, .inl fun _ => 0) := st_ai ca ad (t := 1) (by decide +kernel) (Or.inl rfl) (st_z (by decide))
theorem st_c66 (ca : Nat → ClassId) (ad : Nat → Nat) : ax_ce ca ad in0 66 = .inl (ca 66, 30, .inl fun _ => 0) := st_ai ca ad (t := 1) (by decide +kernel) (Or.inl rfl) (st_z (by decide))
set_option maxRecDepth 100000 in
theorem st_c67 (ca : Nat → ClassId) (ad : Nat → Nat) : ax_ce ca ad in0 67 = .inr (9, [.ref (ad 68), .int 0, .int 0, .int (-1), .int 0, .int 0, .int 0, .int 0, .int 0, .long 0, .ref (ad 69), .ref (ad 70), .ref (ad 71), .ref (ad 72), .ref (ad 73), .ref (ad 74), .ref (ad 75), .ref (ad 76), .ref (ad 77), .ref (ad 78), .int 0, .int 0, .int 0, .int 0, .int 0, .int 0, .ref (ad 79), .ref (ad 80), .ref (ad 81), .ref (ad 82), .ref (ad 83), .ref (ad 84), .ref (ad 85), .ref (ad 86), .ref (ad 87), .ref (ad 88), .ref (ad 89), .int 0, .int 0, .int 0, .int 0, .int 0, .int 0, .int 1, .int 0, .int 0, .ref (ad 90), .ref (ad 91), .ref (ad 92), .ref (ad 93), .int 0, .int 0, .ref (ad 94), .ref (ad 95), .ref (ad 96), .ref (ad 97), .int 0, .int 0, .ref (ad 98), .ref (ad 99), .ref (ad 100), .ref (ad 101), .ref (ad 102), .ref (ad 103), .int 0, .int 0, .ref (ad 104), .ref (ad 105), .ref (ad 106), .ref (ad 107)]) := by rfl
theorem st_c68 (ca : Nat → ClassId) (ad : Nat → Nat) : ax_ce ca ad in0 68 = .inl (ca 68, 1600, .inl fun _ => 0) := st_ai ca ad (t := 1) (by decide +kernel) (Or.inl rfl) (st_z (by decide))
theorem st_c69 (ca : Nat → ClassId) (ad : Nat → Nat) : ax_ce ca ad in0 69 = .inl (ca 69, 6, .inr (.inl fun _ => 0)) := st_al ca ad (by decide +kernel) (st_z (by decide))
theorem st_c70 (ca : Nat → ClassId) (ad : Nat → Nat) : ax_ce ca ad in0 70 = .inl (ca 70, 640, .inl fun _ => 0) := st_ai ca ad (t := 1) (by decide +kernel) (Or.inl rfl) (st_z (by decide))
theorem st_c71 (ca : Nat → ClassId) (ad : Nat → Nat) : ax_ce ca ad in0 71 = .inl (ca 71, 640, .inl fun _ => 0) := st_ai ca ad (t := 1) (by decide +kernel) (Or.inl rfl) (st_z (by decide))
theorem st_c72 (ca : Nat → ClassId) (ad : Nat → Nat) : ax_ce ca ad in0 72 = .inl (ca 72, 2, .inl fun _ => 0) := st_ai ca ad (t := 1) (by decide +kernel) (Or.inl rfl) (st_z (by decide))
theorem st_c73 (ca : Nat → ClassId) (ad : Nat → Nat) : ax_ce ca ad in0 73 = .inl (ca 73, 640, .inl fun _ => 0) := st_ai ca ad (t := 1) (by decide +kernel) (Or.inl rfl) (st_z (by decide))
theorem st_c74 (ca : Nat → ClassId) (ad : Nat → Nat) : ax_ce ca ad in0 74 = .inl (ca 74, 640, .inl fun _ => 0) := st_ai ca ad (t := 1) (by decide +kernel) (Or.inl rfl) (st_z (by decide))
theorem st_c75 (ca : Nat → ClassId) (ad : Nat → Nat) : ax_ce ca ad in0 75 = .inl (ca 75, 2, .inl fun _ => 0) := st_ai ca ad (t := 1) (by decide +kernel) (Or.inl rfl) (st_z (by decide))
theorem st_c76 (ca : Nat → ClassId) (ad : Nat → Nat) : ax_ce ca ad in0 76 = .inl (ca 76, 160, .inl fun _ => 0) := st_ai ca ad (t := 1) (by decide +kernel) (Or.inl rfl) (st_z (by decide))
theorem st_c77 (ca : Nat → ClassId) (ad : Nat → Nat) : ax_ce ca ad in0 77 = .inl (ca 77, 64, .inl fun _ => 0) := st_ai ca ad (t := 1) (by decide +kernel) (Or.inl rfl) (st_z (by decide))
theorem st_c78 (ca : Nat → ClassId) (ad : Nat → Nat) : ax_ce ca ad in0 78 = .inl (ca 78, 2, .inl fun _ => 0) := st_ai ca ad (t := 3) (by decide +kernel) (Or.inr (Or.inr rfl)) (st_z (by decide))
theorem st_c79 (ca : Nat → ClassId) (ad : Nat → Nat) : ax_ce ca ad in0 79 = .inl (ca 79, 5, .inl fun _ => 0) := st_ai ca ad (t := 1) (by decide +kernel) (Or.inl rfl) (st_z (by decide))
theorem st_c80 (ca : Nat → ClassId) (ad : Nat → Nat) : ax_ce ca ad in0 80 = .inl (ca 80, 6, .inl fun _ => 0) := st_ai ca ad (t := 1) (by decide +kernel) (Or.inl rfl) (st_z (by decide))
theorem st_c81 (ca : Nat → ClassId) (ad : Nat → Nat) : ax_ce ca ad in0 81 = .inl (ca 81, 6, .inl fun _ => 0) := st_ai ca ad (t := 1) (by decide +kernel) (Or.inl rfl) (st_z (by decide))
theorem st_c82 (ca : Nat → ClassId) (ad : Nat → Nat) : ax_ce ca ad in0 82 = .inl (ca 82, 6, .inl fun _ => 0) := st_ai ca ad (t := 1) (by decide +kernel) (Or.inl rfl) (st_z (by decide))
theorem st_c83 (ca : Nat → ClassId) (ad : Nat → Nat) : ax_ce ca ad in0 83 = .inl (ca 83, 6, .inl fun _ => 0) := st_ai ca ad (t := 1) (by decide +kernel) (Or.inl rfl) (st_z (by decide))
theorem st_c84 (ca : Nat → ClassId) (ad : Nat → Nat) : ax_ce ca ad in0 84 = .inl (ca 84, 6, .inl fun _ => 0) := st_ai ca ad (t := 1) (by decide +kernel) (Or.inl rfl) (st_z (by decide))
theorem st_c85 (ca : Nat → ClassId) (ad : Nat → Nat) : ax_ce ca ad in0 85 = .inl (ca 85, 6, .inl fun _ => 0) := st_ai ca ad (t := 1) (by decide +kernel) (Or.inl rfl) (st_z (by decide))
theorem st_c86 (ca : Nat → ClassId) (ad : Nat → Nat) : ax_ce ca ad in0 86 = .inl (ca 86, 6, .inl fun _ => 0) := st_ai ca ad (t := 1) (by decide +kernel) (Or.inl rfl) (st_z (by decide))
theorem st_c87 (ca : Nat → ClassId) (ad : Nat → Nat) : ax_ce ca ad in0 87 = .inl (ca 87, 6, .inl fun _ => 0) := st_ai ca ad (t := 1) (by decide +kernel) (Or.inl rfl) (st_z (by decide))
theorem st_c88 (ca : Nat → ClassId) (ad : Nat → Nat) : ax_ce ca ad in0 88 = .inl (ca 88, 6, .inl fun _ => 0) := st_ai ca ad (t := 1) (by decide +kernel) (Or.inl rfl) (st_z (by decide))
theorem st_c89 (ca : Nat → ClassId) (ad : Nat → Nat) : ax_ce ca ad in0 89 = .inl (ca 89, 6, .inl fun _ => 0) := st_ai ca ad (t := 1) (by decide +kernel) (Or.inl rfl) (st_z (by decide))
theorem st_c90 (ca : Nat → ClassId) (ad : Nat → Nat) : ax_ce ca ad in0 90 = .inl (ca 90, 16, .inl (upd ((upd ((upd ((upd ((upd ((upd ((upd ((upd ((upd ((upd ((upd ((upd ((upd ((upd ((upd ((upd (fun _ => 0) 0 0)) 1 0)) 2 0)) 3 0)) 4 0)) 5 0)) 6 0)) 7 0)) 8 0)) 9 0)) 10 0)) 11 0)) 12 (-1))) 13 0)) 14 0)) 15 0)) := by
  have e : (fun j => Int32.ofInt (in0 90 j)) = (upd ((upd ((upd ((upd ((upd ((upd ((upd ((upd ((upd ((upd ((upd ((upd ((upd ((upd ((upd ((upd (fun _ => 0) 0 0)) 1 0)) 2 0)) 3 0)) 4 0)) 5 0)) 6 0)) 7 0)) 8 0)) 9 0)) 10 0)) 11 0)) 12 (-1))) 13 0)) 14 0)) 15 0) := by
    funext j
    by_cases h : j < 16
    · revert j; decide +kernel
    · have h0 : in0 90 j = 0 := by
        unfold in0
        repeat' split
        all_goals omega
      show Int32.ofInt (in0 90 j) = _
      rw [h0]
      simp only [upd, show ¬ j = 0 from by omega, show ¬ j = 1 from by omega, show ¬ j = 2 from by omega, show ¬ j = 3 from by omega, show ¬ j = 4 from by omega, show ¬ j = 5 from by omega, show ¬ j = 6 from by omega, show ¬ j = 7 from by omega, show ¬ j = 8 from by omega, show ¬ j = 9 from by omega, show ¬ j = 10 from by omega, show ¬ j = 11 from by omega, show ¬ j = 12 from by omega, show ¬ j = 13 from by omega, show ¬ j = 14 from by omega, show ¬ j = 15 from by omega, if_false]
      rfl
  show (Sum.inl (ca 90, 16, Sum.inl (fun j => Int32.ofInt (in0 90 j))) : va_E) = _
  rw [e]
theorem st_c91 (ca : Nat → ClassId) (ad : Nat → Nat) : ax_ce ca ad in0 91 = .inl (ca 91, 16, .inl (upd ((upd ((upd ((upd ((upd ((upd ((upd ((upd ((upd ((upd ((upd ((upd ((upd ((upd ((upd ((upd (fun _ => 0) 0 0)) 1 0)) 2 0)) 3 0)) 4 0)) 5 0)) 6 0)) 7 0)) 8 0)) 9 0)) 10 0)) 11 0)) 12 (-1))) 13 0)) 14 0)) 15 0)) := by
  have e : (fun j => Int32.ofInt (in0 91 j)) = (upd ((upd ((upd ((upd ((upd ((upd ((upd ((upd ((upd ((upd ((upd ((upd ((upd ((upd ((upd ((upd (fun _ => 0) 0 0)) 1 0)) 2 0)) 3 0)) 4 0)) 5 0)) 6 0)) 7 0)) 8 0)) 9 0)) 10 0)) 11 0)) 12 (-1))) 13 0)) 14 0)) 15 0) := by
    funext j
    by_cases h : j < 16
    · revert j; decide +kernel
    · have h0 : in0 91 j = 0 := by
        unfold in0
        repeat' split
        all_goals omega
      show Int32.ofInt (in0 91 j) = _
      rw [h0]
      simp only [upd, show ¬ j = 0 from by omega, show ¬ j = 1 from by omega, show ¬ j = 2 from by omega, show ¬ j = 3 from by omega, show ¬ j = 4 from by omega, show ¬ j = 5 from by omega, show ¬ j = 6 from by omega, show ¬ j = 7 from by omega, show ¬ j = 8 from by omega, show ¬ j = 9 from by omega, show ¬ j = 10 from by omega, show ¬ j = 11 from by omega, show ¬ j = 12 from by omega, show ¬ j = 13 from by omega, show ¬ j = 14 from by omega, show ¬ j = 15 from by omega, if_false]
      rfl
  show (Sum.inl (ca 91, 16, Sum.inl (fun j => Int32.ofInt (in0 91 j))) : va_E) = _
  rw [e]
theorem st_c92 (ca : Nat → ClassId) (ad : Nat → Nat) : ax_ce ca ad in0 92 = .inl (ca 92, 6, .inl fun _ => 0) := st_ai ca ad (t := 1) (by decide +kernel) (Or.inl rfl) (st_z (by decide))
theorem st_c93 (ca : Nat → ClassId) (ad : Nat → Nat) : ax_ce ca ad in0 93 = .inl (ca 93, 640, .inl fun _ => 0) := st_ai ca ad (t := 1) (by decide +kernel) (Or.inl rfl) (st_z (by decide))
theorem st_c94 (ca : Nat → ClassId) (ad : Nat → Nat) : ax_ce ca ad in0 94 = .inl (ca 94, 12, .inl fun _ => 0) := st_ai ca ad (t := 1) (by decide +kernel) (Or.inl rfl) (st_z (by decide))
theorem st_c95 (ca : Nat → ClassId) (ad : Nat → Nat) : ax_ce ca ad in0 95 = .inl (ca 95, 12, .inl fun _ => 0) := st_ai ca ad (t := 1) (by decide +kernel) (Or.inl rfl) (st_z (by decide))
theorem st_c96 (ca : Nat → ClassId) (ad : Nat → Nat) : ax_ce ca ad in0 96 = .inl (ca 96, 6, .inl fun _ => 0) := st_ai ca ad (t := 1) (by decide +kernel) (Or.inl rfl) (st_z (by decide))
theorem st_c97 (ca : Nat → ClassId) (ad : Nat → Nat) : ax_ce ca ad in0 97 = .inl (ca 97, 6, .inl fun _ => 0) := st_ai ca ad (t := 1) (by decide +kernel) (Or.inl rfl) (st_z (by decide))
theorem st_c98 (ca : Nat → ClassId) (ad : Nat → Nat) : ax_ce ca ad in0 98 = .inl (ca 98, 100, .inl fun _ => 0) := st_ai ca ad (t := 1) (by decide +kernel) (Or.inl rfl) (st_z (by decide))
theorem st_c99 (ca : Nat → ClassId) (ad : Nat → Nat) : ax_ce ca ad in0 99 = .inl (ca 99, 30, .inl fun _ => 0) := st_ai ca ad (t := 1) (by decide +kernel) (Or.inl rfl) (st_z (by decide))
theorem st_c100 (ca : Nat → ClassId) (ad : Nat → Nat) : ax_ce ca ad in0 100 = .inl (ca 100, 30, .inl fun _ => 0) := st_ai ca ad (t := 1) (by decide +kernel) (Or.inl rfl) (st_z (by decide))
theorem st_c101 (ca : Nat → ClassId) (ad : Nat → Nat) : ax_ce ca ad in0 101 = .inl (ca 101, 30, .inl fun _ => 0) := st_ai ca ad (t := 1) (by decide +kernel) (Or.inl rfl) (st_z (by decide))
theorem st_c102 (ca : Nat → ClassId) (ad : Nat → Nat) : ax_ce ca ad in0 102 = .inl (ca 102, 30, .inl fun _ => 0) := st_ai ca ad (t := 1) (by decide +kernel) (Or.inl rfl) (st_z (by decide))
theorem st_c103 (ca : Nat → ClassId) (ad : Nat → Nat) : ax_ce ca ad in0 103 = .inl (ca 103, 30, .inl fun _ => 0) := st_ai ca ad (t := 3) (by decide +kernel) (Or.inr (Or.inr rfl)) (st_z (by decide))
theorem st_c104 (ca : Nat → ClassId) (ad : Nat → Nat) : ax_ce ca ad in0 104 = .inl (ca 104, 1000, .inl fun _ => 0) := st_ai ca ad (t := 1) (by decide +kernel) (Or.inl rfl) (st_z (by decide))
theorem st_c105 (ca : Nat → ClassId) (ad : Nat → Nat) : ax_ce ca ad in0 105 = .inl (ca 105, 100, .inl fun _ => 0) := st_ai ca ad (t := 3) (by decide +kernel) (Or.inr (Or.inr rfl)) (st_z (by decide))
theorem st_c106 (ca : Nat → ClassId) (ad : Nat → Nat) : ax_ce ca ad in0 106 = .inl (ca 106, 3, .inl fun _ => 0) := st_ai ca ad (t := 3) (by decide +kernel) (Or.inr (Or.inr rfl)) (st_z (by decide))
theorem st_c107 (ca : Nat → ClassId) (ad : Nat → Nat) : ax_ce ca ad in0 107 = .inl (ca 107, 48, .inl fun _ => 0) := st_ai ca ad (t := 1) (by decide +kernel) (Or.inl rfl) (st_z (by decide))
