-- THE START: what the heap holds behind the two constructors
def in0 : Hp := fun k j => if (k = 4 ∨ k = 25 ∨ k = 31) ∧ j = 2 then -1 else if k = 1 ∧ j = 3 then -1 else if (k = 35 ∨ k = 51) ∧ j = 12 then 1 else if k = 0 ∧ j = 8 then 35 else if k = 0 ∧ j = 9 then 51 else if k = 67 ∧ j = 3 then -1 else if k = 67 ∧ j = 43 then 1 else if (k = 90 ∨ k = 91) ∧ j = 12 then -1 else 0
theorem in0_z {k : Nat} (h1 : ¬ (k = 4 ∨ k = 25 ∨ k = 31)) (h2 : ¬ k = 1) (h3 : ¬ (k = 35 ∨ k = 51)) (h4 : ¬ k = 0) (h5 : ¬ k = 67) (h6 : ¬ (k = 90 ∨ k = 91)) : in0 k = fun _ => 0 := by
  funext j
  unfold in0
  rw [if_neg (fun z => h1 z.1), if_neg (fun z => h2 z.1), if_neg (fun z => h3 z.1), if_neg (fun z => h4 z.1), if_neg (fun z => h4 z.1), if_neg (fun z => h5 z.1), if_neg (fun z => h5 z.1), if_neg (fun z => h6 z.1)]
theorem in0_R (k j : Nat) : in0 k j = 0 ∨ in0 k j = 1 ∨ in0 k j = -1 ∨ (k = 0 ∧ (in0 k j = 35 ∨ in0 k j = 51)) := by
  unfold in0
  repeat' split
  all_goals omega
def in0_f (k j t : Nat) : Bool := match t with
  | 0 => true
  | 1 => decide (in0 k j = 0)
  | 2 => decide (in0 k j = 0)
  | 3 => decide (in0 k j = 0)
  | 4 => true
  | 5 => decide (0 ≤ in0 k j ∧ ax_kd (in0 k j).toNat = (0, (ax_fd (ax_kd k).2 j).2.2.2))
  | _ => false
theorem in0_b : ((List.range 108).all fun k => !(Nat.beq (ax_kd k).1 0) || (List.range (ax_F (ax_kd k).2).length).all fun j => in0_f k j (ax_fd (ax_kd k).2 j).1) = true := by decide +kernel
theorem in0_c (k : Nat) (hk : k < 108) (j : Nat) (hj : j < (ax_F (ax_kd k).2).length) (h : (ax_kd k).1 = 0) : in0_f k j (ax_fd (ax_kd k).2 j).1 = true := by
  have h1 := List.all_eq_true.mp in0_b k (List.mem_range.mpr hk)
  rw [h] at h1
  have h2 : ((List.range (ax_F (ax_kd k).2).length).all fun j => in0_f k j (ax_fd (ax_kd k).2 j).1) = true := h1
  exact List.all_eq_true.mp h2 j (List.mem_range.mpr hj)
theorem in0_H : ax_H in0 := by
  intro k
  have hR := in0_R k
  by_cases hk : k < 108
  · have hz : ∀ j, ¬ (k = 4 ∨ k = 25 ∨ k = 31 ∨ k = 1 ∨ k = 35 ∨ k = 51 ∨ k = 0 ∨ k = 67 ∨ k = 90 ∨ k = 91) → in0 k j = 0 := fun j h => by rw [in0_z (by omega) (by omega) (by omega) (by omega) (by omega) (by omega)]
    have key : ∀ k, k < 108 → (ax_kd k).1 = 0 ∨ (ax_kd k).1 = 1 ∨ ((¬ (k = 4 ∨ k = 25 ∨ k = 31 ∨ k = 1 ∨ k = 35 ∨ k = 51 ∨ k = 0 ∨ k = 67 ∨ k = 90 ∨ k = 91)) ∧ ((ax_kd k).1 = 2 ∨ (ax_kd k).1 = 3 ∨ (ax_kd k).1 = 4)) := by decide +kernel
    rcases key k hk with h | h | ⟨h, h'⟩
    · rw [h]
      intro j hj
      have k2 := in0_c k hk j hj h
      have e0 : ∀ t, (ax_fd (ax_kd k).2 j).1 = t → in0_f k j t = true → ax_okf t (ax_fd (ax_kd k).2 j).2.2.2 (in0 k j) := by
        intro t ht hk2
        match t, hk2 with
        | 0, _ => show R32 _; unfold R32; have := hR j; omega
        | 1, z => exact Or.inl (of_decide_eq_true z)
        | 2, z => have : in0 k j = 0 := of_decide_eq_true z
                  show R64 _; unfold R64; omega
        | 3, z => have : in0 k j = 0 := of_decide_eq_true z
                  show 0 ≤ _ ∧ _; omega
        | 4, _ => trivial
        | 5, z => have z' : 0 ≤ in0 k j ∧ ax_kd (in0 k j).toNat = (0, (ax_fd (ax_kd k).2 j).2.2.2) := of_decide_eq_true z
                  exact z'
        | t + 6, z => cases z
      exact e0 _ rfl k2
    · rw [h]; intro j; show R32 _; unfold R32; have := hR j; omega
    · have z := fun j => hz j h
      rcases h' with e | e | e
      · rw [e]; intro j; rw [z j]; omega
      · rw [e]; intro j; exact Or.inl (z j)
      · rw [e]; intro j; show R64 _; unfold R64; rw [z j]; omega
  · have : ax_kd k = (99, 0) := by
      unfold ax_kd
      rw [List.getD_eq_getElem?_getD, List.getElem?_eq_none (by have : ax_kdL.length = 108 := by decide +kernel
                                                                omega)]
      rfl
    rw [this]
    trivial
theorem tr_zr (n : Nat) : tr n (fun _ => 0) = zr := by funext j; unfold tr; split <;> rfl
theorem nwn_zr : ∀ n, nwn zr n = 0 := by
  intro n
  induction n with
  | zero => rfl
  | succ n ih => rw [nwn_s, ih]; rfl
/-- the picture of the start -/
def fam00 : Fam := (0, zr, zr, zr, zr, zr, 1, 0, 0, (0, 0, zr), (0, 0, zr))
def sta00 : Sta := (zr, zr, -1, 0, 0, 0)
def pic0 : AS := ((zr, 0), (0, -1), fam00, sta00, ([], []), (fun _ => none), sg0, (0, zr), 0)
theorem xA_0 : xA in0 = pic0 := by
  have z : ∀ k, ¬ (k = 4 ∨ k = 25 ∨ k = 31) → ¬ k = 1 → ¬ (k = 35 ∨ k = 51) → ¬ k = 0 → ¬ k = 67 → ¬ (k = 90 ∨ k = 91) → in0 k = fun _ => 0 := fun k a b c d e f => in0_z a b c d e f
  have et : tld in0 = 35 := rfl
  have eF : famX in0 35 = fam00 := by
    unfold famX frX fam00
    rw [z (35 + 2) (by omega) (by omega) (by omega) (by omega) (by omega) (by omega), z (35 + 3) (by omega) (by omega) (by omega) (by omega) (by omega) (by omega), z (35 + 4) (by omega) (by omega) (by omega) (by omega) (by omega) (by omega), z (35 + 5) (by omega) (by omega) (by omega) (by omega) (by omega) (by omega), z (35 + 6) (by omega) (by omega) (by omega) (by omega) (by omega) (by omega), tr_zr]
    refine Prod.ext rfl (Prod.ext rfl (Prod.ext rfl (Prod.ext rfl (Prod.ext rfl (Prod.ext rfl (Prod.ext rfl (Prod.ext rfl (Prod.ext rfl (Prod.ext ?_ ?_)))))))))
    · refine Prod.ext rfl (Prod.ext rfl ?_); funext j; rfl
    · refine Prod.ext rfl (Prod.ext rfl ?_); funext j; rfl
  have eS : stX in0 31 = sta00 := by
    unfold stX sta00
    rw [z (31 + 1) (by omega) (by omega) (by omega) (by omega) (by omega) (by omega), z (31 + 2) (by omega) (by omega) (by omega) (by omega) (by omega) (by omega), tr_zr]
    rfl
  have eX : bxX in0 = fun _ => none := by
    funext i
    unfold bxX
    rw [z 18 (by omega) (by omega) (by omega) (by omega) (by omega) (by omega)]
    exact if_neg (fun y => y.2 rfl)
  unfold xA pic0
  rw [et, eF, eS, eX]
  rfl
theorem mA_0 : mA 0 in0 = pic0 := by
  have z : ∀ k, ¬ (k = 4 ∨ k = 25 ∨ k = 31) → ¬ k = 1 → ¬ (k = 35 ∨ k = 51) → ¬ k = 0 → ¬ k = 67 → ¬ (k = 90 ∨ k = 91) → in0 k = fun _ => 0 := fun k a b c d e f => in0_z a b c d e f
  have eF : famM 0 in0 = fam00 := by
    unfold famM frM fam00
    refine Prod.ext rfl (Prod.ext ?_ (Prod.ext ?_ (Prod.ext ?_ (Prod.ext ?_ (Prod.ext ?_ (Prod.ext rfl (Prod.ext rfl (Prod.ext rfl (Prod.ext ?_ ?_)))))))))
    · funext j; rfl
    · funext j; rfl
    · funext j; rfl
    · funext j; rfl
    · funext j; rfl
    · rw [z 75 (by omega) (by omega) (by omega) (by omega) (by omega) (by omega)]; refine Prod.ext rfl (Prod.ext rfl ?_); funext j; rfl
    · rw [z 75 (by omega) (by omega) (by omega) (by omega) (by omega) (by omega)]; refine Prod.ext rfl (Prod.ext rfl ?_); funext j; rfl
  have eS : nowM in0 = sta00 := by
    show stR (in0 90) 0 = sta00
    have e90 : ∀ j, in0 90 j = if j = 12 then -1 else 0 := fun j => by
      unfold in0
      rw [if_neg (by omega), if_neg (by omega), if_neg (by omega), if_neg (by omega), if_neg (by omega), if_neg (by omega), if_neg (by omega)]
      by_cases y : j = 12
      · rw [if_pos ⟨Or.inl rfl, y⟩, if_pos y]
      · rw [if_neg (fun x => y x.2), if_neg y]
    unfold stR sta00
    refine Prod.ext ?_ (Prod.ext ?_ rfl)
    · funext j
      show tr 6 (fun j => in0 90 (0 + j)) j = 0
      by_cases hj : j < 6
      · rw [tr_in hj, e90, if_neg (by omega)]
      · rw [tr_out (by omega)]
    · funext j
      show tr 6 (fun j => in0 90 (0 + 6 + j)) j = 0
      by_cases hj : j < 6
      · rw [tr_in hj, e90, if_neg (by omega)]
      · rw [tr_out (by omega)]
  have eX : bxM in0 = fun _ => none := by
    funext i
    unfold bxM
    rw [z 106 (by omega) (by omega) (by omega) (by omega) (by omega) (by omega)]
    exact if_neg (fun y => y.2 rfl)
  unfold mA pic0
  rw [eF, eS, eX]
  rfl
theorem FV_0 : FV fam00 := by
  refine ⟨Nat.zero_le _, fun j => ⟨⟨Int.le_refl 0, by show (0 : Int) ≤ 1; decide⟩, ⟨Int.le_refl 0, by show (0 : Int) ≤ 99; decide⟩, ⟨Int.le_refl 0, by show (0 : Int) < 64; decide⟩, ⟨Int.le_refl 0, by show (0 : Int) ≤ 100; decide⟩, ⟨Int.le_refl 0, by show (0 : Int) ≤ 20; decide⟩⟩, fun j _ => ⟨rfl, rfl, rfl, rfl, rfl⟩, ?_, fun p o h => ?_, ?_, ⟨by decide, by decide⟩, ⟨by decide, by decide⟩, Or.inl ⟨rfl, rfl⟩, Or.inl ⟨rfl, rfl⟩⟩
  · show nwn zr 6 ≤ 4; rw [nwn_zr]; decide
  · have : bt 0 o = true := h
    rw [show (0 : Int) = ((0 : Nat) : Int) from rfl, bt_n, Nat.zero_testBit] at this
    cases this
  · show kn (fun _ => 0) 6 ≤ 12; rw [kn_0]; decide
theorem WA_0 : WA pic0 := by
  refine ⟨Nat.zero_le _, FV_0, ⟨⟨fun j => ⟨Int.le_refl 0, by show (0 : Int) ≤ 99; decide⟩, fun j => ⟨Int.le_refl 0, by show (0 : Int) < 64; decide⟩, ⟨Int.le_refl 0, by decide⟩, ⟨Int.le_refl 0, by decide⟩⟩, ⟨⟨Int.le_refl _, by decide⟩, fun p o h => ?_, fun j _ => rfl⟩, ?_, Or.inl rfl⟩, fun t ht => absurd ht List.not_mem_nil, fun t ht => absurd ht List.not_mem_nil, fun i t ht => (by cases ht), Nat.zero_le _, ⟨Nat.zero_le _, fun i hi => absurd hi (Nat.not_lt_zero i)⟩, Nat.zero_le _, Int.le_refl 0, by decide⟩
  · have : bt 0 o = true := h
    rw [show (0 : Int) = ((0 : Nat) : Int) from rfl, bt_n, Nat.zero_testBit] at this
    cases this
  · show kn (fun _ => 0) 6 ≤ 12; rw [kn_0]; decide
theorem LI_0 : LI 0 in0 := by
  have eF : famM 0 in0 = fam00 := congrArg (fun A : AS => A.2.2.1) mA_0
  have z : ∀ k, ¬ (k = 4 ∨ k = 25 ∨ k = 31) → ¬ k = 1 → ¬ (k = 35 ∨ k = 51) → ¬ k = 0 → ¬ k = 67 → ¬ (k = 90 ∨ k = 91) → in0 k = fun _ => 0 := fun k a b c d e f => in0_z a b c d e f
  refine ⟨⟨Or.inl ⟨rfl, rfl⟩, ⟨by decide, by decide⟩, ?_, ⟨⟨by decide, by decide⟩, by decide, by decide, by decide⟩, ⟨by decide, by decide⟩, fun h => absurd rfl h, ⟨by decide, by decide⟩, fun h => absurd h (by decide)⟩, ⟨⟨⟨by decide, by decide⟩, ?_, ?_, 0, by rw [eF]; exact FV_0⟩, ⟨by decide, by decide⟩, fun i _ => ?_, ⟨by decide, by decide⟩, ⟨by decide, by decide⟩, ⟨by decide, by decide⟩⟩, by rw [xA_0]; exact WA_0, by rw [xA_0, mA_0]⟩
  · show FS in0 35
    refine ⟨⟨by decide, by decide, ?_⟩, ⟨by decide, by decide⟩, ⟨by decide, by decide⟩, fun j _ => ?_, ?_⟩
    · rw [z (35 + 6) (by omega) (by omega) (by omega) (by omega) (by omega) (by omega)]; show nwn zr 6 ≤ 4; rw [nwn_zr]; decide
    · rw [z (35 + 6) (by omega) (by omega) (by omega) (by omega) (by omega) (by omega), z (35 + 5) (by omega) (by omega) (by omega) (by omega) (by omega) (by omega), z (35 + 3) (by omega) (by omega) (by omega) (by omega) (by omega) (by omega), z (35 + 4) (by omega) (by omega) (by omega) (by omega) (by omega) (by omega)]
      show ((0 : Int) ≤ 0 ∧ (0 : Int) ≤ 20) ∧ ((0 : Int) ≤ 0 ∧ (0 : Int) ≤ 100) ∧ ((0 : Int) ≤ 0 ∧ (0 : Int) ≤ 99) ∧ ((0 : Int) ≤ 0 ∧ (0 : Int) < 64)
      decide
    · exact ⟨⟨by decide, by decide, fun h => absurd rfl h⟩, ⟨by decide, by decide, fun h => absurd rfl h⟩⟩
  · refine ⟨⟨by decide, by decide⟩, fun i hi => ?_⟩
    have : in0 75 0 = 0 := rfl
    omega
  · refine ⟨⟨by decide, by decide⟩, fun i hi => ?_⟩
    have : in0 75 1 = 0 := rfl
    omega
  · rw [z 68 (by omega) (by omega) (by omega) (by omega) (by omega) (by omega)]; show (0 : Int) ≤ 0 ∧ (0 : Int) ≤ 255; decide
