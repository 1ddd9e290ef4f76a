-- THE MODEL: the best wedding, what a lay can be
theorem hz01 {F : Fam} (h : ∀ j, 0 ≤ fHou F j ∧ fHou F j ≤ 1) : ∀ p, hz F 0 p + hz F 1 p = p := by
  intro p
  induction p with
  | zero => rfl
  | succ p ih =>
    rw [hz_s, hz_s]
    have := h p
    by_cases e : fHou F p = 0
    · rw [if_pos e, if_neg (by omega)]; omega
    · rw [if_neg e, if_pos (by omega)]; omega
/-- a set within house 1 has no more members than it -/
theorem pcn_hz {F : Fam} {x : Nat} : ∀ p, (∀ o, o < p → x.testBit o = true → fHou F o = 1) → pcn x p ≤ hz F 1 p := by
  intro p
  induction p with
  | zero => intro _; exact Nat.le_refl 0
  | succ p ih =>
    intro h
    have h1 := ih (fun o ho => h o (by omega))
    rw [pcn_s, hz_s]
    cases hb : x.testBit p with
    | false => simp; omega
    | true => rw [if_pos (h p (by omega) hb)]; simp; omega
theorem lay_cnt {F : Fam} {g : Nat → Nat} {c : Nat → Int} {a : Nat} {D : Nat → Nat} : ∀ j, (∀ i, i < j → D i = 6 ∨ (D i < fN F ∧ fHou F (D i) = 1)) → ∀ had wed m, lay g c a D j = some (had, wed, m) → pcn had (fN F) = wed ∧ (∀ o, had.testBit o = true → o < fN F ∧ fHou F o = 1 ∧ ∃ i, i < j ∧ D i = o) ∧ wed ≤ j := by
  intro j
  induction j with
  | zero =>
    intro _ had wed m h
    have h' : some ((0 : Nat), (0 : Nat), (0 : Int)) = some (had, wed, m) := h
    injection h' with h'
    injection h' with e1 e2
    injection e2 with e2 e3
    subst e1 e2
    refine ⟨?_, fun o ho => ?_, Nat.le_refl 0⟩
    · have : ∀ n, pcn 0 n = 0 := by
        intro n
        induction n with
        | zero => rfl
        | succ n ih => rw [pcn_s, ih, Nat.zero_testBit]; rfl
      exact this _
    · rw [Nat.zero_testBit] at ho; cases ho
  | succ j ih =>
    intro hd had wed m h
    rw [lay_s] at h
    cases hx : lay g c a D j with
    | none => rw [hx] at h; cases h
    | some x =>
      obtain ⟨had', wed', m'⟩ := x
      obtain ⟨i1, i2, i3⟩ := ih (fun i hi => hd i (by omega)) had' wed' m' hx
      rw [hx] at h
      have h' : (if D j = 6 then some (had', wed', m') else if had'.testBit (D j) = true then none else some (had' ||| 2 ^ D j, wed' + 1, max m' (c (g (a - 1 - j)) + c (D j)))) = some (had, wed, m) := h
      by_cases e : D j = 6
      · rw [if_pos e] at h'
        injection h' with h'
        injection h' with e1 e2
        injection e2 with e2 e3
        subst e1 e2
        exact ⟨i1, fun o ho => ⟨(i2 o ho).1, (i2 o ho).2.1, by obtain ⟨i, hi, z⟩ := (i2 o ho).2.2; exact ⟨i, by omega, z⟩⟩, by omega⟩
      · rw [if_neg e] at h'
        by_cases e2 : had'.testBit (D j) = true
        · rw [if_pos e2] at h'; cases h'
        · rw [if_neg e2] at h'
          injection h' with h'
          injection h' with f1 f2
          injection f2 with f2 f3
          subst f1 f2
          have hdj : D j < fN F ∧ fHou F (D j) = 1 := (hd j (by omega)).resolve_left e
          refine ⟨by rw [pcn_or e2 _ hdj.1, i1], fun o ho => ?_, by omega⟩
          rw [Nat.testBit_or, Nat.testBit_two_pow, Bool.or_eq_true] at ho
          rcases ho with z | z
          · exact ⟨(i2 o z).1, (i2 o z).2.1, by obtain ⟨i, hi, y⟩ := (i2 o z).2.2; exact ⟨i, by omega, y⟩⟩
          · have : D j = o := of_decide_eq_true z
            subst this
            exact ⟨hdj.1, hdj.2, j, by omega, rfl⟩
theorem lay_has {g : Nat → Nat} {c : Nat → Int} {a : Nat} {D : Nat → Nat} : ∀ j had wed m, lay g c a D j = some (had, wed, m) → (∀ i, i < j → ¬ D i = 6 → had.testBit (D i) = true) ∧ ∀ i l, i < l → l < j → ¬ D i = 6 → ¬ D l = 6 → ¬ D i = D l := by
  intro j
  induction j with
  | zero => intro had wed m _; exact ⟨fun i hi => absurd hi (Nat.not_lt_zero i), fun i l _ hl => absurd hl (Nat.not_lt_zero l)⟩
  | succ j ih =>
    intro had wed m h
    rw [lay_s] at h
    cases hx : lay g c a D j with
    | none => rw [hx] at h; cases h
    | some x =>
      obtain ⟨had', wed', m'⟩ := x
      obtain ⟨i1, i2⟩ := ih had' wed' m' hx
      rw [hx] at h
      have h' : (if D j = 6 then some (had', wed', m') else if had'.testBit (D j) = true then none else some (had' ||| 2 ^ D j, wed' + 1, max m' (c (g (a - 1 - j)) + c (D j)))) = some (had, wed, m) := h
      by_cases e : D j = 6
      · rw [if_pos e] at h'
        injection h' with h'
        injection h' with e1 e2
        subst e1
        refine ⟨fun i hi h6 => ?_, fun i l hil hl h6 h6' => ?_⟩
        · by_cases z : i = j
          · rw [z] at h6; exact absurd e h6
          · exact i1 i (by omega) h6
        · by_cases z : l = j
          · rw [z] at h6'; exact absurd e h6'
          · exact i2 i l hil (by omega) h6 h6'
      · rw [if_neg e] at h'
        by_cases e2 : had'.testBit (D j) = true
        · rw [if_pos e2] at h'; cases h'
        · rw [if_neg e2] at h'
          injection h' with h'
          injection h' with f1 f2
          subst f1
          refine ⟨fun i hi h6 => ?_, fun i l hil hl h6 h6' => ?_⟩
          · rw [Nat.testBit_or]
            by_cases z : i = j
            · rw [z, Nat.testBit_two_pow_self, Bool.or_true]
            · rw [i1 i (by omega) h6]; rfl
          · by_cases z : l = j
            · rw [z]
              intro y
              exact e2 (by rw [← y]; exact i1 i (by omega) h6)
            · exact i2 i l hil (by omega) h6 h6'
/-- who weds whom -/
theorem pr_at {g : Nat → Nat} {a : Nat} {D : Nat → Nat} (hg : ∀ i l, i < a → l < a → g (a - 1 - i) = g (a - 1 - l) → i = l) (hd : ∀ i l, i < a → l < a → ¬ D i = 6 → ¬ D i = g (a - 1 - l)) (hi : ∀ i l, i < l → l < a → ¬ D i = 6 → ¬ D l = 6 → ¬ D i = D l) : ∀ j, j ≤ a → (∀ i, i < j → ¬ D i = 6 → pr g a D j (D i) = (g (a - 1 - i) : Int) ∧ pr g a D j (g (a - 1 - i)) = (D i : Int)) ∧ ∀ q, (∀ i, i < j → ¬ D i = 6 → ¬ q = D i ∧ ¬ q = g (a - 1 - i)) → pr g a D j q = -1 := by
  intro j
  induction j with
  | zero => intro _; exact ⟨fun i hi => absurd hi (Nat.not_lt_zero i), fun q _ => rfl⟩
  | succ j ih =>
    intro hj
    obtain ⟨h1, h2⟩ := ih (by omega)
    by_cases e : D j = 6
    · refine ⟨fun i hi' h6 => ?_, fun q hq => ?_⟩
      · rw [pr_s, pr_s, if_pos e, if_pos e]
        by_cases z : i = j
        · rw [z] at h6; exact absurd e h6
        · exact h1 i (by omega) h6
      · rw [pr_s, if_pos e]; exact h2 q (fun i hi' => hq i (by omega))
    · refine ⟨fun i hi' h6 => ?_, fun q hq => ?_⟩
      · rw [pr_s, pr_s, if_neg e, if_neg e]
        by_cases z : i = j
        · rw [z, if_pos rfl, if_neg (fun y => hd j j (by omega) (by omega) e y.symm), if_pos rfl]
          exact ⟨rfl, rfl⟩
        · rw [if_neg (hi i j (by omega) (by omega) h6 e), if_neg (hd i j (by omega) (by omega) h6), if_neg (fun y => hd j i (by omega) (by omega) e y.symm), if_neg (fun y => z (hg i j (by omega) (by omega) y))]
          exact h1 i (by omega) h6
      · have := hq j (by omega) e
        rw [pr_s, if_neg e, if_neg this.1, if_neg this.2]
        exact h2 q (fun i hi' => hq i (by omega))
