-- THE MODEL: a wedding looks at the houses alone
theorem hz_ext {F G : Fam} (h : fHou F = fHou G) (x : Int) : ∀ p, hz F x p = hz G x p := by
  intro p
  induction p with
  | zero => rfl
  | succ p ih => rw [hz_s, hz_s, ih, h]
theorem hi_ext {F G : Fam} (h : fHou F = fHou G) (x : Int) : ∀ p j, hi F x p j = hi G x p j := by
  intro p
  induction p with
  | zero => intro j; rfl
  | succ p ih => intro j; rw [hi_s, hi_s, ih, h, hz_ext h]
theorem wed_ext {F G : Fam} (hN : fN F = fN G) (h : fHou F = fHou G) (s : Sta) : wA F = wA G ∧ wB F = wB G ∧ (∀ D, okD F D ↔ okD G D) ∧ (∀ D, wc F s D = wc G s D) ∧ hi F 0 (fN F) = hi G 0 (fN G) := by
  have a : wA F = wA G := by unfold wA; rw [hz_ext h, hN]
  have b : wB F = wB G := by unfold wB; rw [hz_ext h, hN]
  have g : hi F 0 (fN F) = hi G 0 (fN G) := by funext j; rw [hi_ext h, hN]
  refine ⟨a, b, fun D => ?_, fun D => ?_, g⟩
  · unfold okD; rw [a, hN, h]
  · unfold wc; rw [a, b, g]
theorem WedR_ext {F G : Fam} (hN : fN F = fN G) (h : fHou F = fHou G) {s : Sta} {r : Int} {row : Nat → Int} (w : WedR F s r row) : WedR G s r row := by
  obtain ⟨a, b, c, d, g⟩ := wed_ext hN h s
  rcases w with ⟨w1, w2⟩ | ⟨w1, D, w2, w3, w4⟩
  · exact Or.inl ⟨by rw [← a, ← b]; exact w1, w2⟩
  · refine Or.inr ⟨by rw [← a, ← b]; exact w1, D, ⟨(c D).mp w2.1, by rw [← d]; exact w2.2.1, fun D' h1 h2 => ?_⟩, by rw [← d]; exact w3, fun p hp => ?_⟩
    · have := w2.2.2 D' ((c D').mpr h1) (by rw [d]; exact h2)
      rw [d, d, a] at this
      exact this
    · rw [w4 p (by rw [hN]; exact hp), g, a]
