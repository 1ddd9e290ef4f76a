-- THE OUTLOOK: the best wedding
/-- a number by its digits, the last first -/
def cdB (B : Nat) (D : Nat → Nat) : Nat → Nat
  | 0 => 0
  | m + 1 => D 0 + B * cdB B (fun j => D (j + 1)) m
theorem cdB_lt {B : Nat} (hB : 0 < B) : ∀ (m : Nat) (D : Nat → Nat), (∀ j, j < m → D j < B) → cdB B D m < B ^ m := by
  intro m
  induction m with
  | zero => intro D _; exact Nat.one_pos
  | succ m ih =>
    intro D h
    have h1 := ih (fun j => D (j + 1)) (fun j hj => h (j + 1) (by omega))
    have h0 := h 0 (by omega)
    show D 0 + B * cdB B (fun j => D (j + 1)) m < _
    have h2 : B * (cdB B (fun j => D (j + 1)) m + 1) ≤ B * B ^ m := Nat.mul_le_mul_left B h1
    rw [Nat.mul_add, Nat.mul_one] at h2
    rw [Nat.pow_succ, Nat.mul_comm (B ^ m) B]
    omega
theorem cdB_dig {B : Nat} (hB : 0 < B) : ∀ (m : Nat) (D : Nat → Nat), (∀ j, j < m → D j < B) → ∀ j, j < m → cdB B D m / B ^ j % B = D j := by
  intro m
  induction m with
  | zero => intro D _ j hj; exact absurd hj (Nat.not_lt_zero j)
  | succ m ih =>
    intro D h j hj
    have h0 := h 0 (by omega)
    show (D 0 + B * cdB B (fun j => D (j + 1)) m) / B ^ j % B = D j
    cases j with
    | zero => rw [Nat.pow_zero, Nat.div_one, Nat.add_mul_mod_self_left, Nat.mod_eq_of_lt h0]
    | succ j =>
      rw [Nat.pow_succ, Nat.mul_comm (B ^ j) B, ← Nat.div_div_eq_div_mul, Nat.add_mul_div_left _ _ hB, Nat.div_eq_of_lt h0, Nat.zero_add]
      exact ih (fun j => D (j + 1)) (fun j hj => h (j + 1) (by omega)) j (by omega)
theorem cdB_rep {B : Nat} (hB : 0 < B) : ∀ (m x : Nat), x < B ^ m → cdB B (fun j => x / B ^ j % B) m = x := by
  intro m
  induction m with
  | zero => intro x hx; have : x = 0 := by simp at hx; omega
            subst this; rfl
  | succ m ih =>
    intro x hx
    show x / B ^ 0 % B + B * cdB B (fun j => x / B ^ (j + 1) % B) m = x
    have e : (fun j => x / B ^ (j + 1) % B) = (fun j => x / B / B ^ j % B) := by
      funext j
      rw [Nat.pow_succ, Nat.mul_comm (B ^ j) B, Nat.div_div_eq_div_mul]
    rw [e, ih (x / B) (by rw [Nat.pow_succ] at hx; exact Nat.div_lt_of_lt_mul (by rw [Nat.mul_comm]; exact hx)), Nat.pow_zero, Nat.div_one]
    exact Nat.mod_add_div x B
theorem cdB_ext {B : Nat} : ∀ (m : Nat) (D D' : Nat → Nat), (∀ j, j < m → D j = D' j) → cdB B D m = cdB B D' m := by
  intro m
  induction m with
  | zero => intro _ _ _; rfl
  | succ m ih =>
    intro D D' h
    show D 0 + B * cdB B (fun j => D (j + 1)) m = D' 0 + B * cdB B (fun j => D' (j + 1)) m
    rw [h 0 (by omega), ih (fun j => D (j + 1)) (fun j => D' (j + 1)) (fun j hj => h (j + 1) (by omega))]
theorem cdB_inj {B : Nat} (hB : 0 < B) {m : Nat} {D D' : Nat → Nat} (h : ∀ j, j < m → D j < B) (h' : ∀ j, j < m → D' j < B) (e : cdB B D m = cdB B D' m) : ∀ j, j < m → D j = D' j := by
  intro j hj
  rw [← cdB_dig hB m D h j hj, ← cdB_dig hB m D' h' j hj, e]
theorem lex_step {B x y a b : Nat} (ha : a < B) (hb : b < B) (h : a + B * x < b + B * y) : x < y ∨ (x = y ∧ a < b) := by
  rcases Nat.lt_trichotomy x y with z | z | z
  · exact Or.inl z
  · subst z; exact Or.inr ⟨rfl, by omega⟩
  · have : B * (y + 1) ≤ B * x := Nat.mul_le_mul_left B z
    rw [Nat.mul_add, Nat.mul_one] at this
    omega
theorem lex_back {B x y a b : Nat} (ha : a < B) (h : x < y ∨ (x = y ∧ a < b)) : a + B * x < b + B * y := by
  rcases h with z | ⟨rfl, z⟩
  · have : B * (x + 1) ≤ B * y := Nat.mul_le_mul_left B z
    rw [Nat.mul_add, Nat.mul_one] at this
    omega
  · omega
/-- digits turned by a rising map: the order stays -/
theorem cdB_mono {B C : Nat} {f : Nat → Nat} (hf : ∀ x, x < B → f x < C) (hm : ∀ x y, x < y → y < B → f x < f y) : ∀ (m : Nat) (D D' : Nat → Nat), (∀ j, j < m → D j < B) → (∀ j, j < m → D' j < B) → cdB B D m < cdB B D' m → cdB C (fun j => f (D j)) m < cdB C (fun j => f (D' j)) m := by
  intro m
  induction m with
  | zero => intro D D' _ _ h; exact absurd h (Nat.lt_irrefl _)
  | succ m ih =>
    intro D D' h h' hlt
    have hs := lex_step (h 0 (by omega)) (h' 0 (by omega)) hlt
    refine lex_back (hf _ (h 0 (by omega))) ?_
    rcases hs with z | ⟨z, z2⟩
    · exact Or.inl (ih (fun j => D (j + 1)) (fun j => D' (j + 1)) (fun j hj => h (j + 1) (by omega)) (fun j hj => h' (j + 1) (by omega)) z)
    · refine Or.inr ⟨?_, hm _ _ z2 (h' 0 (by omega))⟩
      have e := cdB_inj (Nat.lt_of_le_of_lt (Nat.zero_le _) (h 0 (by omega))) (fun j hj => h (j + 1) (by omega)) (fun j hj => h' (j + 1) (by omega)) z
      exact cdB_ext m _ _ (fun j hj => congrArg f (e j hj))
theorem hi_mono {F : Fam} {h : Int} {p i j : Nat} (hij : i < j) (hj : j < hz F h p) : hi F h p i < hi F h p j := by
  have h1 := hi_in (F := F) (h := h) (p := p) (j := i) (by omega)
  have h2 := hi_in hj
  by_cases z : hi F h p i < hi F h p j
  · exact z
  · have := hz_mono F h (p := hi F h p j) (q := hi F h p i) (by omega)
    omega
def wA (F : Fam) : Nat := hz F 0 (fN F)
def wB (F : Fam) : Nat := hz F 1 (fN F)
def okD (F : Fam) (D : Nat → Nat) : Prop := ∀ j, j < wA F → D j = 6 ∨ (D j < fN F ∧ fHou F (D j) = 1)
def wc (F : Fam) (s : Sta) (D : Nat → Nat) : Int := wcost (hi F 0 (fN F)) s.1 (wA F) (min (wA F) (wB F)) D
def WedB (F : Fam) (s : Sta) (D : Nat → Nat) : Prop := okD F D ∧ ¬ wc F s D = -1 ∧ ∀ D', okD F D' → ¬ wc F s D' = -1 → wc F s D < wc F s D' ∨ (wc F s D = wc F s D' ∧ cdB 7 D (wA F) ≤ cdB 7 D' (wA F))
def WedR (F : Fam) (s : Sta) (r : Int) (row : Nat → Int) : Prop := (min (wA F) (wB F) = 0 ∧ r = -1) ∨ (¬ min (wA F) (wB F) = 0 ∧ ∃ D, WedB F s D ∧ r = wc F s D ∧ ∀ p, p < fN F → row p = pr (hi F 0 (fN F)) (wA F) D (wA F) p)
theorem okD_lt {F : Fam} {D : Nat → Nat} (h : okD F D) (hn : fN F ≤ 6) : ∀ j, j < wA F → D j < 7 := fun j hj => by rcases h j hj with z | z <;> omega
theorem WedR.uniq {F : Fam} {s : Sta} {r t : Int} {u v : Nat → Int} (hn : fN F ≤ 6) (h : WedR F s r u) (g : WedR F s t v) : r = t ∧ (¬ r = -1 → ∀ p, p < fN F → u p = v p) := by
  rcases h with ⟨h1, rfl⟩ | ⟨h1, D, hD, rfl, hu⟩ <;> rcases g with ⟨g1, rfl⟩ | ⟨g1, E, hE, rfl, hv⟩
  · exact ⟨rfl, fun z => absurd rfl z⟩
  · exact absurd h1 g1
  · exact absurd g1 h1
  · have a := hD.2.2 E hE.1 hE.2.1
    have b := hE.2.2 D hD.1 hD.2.1
    have e := cdB_inj (by decide) (okD_lt hD.1 hn) (okD_lt hE.1 hn) (by omega)
    refine ⟨by omega, fun _ p hp => ?_⟩
    rw [hu p hp, hv p hp]
    exact pr_ext _ (Nat.le_refl _) (fun i hi => ⟨e i hi, rfl⟩)
/-- there is a wedding -/
def D1 (F : Fam) (j : Nat) : Nat := if wA F - 1 - j < min (wA F) (wB F) then hi F 1 (fN F) (wA F - 1 - j) else 6
theorem D1_lay {F : Fam} (hn : fN F ≤ 6) (g : Nat → Nat) (c : Nat → Int) : ∀ j, j ≤ wA F → ∃ had : Nat, ∃ m : Int, lay g c (wA F) (D1 F) j = some (had, min (wA F) (wB F) - (wA F - j), m) ∧ 0 ≤ m ∧ ∀ x, had.testBit x = true → ∃ i, wA F - j ≤ i ∧ i < min (wA F) (wB F) ∧ x = hi F 1 (fN F) i := by
  intro j
  induction j with
  | zero =>
    intro _
    refine ⟨0, 0, ?_, Int.le_refl 0, fun x hx => by rw [Nat.zero_testBit] at hx; exact absurd hx (by decide)⟩
    show some (0, 0, 0) = _
    rw [show min (wA F) (wB F) - (wA F - 0) = 0 by omega]
  | succ j ih =>
    intro hj
    obtain ⟨had, m, h1, h2, h3⟩ := ih (by omega)
    rw [lay_s, h1]
    by_cases hi1 : wA F - 1 - j < min (wA F) (wB F)
    · have e : D1 F j = hi F 1 (fN F) (wA F - 1 - j) := if_pos hi1
      have hib := hi_in (F := F) (h := 1) (p := fN F) (j := wA F - 1 - j) (by unfold wB at hi1; omega)
      have hnt : ¬ had.testBit (hi F 1 (fN F) (wA F - 1 - j)) = true := by
        intro z
        obtain ⟨i, hi2, hi3, hi4⟩ := h3 _ z
        have := hi_mono (F := F) (h := 1) (p := fN F) (i := wA F - 1 - j) (j := i) (by omega) (by unfold wB at hi3; omega)
        omega
      refine ⟨had ||| 2 ^ hi F 1 (fN F) (wA F - 1 - j), max m (c (g (wA F - 1 - j)) + c (hi F 1 (fN F) (wA F - 1 - j))), ?_, by omega, ?_⟩
      · show (if D1 F j = 6 then _ else _) = _
        rw [e, if_neg (by omega), if_neg hnt]
        rw [show min (wA F) (wB F) - (wA F - (j + 1)) = min (wA F) (wB F) - (wA F - j) + 1 by omega]
      · intro x hx
        rw [Nat.testBit_or, Nat.testBit_two_pow, Bool.or_eq_true] at hx
        rcases hx with hx | hx
        · obtain ⟨i, hi2, hi3, hi4⟩ := h3 x hx
          exact ⟨i, by omega, hi3, hi4⟩
        · exact ⟨wA F - 1 - j, by omega, hi1, (of_decide_eq_true hx).symm⟩
    · have e : D1 F j = 6 := if_neg hi1
      refine ⟨had, m, ?_, h2, fun x hx => ?_⟩
      · show (if D1 F j = 6 then some _ else _) = _
        rw [if_pos e]
        rw [show min (wA F) (wB F) - (wA F - (j + 1)) = min (wA F) (wB F) - (wA F - j) by omega]
      · obtain ⟨i, hi2, hi3, hi4⟩ := h3 x hx
        exact ⟨i, by omega, hi3, hi4⟩
theorem D1_ok {F : Fam} (hn : fN F ≤ 6) (s : Sta) : okD F (D1 F) ∧ ¬ wc F s (D1 F) = -1 := by
  constructor
  · intro j hj
    unfold D1
    by_cases z : wA F - 1 - j < min (wA F) (wB F)
    · rw [if_pos z]
      have := hi_in (F := F) (h := 1) (p := fN F) (j := wA F - 1 - j) (by unfold wB at z; omega)
      exact Or.inr ⟨this.1, this.2.1⟩
    · rw [if_neg z]; exact Or.inl rfl
  · obtain ⟨had, m, h1, h2, -⟩ := D1_lay hn (hi F 0 (fN F)) s.1 (wA F) (Nat.le_refl _)
    unfold wc wcost
    rw [h1]
    show ¬ (if _ = _ then m else -1) = -1
    rw [if_pos (by show min (wA F) (wB F) - (wA F - wA F) = _; omega)]
    omega
/-- the digit of a choice -/
def pch (F : Fam) (e : Nat) : Nat := if e < wB F then hi F 1 (fN F) e else 6
theorem pch_lt {F : Fam} (hn : fN F ≤ 6) (x : Nat) : pch F x < 7 := by
  unfold pch
  split
  · rename_i z
    have := hi_in (F := F) (h := 1) (p := fN F) (j := x) z
    omega
  · omega
theorem pch_mono {F : Fam} (hn : fN F ≤ 6) (x y : Nat) (hxy : x < y) (hy : y < wB F + 1) : pch F x < pch F y := by
  unfold pch
  rw [if_pos (show x < wB F by omega)]
  by_cases z : y < wB F
  · rw [if_pos z]; exact hi_mono hxy z
  · rw [if_neg z]
    have := hi_in (F := F) (h := 1) (p := fN F) (j := x) (show x < hz F 1 (fN F) by unfold wB at hy; omega)
    omega
theorem Dw_pch (F : Fam) (w : Nat) : Dw (hi F 1 (fN F)) (wB F) w = fun j => pch F (w / (wB F + 1) ^ j % (wB F + 1)) := rfl
theorem okD_w (F : Fam) (w : Nat) : okD F (Dw (hi F 1 (fN F)) (wB F) w) := by
  intro j _
  unfold Dw
  by_cases z : w / (wB F + 1) ^ j % (wB F + 1) < wB F
  · rw [if_pos z]
    have := hi_in (F := F) (h := 1) (p := fN F) z
    exact Or.inr ⟨this.1, this.2.1⟩
  · rw [if_neg z]; exact Or.inl rfl
theorem w_of {F : Fam} {D : Nat → Nat} (h : okD F D) : ∃ w, w < (wB F + 1) ^ wA F ∧ ∀ j, j < wA F → Dw (hi F 1 (fN F)) (wB F) w j = D j := by
  have hB : 0 < wB F + 1 := by omega
  let e : Nat → Nat := fun j => if D j = 6 then wB F else hz F 1 (D j)
  have he : ∀ j, j < wA F → e j < wB F + 1 := by
    intro j hj
    show (if D j = 6 then wB F else hz F 1 (D j)) < wB F + 1
    rcases h j hj with z | z
    · rw [if_pos z]; omega
    · have := hz_mono F 1 (p := D j) (q := fN F) (by omega)
      unfold wB
      split <;> omega
  refine ⟨cdB (wB F + 1) e (wA F), cdB_lt hB _ _ he, fun j hj => ?_⟩
  unfold Dw
  rw [cdB_dig hB _ _ he j hj]
  show (if (if D j = 6 then wB F else hz F 1 (D j)) < wB F then hi F 1 (fN F) (if D j = 6 then wB F else hz F 1 (D j)) else 6) = D j
  by_cases z6 : D j = 6
  · rw [if_pos z6, if_neg (by omega), z6]
  · rcases h j hj with z | z
    · exact absurd z z6
    · have h1 := hz_mono F 1 (p := D j + 1) (q := fN F) (by omega)
      rw [hz_s, if_pos z.2] at h1
      rw [if_neg z6, if_pos (by unfold wB; omega), hi_at z.1 z.2]
theorem wc_ext {F : Fam} {s : Sta} {D E : Nat → Nat} (h : ∀ j, j < wA F → D j = E j) : wc F s D = wc F s E := by
  unfold wc wcost
  rw [lay_ext (wA F) (Nat.le_refl _) (fun i hi => ⟨h i hi, rfl, fun _ => rfl⟩)]
/-- the first best way -/
theorem WedB.of {F : Fam} {s : Sta} (hn : fN F ≤ 6) {x : Nat} (hx : x < (wB F + 1) ^ wA F) (h1 : ¬ wc F s (Dw (hi F 1 (fN F)) (wB F) x) = -1) (h2 : ∀ w, w < (wB F + 1) ^ wA F → ¬ wc F s (Dw (hi F 1 (fN F)) (wB F) w) = -1 → wc F s (Dw (hi F 1 (fN F)) (wB F) x) < wc F s (Dw (hi F 1 (fN F)) (wB F) w) ∨ (wc F s (Dw (hi F 1 (fN F)) (wB F) x) = wc F s (Dw (hi F 1 (fN F)) (wB F) w) ∧ x ≤ w)) : WedB F s (Dw (hi F 1 (fN F)) (wB F) x) := by
  have hB : 0 < wB F + 1 := by omega
  refine ⟨okD_w F x, h1, fun D' hD' hc => ?_⟩
  obtain ⟨w, hw, hwD⟩ := w_of hD'
  have e := wc_ext (s := s) hwD
  rw [← e] at hc ⊢
  rcases h2 w hw hc with z | ⟨z1, z2⟩
  · exact Or.inl z
  · refine Or.inr ⟨z1, ?_⟩
    rw [← cdB_ext (B := 7) (wA F) _ D' hwD]
    by_cases exw : x = w
    · rw [exw]; exact Nat.le_refl _
    · refine Nat.le_of_lt ?_
      rw [Dw_pch, Dw_pch]
      exact cdB_mono (B := wB F + 1) (C := 7) (f := pch F) (fun x _ => pch_lt hn x) (pch_mono hn) (wA F) (fun j => x / (wB F + 1) ^ j % (wB F + 1)) (fun j => w / (wB F + 1) ^ j % (wB F + 1)) (fun j _ => Nat.mod_lt _ hB) (fun j _ => Nat.mod_lt _ hB) (by rw [cdB_rep hB _ _ hx, cdB_rep hB _ _ hw]; omega)
def LW (σ0 σ : Hp) (f : Nat) : Prop := Fr [12, 13, 34] σ0 σ ∧ (∀ j, j < wA (famX σ0 f) → σ 12 j = (hi (famX σ0 f) 0 (fN (famX σ0 f)) j : Nat)) ∧ ∀ j, j < wB (famX σ0 f) → σ 13 j = (hi (famX σ0 f) 1 (fN (famX σ0 f)) j : Nat)
theorem LW.dw {σ0 σ : Hp} {f : Nat} (h : LW σ0 σ f) (w : Nat) : Dw (nf (σ 13)) (wB (famX σ0 f)) w = Dw (hi (famX σ0 f) 1 (fN (famX σ0 f))) (wB (famX σ0 f)) w := by
  funext j
  unfold Dw
  by_cases z : w / (wB (famX σ0 f) + 1) ^ j % (wB (famX σ0 f) + 1) < wB (famX σ0 f)
  · rw [if_pos z, if_pos z]
    unfold nf
    rw [h.2.2 _ z, Int.toNat_natCast]
  · rw [if_neg z, if_neg z]
theorem LW.g {σ0 σ : Hp} {f : Nat} (h : LW σ0 σ f) {j : Nat} (hj : j < wA (famX σ0 f)) : nf (σ 12) j = hi (famX σ0 f) 0 (fN (famX σ0 f)) j := by
  unfold nf
  rw [h.2.1 j hj, Int.toNat_natCast]
theorem LW_wc {σ0 σ : Hp} {f : Nat} (h : LW σ0 σ f) (hn : fN (famX σ0 f) ≤ 6) (w : Nat) : wcost (nf (σ 12)) (σ 32) (wA (famX σ0 f)) (min (wA (famX σ0 f)) (wB (famX σ0 f))) (Dw (nf (σ 13)) (wB (famX σ0 f)) w) = wc (famX σ0 f) (stX σ0 31) (Dw (hi (famX σ0 f) 1 (fN (famX σ0 f))) (wB (famX σ0 f)) w) := by
  have e32 : σ 32 = σ0 32 := h.1 32 (by decide)
  rw [h.dw w, e32]
  unfold wc wcost
  rw [lay_ext (g := nf (σ 12)) (g' := hi (famX σ0 f) 0 (fN (famX σ0 f))) (c := σ0 32) (c' := (stX σ0 31).1) (D := Dw (hi (famX σ0 f) 1 (fN (famX σ0 f))) (wB (famX σ0 f)) w) (D' := Dw (hi (famX σ0 f) 1 (fN (famX σ0 f))) (wB (famX σ0 f)) w) (wA (famX σ0 f)) (Nat.le_refl _) (fun i hi => ?_)]
  have hgi := hi_in (F := famX σ0 f) (h := 0) (p := fN (famX σ0 f)) (j := wA (famX σ0 f) - 1 - i) (by show _ < wA (famX σ0 f); omega)
  refine ⟨rfl, ?_, fun hne => ?_⟩
  · rw [h.g (by omega)]; exact (tr_in (by omega)).symm
  · rcases okD_w (famX σ0 f) w i hi with z | z
    · exact absurd z hne
    · exact (tr_in (by omega)).symm
def Ou_findWedding_pre (k f q w n : Nat) (σ : Hp) : Prop := k = 3 ∧ q = 31 ∧ OW σ f ∧ w = 34 ∧ n = 6
def Ou_findWedding_post (_k f _q _w _n : Nat) (σ : Hp) (r : Int) (σ' : Hp) : Prop := Fr [12, 13, 34] σ σ' ∧ WedR (famX σ f) (stX σ 31) r (σ' 34)
def Ou_findWedding_I44 (_k f _q _w _n : Nat) (σ0 : Hp) (m : Nat) (v4 v5 v6 v7 v8 : Int) (σ : Hp) : Prop := ∃ i : Nat, LW σ0 σ f ∧ ¬ min (wA (famX σ0 f)) (wB (famX σ0 f)) = 0 ∧ v4 = (wA (famX σ0 f) : Nat) ∧ v5 = (wB (famX σ0 f) : Nat) ∧ v6 = (min (wA (famX σ0 f)) (wB (famX σ0 f)) : Nat) ∧ v8 = i ∧ i ≤ wA (famX σ0 f) ∧ m = 2000000 - i ∧ v7 = ((wB (famX σ0 f) + 1) ^ i : Nat)
def Ou_findWedding_I75 (_k f _q _w _n : Nat) (σ0 : Hp) (m : Nat) (v4 v5 v6 v7 v8 v9 v10 : Int) (σ : Hp) : Prop := ∃ i : Nat, LW σ0 σ f ∧ ¬ min (wA (famX σ0 f)) (wB (famX σ0 f)) = 0 ∧ v4 = (wA (famX σ0 f) : Nat) ∧ v5 = (wB (famX σ0 f) : Nat) ∧ v6 = (min (wA (famX σ0 f)) (wB (famX σ0 f)) : Nat) ∧ v7 = ((wB (famX σ0 f) + 1) ^ wA (famX σ0 f) : Nat) ∧ v10 = i ∧ i ≤ (wB (famX σ0 f) + 1) ^ wA (famX σ0 f) ∧ m = (wB (famX σ0 f) + 1) ^ wA (famX σ0 f) - i ∧ ((v8 = -1 ∧ ∀ w, w < i → wc (famX σ0 f) (stX σ0 31) (Dw (hi (famX σ0 f) 1 (fN (famX σ0 f))) (wB (famX σ0 f)) w) = -1) ∨ ∃ x : Nat, x < i ∧ v9 = x ∧ v8 = wc (famX σ0 f) (stX σ0 31) (Dw (hi (famX σ0 f) 1 (fN (famX σ0 f))) (wB (famX σ0 f)) x) ∧ ¬ v8 = -1 ∧ ∀ w, w < i → ¬ wc (famX σ0 f) (stX σ0 31) (Dw (hi (famX σ0 f) 1 (fN (famX σ0 f))) (wB (famX σ0 f)) w) = -1 → v8 < wc (famX σ0 f) (stX σ0 31) (Dw (hi (famX σ0 f) 1 (fN (famX σ0 f))) (wB (famX σ0 f)) w) ∨ (v8 = wc (famX σ0 f) (stX σ0 31) (Dw (hi (famX σ0 f) 1 (fN (famX σ0 f))) (wB (famX σ0 f)) w) ∧ x ≤ w))
def Ou_findWedding_bk : List (Nat × List Item) := [(0, [(.aload_n 1, 1, [], []), (.iconst 0, 1, [], []), (.aload_n 0, 1, [], []), (.getfield 34, 3, [4, 6, 4, 9, 1, 6], []), (.invokestatic 114, 3, [0], []), (.istore 4, 2, [], []), (.aload_n 1, 1, [], []), (.iconst 1, 1, [], []), (.aload_n 0, 1, [], []), (.getfield 37, 3, [4, 7, 4, 10, 1, 6], []), (.invokestatic 114, 3, [0], []), (.istore 5, 2, [], []), (.iload 4, 2, [], []), (.iload 5, 2, [], []), (.invokestatic 118, 3, [1], []), (.istore 6, 2, [], []), (.iload 6, 2, [], []), (.ifCond .ne 5, 3, [38], []), (.iconst (-1), 1, [], []), (.ireturn, 1, [], [])]),
  (38, [(.iconst 1, 1, [], []), (.istore 7, 2, [], []), (.iconst 0, 1, [], []), (.istore 8, 2, [], [])]),
  (44, [(.iload 8, 2, [], []), (.iload 4, 2, [], []), (.if_icmp .ge 18, 3, [66], []), (.iload 7, 2, [], []), (.iload 5, 2, [], []), (.iconst 1, 1, [], []), (.iadd, 1, [], []), (.imul, 1, [], []), (.istore 7, 2, [], []), (.iinc 8 1, 3, [], []), (.goto (-19), 3, [44], [])]),
  (66, [(.iconst (-1), 1, [], []), (.istore 8, 2, [], []), (.iconst 0, 1, [], []), (.istore 9, 2, [], []), (.iconst 0, 1, [], []), (.istore 10, 2, [], [])]),
  (75, [(.iload 10, 2, [], []), (.iload 7, 2, [], []), (.if_icmp .ge 51, 3, [130], []), (.aload_n 0, 1, [], []), (.aload_n 2, 1, [], []), (.iload 10, 2, [], []), (.iload 4, 2, [], []), (.iload 5, 2, [], []), (.iload 6, 2, [], []), (.invokevirtual 123, 3, [2], []), (.istore 11, 2, [], []), (.iload 11, 2, [], []), (.iconst (-1), 1, [], []), (.if_icmp .eq 24, 3, [124], []), (.iload 8, 2, [], []), (.iconst (-1), 1, [], []), (.if_icmp .eq 10, 3, [116], []), (.iload 11, 2, [], []), (.iload 8, 2, [], []), (.if_icmp .ge 11, 3, [124], [])]),
  (116, [(.iload 11, 2, [], []), (.istore 8, 2, [], []), (.iload 10, 2, [], []), (.istore 9, 2, [], [])]),
  (124, [(.iinc 10 1, 3, [], []), (.goto (-52), 3, [75], [])]),
  (130, [(.aload_n 0, 1, [], []), (.aload_n 1, 1, [], []), (.iload 9, 2, [], []), (.iload 4, 2, [], []), (.iload 5, 2, [], []), (.aload_n 3, 1, [], []), (.invokevirtual 127, 3, [3], []), (.iload 8, 2, [], []), (.ireturn, 1, [], [])])]
def Ou_findWedding_cl : List (Instr × Nat) := [(.invokestatic 114, 0), (.invokestatic 118, 1), (.invokevirtual 123, 2), (.invokevirtual 127, 3)]
set_option maxRecDepth 20000 in
theorem Ou_findWedding_ck : Ou_findWedding_bk.all (fun b => ax_chB 4 12 cX4_findWedding Ou_findWedding_cl b.1 b.2) = true := by decide +kernel
def Ou_findWedding_cs : Ct := (4, 5, 1, (0, 0), fun as σ => (match as with
    | [.inr (.inr (.inl (k, 0, 4))), .inr (.inr (.inl (q1, 0, 1))), .inr (.inr (.inl (q2, 0, 7))), .inr (.inr (.inl (q3, 1, n3)))] => Ou_findWedding_pre k q1 q2 q3 n3 σ
    | _ => False), fun as σ r σ' => (match as with
    | [.inr (.inr (.inl (k, 0, 4))), .inr (.inr (.inl (q1, 0, 1))), .inr (.inr (.inl (q2, 0, 7))), .inr (.inr (.inl (q3, 1, n3)))] => Ou_findWedding_post k q1 q2 q3 n3 σ r σ'
    | _ => False))
theorem Ou_findWedding_w : ∀ w ∈ ([.instanceMethod yX4_findWedding, .selects yX4_findWedding.cls yX4_findWedding yX4_findWedding, .initialized yX4_findWedding.cls, .code yX4_findWedding cX4_findWedding 12 (some .int)] : List Cond), w ∈ ax_tb := ax_w4 (ax_m4 162 (by decide +kernel) rfl) (ax_m4 163 (by decide +kernel) rfl) (ax_m1 3 (by decide +kernel) rfl) (ax_m4 164 (by decide +kernel) rfl)
theorem Ou_findWedding_ds : yX4_findWedding.cls ≠ "java/lang/invoke/MethodHandle" ∧ yX4_findWedding.cls ≠ "java/lang/invoke/VarHandle" ∧ (parseMethodDescriptor yX4_findWedding.desc).map (fun d => d.parameters.length) = some 3 := by decide +kernel
def Ou_findWedding_vc : Prop := ∀ (k : Nat) (q1 : Nat) (q2 : Nat) (q3 : Nat) (n3 : Nat) (σ : Hp), ax_H σ → Ou_findWedding_pre k q1 q2 q3 n3 σ →
  Ou_listHouse_pre q1 0 (k + 9) 6 σ ∧
  ∀ (r2 : Int) (σ1 : Hp), Ou_listHouse_post q1 0 (k + 9) 6 σ r2 σ1 →
  Ou_listHouse_pre q1 1 (k + 10) 6 σ1 ∧
  ∀ (r4 : Int) (σ3 : Hp), Ou_listHouse_post q1 1 (k + 10) 6 σ1 r4 σ3 →
  Jm_min_pre r2 r4 σ3 ∧
  ∀ (r6 : Int) (σ5 : Hp), Jm_min_post r2 r4 σ3 r6 σ5 →
  (¬ r6 = 0 →
    ∃ n' : Nat, k = k ∧ q1 = q1 ∧ q2 = q2 ∧ n3 = n3 ∧ q3 = q3 ∧ Ou_findWedding_I44 k q1 q2 q3 n3 σ n' r2 r4 r6 1 0 σ5) ∧
  (¬ (¬ r6 = 0) →
    Ou_findWedding_post k q1 q2 q3 n3 σ (-1) σ5)
def Ou_findWedding_vc44 : Prop := ∀ (k : Nat) (q1 : Nat) (q2 : Nat) (q3 : Nat) (n3 : Nat) (σ0 : Hp), Ou_findWedding_pre k q1 q2 q3 n3 σ0 → ∀ (n : Nat) (v4 : Int) (v5 : Int) (v6 : Int) (v7 : Int) (v8 : Int) (σ : Hp), ax_H σ → Ou_findWedding_I44 k q1 q2 q3 n3 σ0 n v4 v5 v6 v7 v8 σ →
  (v4 ≤ v8 →
    ∃ n' : Nat, n' < n ∧ k = k ∧ q1 = q1 ∧ q2 = q2 ∧ n3 = n3 ∧ q3 = q3 ∧ Ou_findWedding_I75 k q1 q2 q3 n3 σ0 n' v4 v5 v6 v7 (-1) 0 0 σ) ∧
  (¬ (v4 ≤ v8) →
    ∃ n' : Nat, n' < n ∧ k = k ∧ q1 = q1 ∧ q2 = q2 ∧ n3 = n3 ∧ q3 = q3 ∧ Ou_findWedding_I44 k q1 q2 q3 n3 σ0 n' v4 v5 v6 (wr (v7 * (wr (v5 + 1)))) (wr (v8 + 1)) σ)
def Ou_findWedding_vc75 : Prop := ∀ (k : Nat) (q1 : Nat) (q2 : Nat) (q3 : Nat) (n3 : Nat) (σ0 : Hp), Ou_findWedding_pre k q1 q2 q3 n3 σ0 → ∀ (n : Nat) (v4 : Int) (v5 : Int) (v6 : Int) (v7 : Int) (v8 : Int) (v9 : Int) (v10 : Int) (σ : Hp), ax_H σ → Ou_findWedding_I75 k q1 q2 q3 n3 σ0 n v4 v5 v6 v7 v8 v9 v10 σ →
  (v7 ≤ v10 →
    Ou_putWedding_pre k q1 v9 v4 v5 q3 n3 σ ∧
    ∀ σ1 : Hp, Ou_putWedding_post k q1 v9 v4 v5 q3 n3 σ σ1 →
    Ou_findWedding_post k q1 q2 q3 n3 σ0 v8 σ1) ∧
  (¬ (v7 ≤ v10) →
    Ou_mostOfWay_pre k q2 v10 v4 v5 v6 σ ∧
    ∀ (r3 : Int) (σ2 : Hp), Ou_mostOfWay_post k q2 v10 v4 v5 v6 σ r3 σ2 →
    (r3 = (-1) →
      ∃ n' : Nat, n' < n ∧ k = k ∧ q1 = q1 ∧ q2 = q2 ∧ n3 = n3 ∧ q3 = q3 ∧ Ou_findWedding_I75 k q1 q2 q3 n3 σ0 n' v4 v5 v6 v7 v8 v9 (wr (v10 + 1)) σ2) ∧
    (¬ (r3 = (-1)) →
      (v8 = (-1) →
        ∃ n' : Nat, n' < n ∧ k = k ∧ q1 = q1 ∧ q2 = q2 ∧ n3 = n3 ∧ q3 = q3 ∧ Ou_findWedding_I75 k q1 q2 q3 n3 σ0 n' v4 v5 v6 v7 r3 v10 (wr (v10 + 1)) σ2) ∧
      (¬ (v8 = (-1)) →
        (v8 ≤ r3 →
          ∃ n' : Nat, n' < n ∧ k = k ∧ q1 = q1 ∧ q2 = q2 ∧ n3 = n3 ∧ q3 = q3 ∧ Ou_findWedding_I75 k q1 q2 q3 n3 σ0 n' v4 v5 v6 v7 v8 v9 (wr (v10 + 1)) σ2) ∧
        (¬ (v8 ≤ r3) →
          ∃ n' : Nat, n' < n ∧ k = k ∧ q1 = q1 ∧ q2 = q2 ∧ n3 = n3 ∧ q3 = q3 ∧ Ou_findWedding_I75 k q1 q2 q3 n3 σ0 n' v4 v5 v6 v7 r3 v10 (wr (v10 + 1)) σ2))))
theorem wed_pow {F : Fam} (hn : fN F ≤ 6) {i : Nat} (hi6 : i ≤ wA F) : (wB F + 1) ^ i ≤ 117649 := by
  have h1 : wB F ≤ 6 := Nat.le_trans (hz_le F 1 (fN F)) hn
  have h2 : wA F ≤ 6 := Nat.le_trans (hz_le F 0 (fN F)) hn
  exact Nat.le_trans (Nat.pow_le_pow_left (show wB F + 1 ≤ 7 by omega) i) (Nat.le_trans (Nat.pow_le_pow_right (by decide) (show i ≤ 6 by omega)) (by decide))
theorem Ou_findWedding_p : Ou_findWedding_vc := by
  intro k f q w n σ hH hp
  obtain ⟨rfl, rfl, hW, rfl, rfl⟩ := hp
  refine ⟨⟨hW.1, hW.2.1, Or.inl rfl, rfl⟩, ?_⟩
  rintro r2 σ1 ⟨hf1, rfl, hr1⟩
  have hf1' : Fr [12, 13, 34] σ σ1 := hf1.mono (by simp)
  have c3 : ∀ c ∈ [12, 13, 34], c ∈ sg f 4 ∨ c = 3 ∨ (7 ≤ c ∧ c ≤ 13) ∨ c = 34 := by
    intro c hc
    simp only [List.mem_cons, List.not_mem_nil, or_false] at hc
    omega
  obtain ⟨hW1, hfam, hnow⟩ := hW.keep hf1' c3
  refine ⟨⟨hW1.1, hW1.2.1, Or.inr rfl, rfl⟩, ?_⟩
  rintro r4 σ3 ⟨hf3, rfl, hr3⟩
  rw [hfam] at *
  refine ⟨trivial, ?_⟩
  rintro r6 σ5 ⟨rfl, rfl⟩
  have hL : LW σ σ5 f := ⟨hf1'.tr (hf3.mono (by simp)), fun j hj => by rw [hf3 12 (by decide)]; exact hr1 j hj, fun j hj => hr3 j hj⟩
  have eA : hz (famX σ f) 0 (fN (famX σ f)) = wA (famX σ f) := rfl
  have eB : hz (famX σ f) 1 (fN (famX σ f)) = wB (famX σ f) := rfl
  rw [eA, eB]
  refine ⟨fun h => ⟨2000000, rfl, rfl, rfl, rfl, rfl, 0, hL, by omega, rfl, rfl, by omega, rfl, by omega, rfl, by simp⟩, fun h => ⟨hL.1, Or.inl ⟨by omega, rfl⟩⟩⟩
theorem Ou_findWedding_p44 : Ou_findWedding_vc44 := by
  intro k f q w n σ0 hp m v4 v5 v6 v7 v8 σ hH hI
  obtain ⟨rfl, rfl, hW, rfl, rfl⟩ := hp
  obtain ⟨i, hL, hd, rfl, rfl, rfl, rfl, hi6, rfl, rfl⟩ := hI
  have hn6 := hW.2.1.n6
  have hB6 : wB (famX σ0 f) ≤ 6 := Nat.le_trans (hz_le (famX σ0 f) 1 (fN (famX σ0 f))) hn6
  have hA6 : wA (famX σ0 f) ≤ 6 := Nat.le_trans (hz_le (famX σ0 f) 0 (fN (famX σ0 f))) hn6
  have hpw := wed_pow hn6 (i := wA (famX σ0 f)) (Nat.le_refl _)
  refine ⟨fun h => ⟨(wB (famX σ0 f) + 1) ^ wA (famX σ0 f), by omega, rfl, rfl, rfl, rfl, rfl, 0, hL, hd, rfl, rfl, rfl, by rw [show wA (famX σ0 f) = i by omega], rfl, by omega, rfl, Or.inl ⟨rfl, fun w hw => absurd hw (Nat.not_lt_zero w)⟩⟩, fun h => ⟨2000000 - (i + 1), by omega, rfl, rfl, rfl, rfl, rfl, i + 1, hL, hd, rfl, rfl, rfl, by rw [wr1 (by omega) (by omega)]; simp, by omega, rfl, ?_⟩⟩
  have hp1 : (wB (famX σ0 f) + 1) ^ i.succ ≤ 117649 := wed_pow hn6 (i := i + 1) (by omega)
  rw [wr1 (by omega) (by omega), show ((wB (famX σ0 f) : Nat) : Int) + 1 = ((wB (famX σ0 f) + 1 : Nat) : Int) by simp, ← Int.natCast_mul, ← Nat.pow_succ, wr_id (by omega) (by omega)]
theorem Ou_findWedding_p75 : Ou_findWedding_vc75 := by
  intro k f q w n σ0 hp m v4 v5 v6 v7 v8 v9 v10 σ hH hI
  obtain ⟨rfl, rfl, hW, rfl, rfl⟩ := hp
  obtain ⟨i, hL, hd, rfl, rfl, rfl, rfl, rfl, hiw, rfl, hb⟩ := hI
  have hn6 := hW.2.1.n6
  have hB6 : wB (famX σ0 f) ≤ 6 := Nat.le_trans (hz_le (famX σ0 f) 1 (fN (famX σ0 f))) hn6
  have hA6 : wA (famX σ0 f) ≤ 6 := Nat.le_trans (hz_le (famX σ0 f) 0 (fN (famX σ0 f))) hn6
  have hpw := wed_pow hn6 (i := wA (famX σ0 f)) (Nat.le_refl _)
  have c3 : ∀ c ∈ [12, 13, 34], c ∈ sg f 4 ∨ c = 3 ∨ (7 ≤ c ∧ c ≤ 13) ∨ c = 34 := by
    intro c hc
    simp only [List.mem_cons, List.not_mem_nil, or_false] at hc
    omega
  obtain ⟨hW1, hfam, hnow⟩ := hW.keep hL.1 c3
  have h12 : ∀ j : Nat, (j : Int) < (wA (famX σ0 f) : Nat) → 0 ≤ σ 12 j ∧ σ 12 j < 6 := by
    intro j hj
    have := hi_in (F := famX σ0 f) (h := 0) (p := fN (famX σ0 f)) (j := j) (show j < wA (famX σ0 f) by omega)
    rw [hL.2.1 j (by omega)]
    omega
  have h13 : ∀ j : Nat, (j : Int) < (wB (famX σ0 f) : Nat) → 0 ≤ σ 13 j ∧ σ 13 j < 6 := by
    intro j hj
    have := hi_in (F := famX σ0 f) (h := 1) (p := fN (famX σ0 f)) (j := j) (show j < wB (famX σ0 f) by omega)
    rw [hL.2.2 j (by omega)]
    omega
  have hinj : ∀ i j : Nat, (i : Int) < (wB (famX σ0 f) : Nat) → (j : Int) < (wB (famX σ0 f) : Nat) → σ 13 i = σ 13 j → i = j := by
    intro i j hi hj e
    rw [hL.2.2 i (by omega), hL.2.2 j (by omega)] at e
    rcases Nat.lt_trichotomy i j with z | z | z
    · have := hi_mono (F := famX σ0 f) (h := 1) (p := fN (famX σ0 f)) z (show j < wB (famX σ0 f) by omega)
      omega
    · exact z
    · have := hi_mono (F := famX σ0 f) (h := 1) (p := fN (famX σ0 f)) z (show i < wB (famX σ0 f) by omega)
      omega
  refine ⟨fun h => ?_, fun h => ?_⟩
  · have ei : i = (wB (famX σ0 f) + 1) ^ wA (famX σ0 f) := by omega
    rcases hb with ⟨-, hno⟩ | ⟨x, hx, rfl, rfl, hne, hall⟩
    · exfalso
      obtain ⟨d1, d2⟩ := D1_ok hn6 (stX σ0 31)
      obtain ⟨w, hw, hwD⟩ := w_of d1
      rw [← wc_ext hwD] at d2
      exact d2 (hno w (by omega))
    · refine ⟨⟨rfl, rfl, rfl, hW1.1, hW1.2.1, by omega, by omega, by omega, by omega, by omega, by omega, h12, h13⟩, ?_⟩
      rintro σ1 ⟨g1, g2⟩
      refine ⟨hL.1.tr (g1.mono (by simp)), Or.inr ⟨hd, Dw (hi (famX σ0 f) 1 (fN (famX σ0 f))) (wB (famX σ0 f)) x, WedB.of hn6 (by omega) hne (fun w hw hc => hall w (by omega) hc), rfl, fun p hp => ?_⟩⟩
      rw [g2 p (by rw [hfam]; exact hp), Int.toNat_natCast, Int.toNat_natCast, Int.toNat_natCast, hL.dw]
      exact pr_ext _ (Nat.le_refl _) (fun i hi => ⟨rfl, hL.g (by omega)⟩)
  · refine ⟨⟨rfl, rfl, hW1.2.2.1.ss, by omega, by omega, by omega, by omega, by omega, by omega, h12, h13, hinj⟩, ?_⟩
    rintro r3 σ2 ⟨rfl, hr⟩
    have hr' := hr (by omega)
    simp only [Int.toNat_natCast] at hr'
    rw [LW_wc hL hn6 i] at hr'
    rw [wr1 (by omega) (by omega)]
    have go : ∀ (w8 w9 : Int), ((w8 = -1 ∧ ∀ w, w < i + 1 → wc (famX σ0 f) (stX σ0 31) (Dw (hi (famX σ0 f) 1 (fN (famX σ0 f))) (wB (famX σ0 f)) w) = -1) ∨ ∃ x : Nat, x < i + 1 ∧ w9 = x ∧ w8 = wc (famX σ0 f) (stX σ0 31) (Dw (hi (famX σ0 f) 1 (fN (famX σ0 f))) (wB (famX σ0 f)) x) ∧ ¬ w8 = -1 ∧ ∀ w, w < i + 1 → ¬ wc (famX σ0 f) (stX σ0 31) (Dw (hi (famX σ0 f) 1 (fN (famX σ0 f))) (wB (famX σ0 f)) w) = -1 → w8 < wc (famX σ0 f) (stX σ0 31) (Dw (hi (famX σ0 f) 1 (fN (famX σ0 f))) (wB (famX σ0 f)) w) ∨ (w8 = wc (famX σ0 f) (stX σ0 31) (Dw (hi (famX σ0 f) 1 (fN (famX σ0 f))) (wB (famX σ0 f)) w) ∧ x ≤ w)) →
        ∃ n' : Nat, n' < (wB (famX σ0 f) + 1) ^ wA (famX σ0 f) - i ∧ (3 : Nat) = 3 ∧ f = f ∧ (31 : Nat) = 31 ∧ (6 : Nat) = 6 ∧ (34 : Nat) = 34 ∧ Ou_findWedding_I75 3 f 31 34 6 σ0 n' (wA (famX σ0 f) : Nat) (wB (famX σ0 f) : Nat) (min (wA (famX σ0 f)) (wB (famX σ0 f)) : Nat) ((wB (famX σ0 f) + 1) ^ wA (famX σ0 f) : Nat) w8 w9 ((i : Int) + 1) σ2 := by
      intro w8 w9 hh
      exact ⟨(wB (famX σ0 f) + 1) ^ wA (famX σ0 f) - (i + 1), by omega, rfl, rfl, rfl, rfl, rfl, i + 1, hL, hd, rfl, rfl, rfl, rfl, by simp, by omega, rfl, hh⟩
    refine ⟨fun h2 => go v8 v9 ?_, fun h2 => ⟨fun h3 => go r3 i ?_, fun h3 => ⟨fun h4 => go v8 v9 ?_, fun h4 => go r3 i ?_⟩⟩⟩
    · rcases hb with ⟨h8, hno⟩ | ⟨x, hx, rfl, h8, hne, hall⟩
      · refine Or.inl ⟨h8, fun w hw => ?_⟩
        by_cases e : w = i
        · subst e; omega
        · exact hno w (by omega)
      · refine Or.inr ⟨x, by omega, rfl, h8, hne, fun w hw hc => ?_⟩
        by_cases e : w = i
        · subst e; omega
        · exact hall w (by omega) hc
    · rcases hb with ⟨h8, hno⟩ | ⟨x, hx, rfl, h8, hne, hall⟩
      · refine Or.inr ⟨i, by omega, rfl, hr', h2, fun w hw hc => ?_⟩
        by_cases e : w = i
        · subst e; exact Or.inr ⟨hr', Nat.le_refl _⟩
        · exact absurd (hno w (by omega)) hc
      · exact absurd h3 hne
    · rcases hb with ⟨h8, hno⟩ | ⟨x, hx, rfl, h8, hne, hall⟩
      · exact absurd h8 h3
      · refine Or.inr ⟨x, by omega, rfl, h8, hne, fun w hw hc => ?_⟩
        by_cases e : w = i
        · subst e; omega
        · exact hall w (by omega) hc
    · rcases hb with ⟨h8, hno⟩ | ⟨x, hx, rfl, h8, hne, hall⟩
      · exact absurd h8 h3
      · refine Or.inr ⟨i, by omega, rfl, hr', h2, fun w hw hc => ?_⟩
        by_cases e : w = i
        · subst e; exact Or.inr ⟨hr', Nat.le_refl _⟩
        · have := hall w (by omega) hc
          omega
def Ou_findWedding_I : List AV → Hp → Nat → Nat → List AV → List AV → Hp → Prop := fun as σ0 pc n st ls σ => (match as with
    | [.inr (.inr (.inl (k, 0, 4))), .inr (.inr (.inl (q1, 0, 1))), .inr (.inr (.inl (q2, 0, 7))), .inr (.inr (.inl (q3, 1, n3)))] => (bif Nat.beq pc 44 then (match st, ls with
      | [], [.inr (.inr (.inl (k', 0, 4))), .inr (.inr (.inl (q1', 0, 1))), .inr (.inr (.inl (q2', 0, 7))), .inr (.inr (.inl (q3', 1, n3'))), .inl v4, .inl v5, .inl v6, .inl v7, .inl v8, _, _, _] => k = k' ∧ q1 = q1' ∧ q2 = q2' ∧ n3 = n3' ∧ q3 = q3' ∧ Ou_findWedding_I44 k q1 q2 q3 n3 σ0 n v4 v5 v6 v7 v8 σ
      | _, _ => False) else (bif Nat.beq pc 75 then (match st, ls with
      | [], [.inr (.inr (.inl (k', 0, 4))), .inr (.inr (.inl (q1', 0, 1))), .inr (.inr (.inl (q2', 0, 7))), .inr (.inr (.inl (q3', 1, n3'))), .inl v4, .inl v5, .inl v6, .inl v7, .inl v8, .inl v9, .inl v10, _] => k = k' ∧ q1 = q1' ∧ q2 = q2' ∧ n3 = n3' ∧ q3 = q3' ∧ Ou_findWedding_I75 k q1 q2 q3 n3 σ0 n v4 v5 v6 v7 v8 v9 v10 σ
      | _, _ => False) else False))
    | _ => False)
def Ou_findWedding_ct : Nat → Ct := fun n => match n with
  | 0 => Ou_listHouse_cs
  | 1 => Jm_min_cs
  | 2 => Ou_mostOfWay_cs
  | 3 => Ou_putWedding_cs
  | _ => Ou_findWedding_cs
set_option maxRecDepth 20000 in
set_option maxHeartbeats 4000000 in
theorem Ou_findWedding_met {l : Launch} {D : va_G} {ad : Nat → Nat} {ca : Nat → ClassId} {L : Nat} {fx : Nat → Int} : ax_MC l D ad ca L fx yX4_findWedding cX4_findWedding 12 (some .int) 3 Ou_findWedding_cs := by
  refine ax_met (oc := 4) (ct := Ou_findWedding_ct) (calls := Ou_findWedding_cl) (bs := Ou_findWedding_bk) (cut := fun pc => Nat.beq pc 44 || Nat.beq pc 75) (f := 9) (I := Ou_findWedding_I) (by decide) rfl rfl Ou_findWedding_ck (List.forall_mem_cons.mpr ⟨ax_cwS Ou_listHouse_met (by decide) (by decide) (ax_m4 165 (by decide +kernel) rfl) Ou_listHouse_w rfl Ou_listHouse_ds, List.forall_mem_cons.mpr ⟨ax_cwMin (by decide) (ax_m4 168 (by decide +kernel) rfl), List.forall_mem_cons.mpr ⟨ax_cwV Ou_mostOfWay_met (by decide) (by decide) rfl (by decide) rfl (ax_m4 169 (by decide +kernel) rfl) Ou_mostOfWay_w rfl Ou_mostOfWay_ds, List.forall_mem_cons.mpr ⟨ax_cwV Ou_putWedding_met (by decide) (by decide) rfl (by decide) rfl (ax_m4 174 (by decide +kernel) rfl) Ou_putWedding_w rfl Ou_putWedding_ds, fun _ h => absurd h List.not_mem_nil⟩⟩⟩⟩) ?_ ?_
  · intro as σ0 hp hH
    match as, hp with
    | [.inr (.inr (.inl (k, 0, 4))), .inr (.inr (.inl (q1, 0, 1))), .inr (.inr (.inl (q2, 0, 7))), .inr (.inr (.inl (q3, 1, n3)))], hp => exact ⟨rfl, Ou_findWedding_p k q1 q2 q3 n3 σ0 hH hp⟩
  · intro as σ0 hp n pc st ls σ hH hI
    match as, hp, hI with
    | [.inr (.inr (.inl (k, 0, 4))), .inr (.inr (.inl (q1, 0, 1))), .inr (.inr (.inl (q2, 0, 7))), .inr (.inr (.inl (q3, 1, n3)))], hp, hI =>
      rcases ax_bifE hI with ⟨hpc, hI⟩ | ⟨-, hI⟩
      · have := Nat.eq_of_beq_eq_true hpc
        subst this
        match st, ls, hI with
        | [], [.inr (.inr (.inl (k', 0, 4))), .inr (.inr (.inl (q1', 0, 1))), .inr (.inr (.inl (q2', 0, 7))), .inr (.inr (.inl (q3', 1, n3'))), .inl v4, .inl v5, .inl v6, .inl v7, .inl v8, _, _, _], hI =>
          obtain ⟨rfl, rfl, rfl, rfl, rfl, hI⟩ := hI
          exact Ou_findWedding_p44 k q1 q2 q3 n3 σ0 hp n v4 v5 v6 v7 v8 σ hH hI
      rcases ax_bifE hI with ⟨hpc, hI⟩ | ⟨-, hI⟩
      · have := Nat.eq_of_beq_eq_true hpc
        subst this
        match st, ls, hI with
        | [], [.inr (.inr (.inl (k', 0, 4))), .inr (.inr (.inl (q1', 0, 1))), .inr (.inr (.inl (q2', 0, 7))), .inr (.inr (.inl (q3', 1, n3'))), .inl v4, .inl v5, .inl v6, .inl v7, .inl v8, .inl v9, .inl v10, _], hI =>
          obtain ⟨rfl, rfl, rfl, rfl, rfl, hI⟩ := hI
          exact Ou_findWedding_p75 k q1 q2 q3 n3 σ0 hp n v4 v5 v6 v7 v8 v9 v10 σ hH hI
      exact False.elim hI
