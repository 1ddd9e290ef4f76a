-- THE MODEL'S READER: the stack and the steps of a formula
def sop (c : Int) : Int := if c = 20 then 1 else if c = 21 then -6 else cso c
def vop (c : Int) : Prop := c = 20 ∨ c = 21 ∨ c = 124 ∨ c = 38 ∨ c = 60 ∨ c = 62 ∨ c = 61 ∨ c = 43 ∨ c = 45 ∨ c = 42 ∨ c = 47 ∨ c = 37
def tgM (c : Int) : Int := if c = 124 then 1 else if c = 38 then 2 else if c = 21 then 3 else if c = 60 ∨ c = 62 ∨ c = 61 then 4 else if c = 43 ∨ c = 45 then 5 else 6
theorem vop_all {c : Int} (h : vop c) : (sop c = 1 ↔ c = 20) ∧ (sop c = -6 ↔ c = 21) ∧ (¬ c = 20 → tgM c = (tg (sop c) : Int)) ∧ (¬ c = 20 → ¬ c = 21 → sop c = cod 3 c ∧ -16 ≤ sop c ∧ sop c ≤ -7) := by
  rcases h with rfl | rfl | rfl | rfl | rfl | rfl | rfl | rfl | rfl | rfl | rfl | rfl <;> decide
def stk (f : Nat → Int) : Nat → List Int
  | 0 => []
  | n + 1 => sop (f n) :: stk f n
theorem stk_ext {f g : Nat → Int} : ∀ n, (∀ i, i < n → f i = g i) → stk f n = stk g n := by
  intro n
  induction n with
  | zero => intro _; rfl
  | succ n ih => intro h; show sop (f n) :: stk f n = sop (g n) :: stk g n; rw [h n (by omega), ih (fun i hi => h i (by omega))]
def ems (f g : Nat → Int) (b : Nat) : Nat → List Int
  | 0 => []
  | n + 1 => ems f g b n ++ [cod (f (b + n)) (g (b + n))]
theorem ems_len (f g : Nat → Int) (b : Nat) : ∀ n, (ems f g b n).length = n := by
  intro n
  induction n with
  | zero => rfl
  | succ n ih => show (ems f g b n ++ [_]).length = n + 1; rw [List.length_append, ih]; rfl
theorem ems_ext {f g f' g' : Nat → Int} {b : Nat} : ∀ n, (∀ i, i < n → f (b + i) = f' (b + i) ∧ g (b + i) = g' (b + i)) → ems f g b n = ems f' g' b n := by
  intro n
  induction n with
  | zero => intro _; rfl
  | succ n ih =>
    intro h
    show ems f g b n ++ [_] = ems f' g' b n ++ [_]
    rw [ih (fun i hi => h i (by omega)), (h n (by omega)).1, (h n (by omega)).2]
theorem ems_at (f g : Nat → Int) (b : Nat) : ∀ n j, j < n → (ems f g b n).getD j 0 = cod (f (b + j)) (g (b + j)) := by
  intro n
  induction n with
  | zero => intro j hj; omega
  | succ n ih =>
    intro j hj
    show (ems f g b n ++ [_]).getD j 0 = _
    by_cases e : j = n
    · subst e
      rw [List.getD_eq_getElem?_getD, List.getElem?_append_right (by rw [ems_len]; omega), ems_len, Nat.sub_self]
      rfl
    · rw [List.getD_eq_getElem?_getD, List.getElem?_append_left (by rw [ems_len]; omega), ← List.getD_eq_getElem?_getD]
      exact ih j (by omega)
def nb : List Int → Nat
  | [] => 0
  | x :: S => nb S + (if x = 1 then 0 else 1)
def GS : List Int → Prop
  | [] => True
  | x :: S => GS S ∧ (x = 1 ∨ x = -6 ∨ tt S < tg x)
theorem tg_R (x : Int) : 1 ≤ tg x ∧ tg x ≤ 6 := by
  unfold tg
  repeat' split
  all_goals omega
theorem tt_R (S : List Int) : tt S ≤ 6 := by
  cases S with
  | nil => exact Nat.zero_le _
  | cons x S =>
    show (if x = 1 then 0 else tg x) ≤ 6
    have := tg_R x
    split <;> omega
theorem GS_len : ∀ S : List Int, GS S → S.length ≤ 7 * dpt S + tt S := by
  intro S
  induction S with
  | nil => intro _; exact Nat.zero_le _
  | cons x S ih =>
    rintro ⟨h1, h2⟩
    have h3 := ih h1
    have h4 := tt_R S
    show S.length + 1 ≤ 7 * (dpt S + (if x = 1 ∨ x = -6 then 1 else 0)) + (if x = 1 then 0 else tg x)
    have h5 := tg_R x
    by_cases e : x = 1
    · rw [if_pos (Or.inl e), if_pos e]; omega
    · rw [if_neg e]
      by_cases e2 : x = -6
      · rw [if_pos (Or.inr e2)]; omega
      · rw [if_neg (fun z => z.elim e e2)]
        rcases h2 with z | z | z
        · exact absurd z e
        · exact absurd z e2
        · omega
theorem cls_nb (t : Nat) : ∀ S E, (cls t S E).2.length + nb (cls t S E).1 = E.length + nb S ∧ E.length ≤ (cls t S E).2.length ∧ dpt (cls t S E).1 ≤ dpt S := by
  intro S
  induction S with
  | nil => intro E; exact ⟨rfl, Nat.le_refl _, Nat.le_refl _⟩
  | cons x S ih =>
    intro E
    unfold cls
    by_cases e : x = 1 ∨ tg x < t
    · rw [if_pos e]; exact ⟨rfl, Nat.le_refl _, Nat.le_refl _⟩
    · rw [if_neg e]
      obtain ⟨i1, i2, i3⟩ := ih (E ++ [x])
      have e1 : nb (x :: S) = nb S + 1 := by show nb S + (if x = 1 then 0 else 1) = _; rw [if_neg (fun z => e (Or.inl z))]
      have e2 : dpt S ≤ dpt (x :: S) := Nat.le_add_right _ _
      rw [List.length_append] at i1 i2
      rw [e1]
      simp at i1 i2
      omega
theorem cls_GS (t : Nat) : ∀ S E, GS S → GS (cls t S E).1 := by
  intro S
  induction S with
  | nil => intro E _; trivial
  | cons x S ih =>
    intro E h
    unfold cls
    by_cases e : x = 1 ∨ tg x < t
    · rw [if_pos e]; exact h
    · rw [if_neg e]; exact ih _ h.1
theorem cls_tt {t : Nat} (ht : 1 ≤ t) : ∀ S E, tt (cls t S E).1 < t := by
  intro S
  induction S with
  | nil => intro E; exact ht
  | cons x S ih =>
    intro E
    unfold cls
    by_cases e : x = 1 ∨ tg x < t
    · rw [if_pos e]
      show (if x = 1 then 0 else tg x) < t
      split
      · omega
      · rcases e with z | z
        · contradiction
        · exact z
    · rw [if_neg e]; exact ih _
theorem cls_br : ∀ S E, hbr S = true → ∃ S', (cls 0 S E).1 = 1 :: S' := by
  intro S
  induction S with
  | nil => intro E h; exact absurd (of_decide_eq_true h) List.not_mem_nil
  | cons x S ih =>
    intro E h
    unfold cls
    by_cases e : x = 1
    · rw [if_pos (Or.inl e), e]; exact ⟨S, rfl⟩
    · rw [if_neg (by omega)]
      refine ih _ (decide_eq_true ?_)
      rcases List.mem_cons.mp (of_decide_eq_true h) with z | z
      · exact absurd z.symm e
      · exact z
-- the cells
abbrev wM (σ : Hp) : Nat := (σ 67 20).toNat
abbrev SkM (σ : Hp) : List Int := stk (σ 76) (σ 67 21).toNat
abbrev EmM (σ : Hp) : List Int := ems (σ 70) (σ 71) (320 * wM σ) (σ 72 (wM σ)).toNat
abbrev uM (σ : Hp) : Nat := (σ 67 24).toNat
def vst (s a : Int) : Prop := (s = 0 ∧ 0 ≤ a) ∨ (s = 1 ∧ 0 ≤ a ∧ a < 5) ∨ s = 2 ∨ s = 3
def FIa (σ : Hp) : Prop := (σ 67 20 = 0 ∨ σ 67 20 = 1) ∧ (0 ≤ σ 67 21 ∧ σ 67 21 ≤ 100) ∧ (∀ i : Nat, (i : Int) < σ 67 21 → vop (σ 76 i)) ∧ 0 ≤ σ 72 (wM σ) ∧ (∀ i : Nat, (i : Int) < σ 72 (wM σ) → vst (σ 70 (320 * wM σ + i)) (σ 71 (320 * wM σ + i))) ∧ (0 ≤ σ 67 24 ∧ σ 67 24 ≤ 30) ∧ (0 ≤ σ 67 22 - σ 67 24 ∧ σ 67 22 - σ 67 24 ≤ 30)
def DPm (σ : Hp) : Prop := σ 67 25 = (dpt (SkM σ) : Int)
def fst (j : Nat) : Prop := ¬ j = 2 ∧ ¬ j = 3 ∧ ¬ j = 4 ∧ ¬ j = 6 ∧ ¬ j = 7 ∧ ¬ j = 8 ∧ ¬ j = 9 ∧ ¬ j = 21 ∧ ¬ j = 22 ∧ ¬ j = 24 ∧ ¬ j = 25
def GFm (σ σ' : Hp) : Prop := Fr [67, 70, 71, 72, 76] σ σ' ∧ (∀ j, fst j → σ' 67 j = σ 67 j) ∧ (∀ j, (j < 320 * wM σ ∨ 320 * wM σ + 320 ≤ j) → σ' 70 j = σ 70 j ∧ σ' 71 j = σ 71 j) ∧ (∀ v, ¬ v = wM σ → σ' 72 v = σ 72 v)
theorem GFm.rf {σ : Hp} : GFm σ σ := ⟨Fr.rf, fun _ _ => rfl, fun _ _ => ⟨rfl, rfl⟩, fun _ _ => rfl⟩
theorem GFm.w {σ σ' : Hp} (h : GFm σ σ') : wM σ' = wM σ := by unfold wM; rw [h.2.1 20 (by unfold fst; omega)]
theorem GFm.tr {σ σ1 σ2 : Hp} (h : GFm σ σ1) (g : GFm σ1 σ2) : GFm σ σ2 := by
  obtain ⟨g1, g2, g3, g4⟩ := g
  rw [h.w] at g3 g4
  exact ⟨h.1.tr g1, fun j hj => (g2 j hj).trans (h.2.1 j hj), fun j hj => ⟨(g3 j hj).1.trans (h.2.2.1 j hj).1, (g3 j hj).2.trans (h.2.2.1 j hj).2⟩, fun v hv => (g4 v hv).trans (h.2.2.2 v hv)⟩
/-- changes of the cell 67 alone -/
theorem GFm.of67 {σ σ' : Hp} (h : Fr [67] σ σ') (h67 : ∀ j, fst j → σ' 67 j = σ 67 j) : GFm σ σ' := by
  have e70 := h 70 (by decide)
  have e71 := h 71 (by decide)
  have e72 := h 72 (by decide)
  exact ⟨h.mono (by simp), h67, fun j _ => ⟨by rw [e70], by rw [e71]⟩, fun v _ => by rw [e72]⟩
theorem RQ.gf {σ σ' : Hp} (h : RQ σ σ') : GFm σ σ' := GFm.of67 h.1 (fun j hj => h.2 j hj.1 hj.2.1 hj.2.2.1 hj.2.2.2.1 hj.2.2.2.2.1 hj.2.2.2.2.2.1 hj.2.2.2.2.2.2.1)
/-- the formula's cells are the same -/
def FE (σ σ' : Hp) : Prop := σ' 70 = σ 70 ∧ σ' 71 = σ 71 ∧ σ' 72 = σ 72 ∧ σ' 76 = σ 76 ∧ σ' 67 20 = σ 67 20 ∧ σ' 67 21 = σ 67 21 ∧ σ' 67 22 = σ 67 22 ∧ σ' 67 24 = σ 67 24 ∧ σ' 67 25 = σ 67 25
theorem FE.keep {σ σ' : Hp} (h : FE σ σ') : SkM σ' = SkM σ ∧ EmM σ' = EmM σ ∧ (FIa σ → FIa σ') ∧ (DPm σ → DPm σ') := by
  obtain ⟨h1, h2, h3, h4, h5, h6, h7, h8, h9⟩ := h
  have es : SkM σ' = SkM σ := by unfold SkM; rw [h4, h6]
  refine ⟨es, by unfold EmM wM; rw [h1, h2, h3, h5], fun g => ?_, fun g => ?_⟩
  · unfold FIa wM at *; rw [h1, h2, h3, h4, h5, h6, h7, h8]; exact g
  · unfold DPm; rw [h9, es]; exact g
theorem RQ.fe {σ σ' : Hp} (h : RQ σ σ') : FE σ σ' := by
  have f : ∀ j, 20 ≤ j → σ' 67 j = σ 67 j := fun j hj => h.2 j (by omega) (by omega) (by omega) (by omega) (by omega) (by omega) (by omega)
  exact ⟨h.1 70 (by decide), h.1 71 (by decide), h.1 72 (by decide), h.1 76 (by decide), f 20 (by decide), f 21 (by decide), f 22 (by decide), f 24 (by decide), f 25 (by decide)⟩
def Mo_add_pre (k : Nat) (_a _b : Int) (σ : Hp) : Prop := k = 67 ∧ (σ 67 20 = 0 ∨ σ 67 20 = 1) ∧ 0 ≤ σ 72 (wM σ) ∧ σ 72 (wM σ) < 320
def Mo_add_post (_k : Nat) (a b : Int) (σ σ' : Hp) : Prop := σ' = hp (hp (hp σ 70 (320 * wM σ + (σ 72 (wM σ)).toNat) a) 71 (320 * wM σ + (σ 72 (wM σ)).toNat) b) 72 (wM σ) (σ 72 (wM σ) + 1)
def Mo_add_bk : List (Nat × List Item) := [(0, [(.aload_n 0, 1, [], []), (.getfield 21, 3, [9, 11, 4, 3, 1, 640], []), (.sipush 320, 3, [], []), (.aload_n 0, 1, [], []), (.getfield 248, 3, [9, 20, 0, 0, 0, 0], []), (.imul, 1, [], []), (.aload_n 0, 1, [], []), (.getfield 27, 3, [9, 13, 4, 5, 1, 2], []), (.aload_n 0, 1, [], []), (.getfield 248, 3, [9, 20, 0, 0, 0, 0], []), (.iaload, 1, [], []), (.iadd, 1, [], []), (.iload_n 1, 1, [], []), (.iastore, 1, [], []), (.aload_n 0, 1, [], []), (.getfield 24, 3, [9, 12, 4, 4, 1, 640], []), (.sipush 320, 3, [], []), (.aload_n 0, 1, [], []), (.getfield 248, 3, [9, 20, 0, 0, 0, 0], []), (.imul, 1, [], []), (.aload_n 0, 1, [], []), (.getfield 27, 3, [9, 13, 4, 5, 1, 2], []), (.aload_n 0, 1, [], []), (.getfield 248, 3, [9, 20, 0, 0, 0, 0], []), (.iaload, 1, [], []), (.iadd, 1, [], []), (.iload_n 2, 1, [], []), (.iastore, 1, [], []), (.aload_n 0, 1, [], []), (.getfield 27, 3, [9, 13, 4, 5, 1, 2], []), (.aload_n 0, 1, [], []), (.getfield 248, 3, [9, 20, 0, 0, 0, 0], []), (.dup2, 1, [], []), (.iaload, 1, [], []), (.iconst 1, 1, [], []), (.iadd, 1, [], []), (.iastore, 1, [], []), (.return_, 1, [], [])])]
def Mo_add_cl : List (Instr × Nat) := []
set_option maxRecDepth 20000 in
theorem Mo_add_ck : Mo_add_bk.all (fun b => ax_chB 9 3 cX9_add Mo_add_cl b.1 b.2) = true := by decide +kernel
def Mo_add_cs : Ct := (3, 10, 0, (0, 0), fun as σ => (match as with
    | [.inr (.inr (.inl (k, 0, 9))), .inl a1, .inl a2] => Mo_add_pre k a1 a2 σ
    | _ => False), fun as σ r σ' => (match as with
    | [.inr (.inr (.inl (k, 0, 9))), .inl a1, .inl a2] => Mo_add_post k a1 a2 σ σ'
    | _ => False))
theorem Mo_add_w : ∀ w ∈ ([.instanceMethod yX9_add, .selects yX9_add.cls yX9_add yX9_add, .initialized yX9_add.cls, .code yX9_add cX9_add 3 none] : List Cond), w ∈ ax_tb := ax_w4 (ax_m7 20 (by decide +kernel) rfl) (ax_m0 29 (by decide +kernel) rfl) (ax_m1 10 (by decide +kernel) rfl) (ax_m7 21 (by decide +kernel) rfl)
theorem Mo_add_ds : yX9_add.cls ≠ "java/lang/invoke/MethodHandle" ∧ yX9_add.cls ≠ "java/lang/invoke/VarHandle" ∧ (parseMethodDescriptor yX9_add.desc).map (fun d => d.parameters.length) = some 2 := by decide +kernel
def Mo_add_vc : Prop := ∀ (k : Nat) (a1 : Int) (a2 : Int) (σ : Hp), ax_H σ → Mo_add_pre k a1 a2 σ →
  (0 ≤ σ k 20 ∧ σ k 20 < 2) ∧
  (0 ≤ wr ((wr (320 * (σ k 20))) + (σ (k + 5) (σ k 20).toNat)) ∧ wr ((wr (320 * (σ k 20))) + (σ (k + 5) (σ k 20).toNat)) < 640) ∧
  ∀ σ1 : Hp, σ1 = hp σ (k + 3) (wr ((wr (320 * (σ k 20))) + (σ (k + 5) (σ k 20).toNat))).toNat a1 →
  (0 ≤ σ1 k 20 ∧ σ1 k 20 < 2) ∧
  (0 ≤ wr ((wr (320 * (σ1 k 20))) + (σ1 (k + 5) (σ1 k 20).toNat)) ∧ wr ((wr (320 * (σ1 k 20))) + (σ1 (k + 5) (σ1 k 20).toNat)) < 640) ∧
  ∀ σ2 : Hp, σ2 = hp σ1 (k + 4) (wr ((wr (320 * (σ1 k 20))) + (σ1 (k + 5) (σ1 k 20).toNat))).toNat a2 →
  (0 ≤ σ2 k 20 ∧ σ2 k 20 < 2) ∧
  (0 ≤ σ2 k 20 ∧ σ2 k 20 < 2) ∧
  ∀ σ3 : Hp, σ3 = hp σ2 (k + 5) (σ2 k 20).toNat (wr ((σ2 (k + 5) (σ2 k 20).toNat) + 1)) →
  Mo_add_post k a1 a2 σ σ3
theorem Mo_add_p : Mo_add_vc := by
  intro k a b σ hH hp0
  obtain ⟨rfl, h20, m0, m1⟩ := hp0
  have e67 : ∀ {c j : Nat} {v : Int}, ¬ (67 : Nat) = c → hp σ c j v 67 = σ 67 := fun h => hp_ne h
  have ei : wr ((wr (320 * (σ 67 20))) + (σ (67 + 5) (σ 67 20).toNat)) = ((320 * wM σ + (σ 72 (wM σ)).toNat : Nat) : Int) := by
    show wr ((wr (320 * (σ 67 20))) + (σ 72 (wM σ))) = _
    have : wM σ = (σ 67 20).toNat := rfl
    rw [wr_id (x := 320 * (σ 67 20)) (by omega) (by omega), wr_id (by omega) (by omega)]
    omega
  have hw : wM σ ≤ 1 := by show (σ 67 20).toNat ≤ 1; omega
  rw [ei, Int.toNat_natCast]
  refine ⟨⟨by omega, by omega⟩, ⟨by omega, by omega⟩, ?_⟩
  intro σ1 hs1
  have a67 : σ1 67 = σ 67 := by rw [hs1]; exact hp_ne (by decide)
  have a72 : σ1 (67 + 5) = σ 72 := by rw [hs1]; exact hp_ne (by decide)
  rw [a67, a72]
  have ei' : wr ((wr (320 * (σ 67 20))) + (σ 72 (σ 67 20).toNat)) = ((320 * wM σ + (σ 72 (wM σ)).toNat : Nat) : Int) := ei
  rw [ei', Int.toNat_natCast]
  refine ⟨⟨by omega, by omega⟩, ⟨by omega, by omega⟩, ?_⟩
  intro σ2 hs2
  have b67 : σ2 67 = σ 67 := by rw [hs2, hp_ne (by decide)]; exact a67
  have b72 : σ2 (67 + 5) = σ 72 := by rw [hs2, hp_ne (by decide)]; exact a72
  rw [b67, b72]
  refine ⟨⟨by omega, by omega⟩, ⟨by omega, by omega⟩, ?_⟩
  intro σ3 hs3
  show σ3 = _
  rw [wr1 m0 (by omega)] at hs3
  rw [hs3, hs2, hs1]
def Mo_add_I : List AV → Hp → Nat → Nat → List AV → List AV → Hp → Prop := fun as σ0 pc n st ls σ => (match as with
    | [.inr (.inr (.inl (k, 0, 9))), .inl a1, .inl a2] => False
    | _ => False)
def Mo_add_ct : Nat → Ct := fun n => match n with
  | _ => Mo_add_cs
set_option maxRecDepth 20000 in
set_option maxHeartbeats 4000000 in
theorem Mo_add_met {l : Launch} {D : va_G} {ad : Nat → Nat} {ca : Nat → ClassId} {L : Nat} {fx : Nat → Int} : ax_MC l D ad ca L fx yX9_add cX9_add 3 none 1 Mo_add_cs := by
  refine ax_met (oc := 9) (ct := Mo_add_ct) (calls := Mo_add_cl) (bs := Mo_add_bk) (cut := fun pc => false) (f := 2) (I := Mo_add_I) (by decide) rfl rfl Mo_add_ck (fun _ h => absurd h List.not_mem_nil) ?_ ?_
  · intro as σ0 hp hH
    match as, hp with
    | [.inr (.inr (.inl (k, 0, 9))), .inl a1, .inl a2], hp => exact ⟨rfl, Mo_add_p k a1 a2 σ0 hH hp⟩
  · intro as σ0 hp n pc st ls σ hH hI
    match as, hp, hI with
    | [.inr (.inr (.inl (k, 0, 9))), .inl a1, .inl a2], hp, hI => exact False.elim hI
theorem add_FI {σ σ' : Hp} {a b : Int} (h : FIa σ) (hm : σ 72 (wM σ) < 320) (hv : vst a b) (g : Mo_add_post 67 a b σ σ') : FIa σ' ∧ SkM σ' = SkM σ ∧ EmM σ' = EmM σ ++ [cod a b] ∧ GFm σ σ' ∧ σ' 67 = σ 67 ∧ σ' 68 = σ 68 := by
  obtain ⟨h1, h2, h3, h4, h5, h6⟩ := h
  have g : σ' = hp (hp (hp σ 70 (320 * wM σ + (σ 72 (wM σ)).toNat) a) 71 (320 * wM σ + (σ 72 (wM σ)).toNat) b) 72 (wM σ) (σ 72 (wM σ) + 1) := g
  have c67 : σ' 67 = σ 67 := by rw [g, hp_ne (by decide), hp_ne (by decide), hp_ne (by decide)]
  have c68 : σ' 68 = σ 68 := by rw [g, hp_ne (by decide), hp_ne (by decide), hp_ne (by decide)]
  have c76 : σ' 76 = σ 76 := by rw [g, hp_ne (by decide), hp_ne (by decide), hp_ne (by decide)]
  have ew : wM σ' = wM σ := by unfold wM; rw [c67]
  have c72 : σ' 72 (wM σ) = σ 72 (wM σ) + 1 := by rw [g, hp_r1]
  have d72 : ∀ v, ¬ v = wM σ → σ' 72 v = σ 72 v := fun v hv => by rw [g, hp_r2 (fun z => hv z.2), hp_ne (by decide), hp_ne (by decide)]
  have c70 : ∀ j, σ' 70 j = if j = 320 * wM σ + (σ 72 (wM σ)).toNat then a else σ 70 j := fun j => by
    rw [g, hp_ne (by decide), hp_ne (by decide)]
    by_cases e : j = 320 * wM σ + (σ 72 (wM σ)).toNat
    · rw [if_pos e, e, hp_r1]
    · rw [if_neg e, hp_r2 (fun z => e z.2)]
  have c71 : ∀ j, σ' 71 j = if j = 320 * wM σ + (σ 72 (wM σ)).toNat then b else σ 71 j := fun j => by
    rw [g, hp_ne (by decide)]
    by_cases e : j = 320 * wM σ + (σ 72 (wM σ)).toNat
    · rw [if_pos e, e, hp_r1]
    · rw [if_neg e, hp_r2 (fun z => e z.2), hp_ne (by decide)]
  have en : (σ 72 (wM σ) + 1).toNat = (σ 72 (wM σ)).toNat + 1 := by omega
  generalize hm' : (σ 72 (wM σ)).toNat = m at *
  refine ⟨⟨by rw [c67]; exact h1, by rw [c67]; exact h2, by rw [c67, c76]; exact h3, by rw [ew, c72]; omega, fun i hi => ?_, by rw [c67]; exact h6⟩, by unfold SkM; rw [c67, c76], ?_, ⟨by rw [g]; exact Fr.hp (Fr.hp (Fr.hp Fr.rf (by simp)) (by simp)) (by simp), fun j _ => by rw [c67], fun j hj => ⟨by rw [c70, if_neg (by omega)], by rw [c71, if_neg (by omega)]⟩, d72⟩, c67, c68⟩
  · rw [ew, c72] at hi
    rw [ew, c70, c71]
    by_cases e : i = m
    · rw [if_pos (by omega), if_pos (by omega)]; exact hv
    · rw [if_neg (by omega), if_neg (by omega)]; exact h5 i (by omega)
  · unfold EmM
    rw [ew, c72, en, hm']
    show ems (σ' 70) (σ' 71) (320 * wM σ) m ++ [cod (σ' 70 (320 * wM σ + m)) (σ' 71 (320 * wM σ + m))] = _
    rw [c70, if_pos rfl, c71, if_pos rfl]
    congr 1
    exact ems_ext m (fun i hi => ⟨by rw [c70, if_neg (by omega)], by rw [c71, if_neg (by omega)]⟩)
def Mo_tight_pre (_ : Int) (_ : Hp) : Prop := True
def Mo_tight_post (a : Int) (σ : Hp) (r : Int) (σ' : Hp) : Prop := σ' = σ ∧ r = tgM a
def Mo_tight_bk : List (Nat × List Item) := [(0, [(.iload_n 0, 1, [], []), (.lookupswitch 85 #[(21, 79), (38, 77), (43, 83), (45, 83), (60, 81), (61, 81), (62, 81), (124, 75)], 75, [], [(21, 80), (38, 78), (43, 84), (45, 84), (60, 82), (61, 82), (62, 82), (124, 76), (0, 86)])]),
  (76, [(.iconst 1, 1, [], []), (.ireturn, 1, [], [])]),
  (78, [(.iconst 2, 1, [], []), (.ireturn, 1, [], [])]),
  (80, [(.iconst 3, 1, [], []), (.ireturn, 1, [], [])]),
  (82, [(.iconst 4, 1, [], []), (.ireturn, 1, [], [])]),
  (84, [(.iconst 5, 1, [], []), (.ireturn, 1, [], [])]),
  (86, [(.bipush 6, 2, [], []), (.ireturn, 1, [], [])])]
def Mo_tight_cl : List (Instr × Nat) := []
set_option maxRecDepth 20000 in
theorem Mo_tight_ck : Mo_tight_bk.all (fun b => ax_chB 9 1 cX9_tight Mo_tight_cl b.1 b.2) = true := by decide +kernel
def Mo_tight_cs : Ct := (1, 0, 1, (0, 0), fun as σ => (match as with
    | [.inl a1] => Mo_tight_pre a1 σ
    | _ => False), fun as σ r σ' => (match as with
    | [.inl a1] => Mo_tight_post a1 σ r σ'
    | _ => False))
theorem Mo_tight_w : ∀ w ∈ ([.static yX9_tight, .initialized yX9_tight.cls, .code yX9_tight cX9_tight 1 (some .int)] : List Cond), w ∈ ax_tb := ax_w3 (ax_m7 0 (by decide +kernel) rfl) (ax_m1 10 (by decide +kernel) rfl) (ax_m7 1 (by decide +kernel) rfl)
theorem Mo_tight_ds : yX9_tight.cls ≠ "java/lang/invoke/MethodHandle" ∧ yX9_tight.cls ≠ "java/lang/invoke/VarHandle" ∧ (parseMethodDescriptor yX9_tight.desc).map (fun d => d.parameters.length) = some 1 := by decide +kernel
def Mo_tight_vc : Prop := ∀ (a1 : Int) (σ : Hp), ax_H σ → Mo_tight_pre a1 σ →
  (a1 = 21 →
    Mo_tight_post a1 σ 3 σ) ∧
  (¬ a1 = 21 →
    (a1 = 38 →
    Mo_tight_post a1 σ 2 σ) ∧
  (¬ a1 = 38 →
    (a1 = 43 →
    Mo_tight_post a1 σ 5 σ) ∧
  (¬ a1 = 43 →
    (a1 = 45 →
    Mo_tight_post a1 σ 5 σ) ∧
  (¬ a1 = 45 →
    (a1 = 60 →
    Mo_tight_post a1 σ 4 σ) ∧
  (¬ a1 = 60 →
    (a1 = 61 →
    Mo_tight_post a1 σ 4 σ) ∧
  (¬ a1 = 61 →
    (a1 = 62 →
    Mo_tight_post a1 σ 4 σ) ∧
  (¬ a1 = 62 →
    (a1 = 124 →
    Mo_tight_post a1 σ 1 σ) ∧
  (¬ a1 = 124 →
    Mo_tight_post a1 σ 6 σ))))))))
theorem Mo_tight_p : Mo_tight_vc := by
  intro a σ hH hp
  have key : ∀ r : Int, r = tgM a → Mo_tight_post a σ r σ := fun r h => ⟨rfl, h⟩
  refine ⟨fun h => key _ (by rw [h]; rfl), fun h1 => ⟨fun h => key _ (by rw [h]; rfl), fun h2 => ⟨fun h => key _ (by rw [h]; rfl), fun h3 => ⟨fun h => key _ (by rw [h]; rfl), fun h4 => ⟨fun h => key _ (by rw [h]; rfl), fun h5 => ⟨fun h => key _ (by rw [h]; rfl), fun h6 => ⟨fun h => key _ (by rw [h]; rfl), fun h7 => ⟨fun h => key _ (by rw [h]; rfl), fun h8 => key _ ?_⟩⟩⟩⟩⟩⟩⟩⟩
  unfold tgM
  rw [if_neg h8, if_neg h2, if_neg h1, if_neg (by omega), if_neg (by omega)]
def Mo_tight_I : List AV → Hp → Nat → Nat → List AV → List AV → Hp → Prop := fun as σ0 pc n st ls σ => (match as with
    | [.inl a1] => False
    | _ => False)
def Mo_tight_ct : Nat → Ct := fun n => match n with
  | _ => Mo_tight_cs
set_option maxRecDepth 20000 in
set_option maxHeartbeats 4000000 in
theorem Mo_tight_met {l : Launch} {D : va_G} {ad : Nat → Nat} {ca : Nat → ClassId} {L : Nat} {fx : Nat → Int} : ax_MC l D ad ca L fx yX9_tight cX9_tight 1 (some .int) 1 Mo_tight_cs := by
  refine ax_met (oc := 9) (ct := Mo_tight_ct) (calls := Mo_tight_cl) (bs := Mo_tight_bk) (cut := fun pc => false) (f := 8) (I := Mo_tight_I) (by decide) rfl rfl Mo_tight_ck (fun _ h => absurd h List.not_mem_nil) ?_ ?_
  · intro as σ0 hp hH
    match as, hp with
    | [.inl a1], hp => exact ⟨rfl, Mo_tight_p a1 σ0 hH hp⟩
  · intro as σ0 hp n pc st ls σ hH hI
    match as, hp, hI with
    | [.inl a1], hp, hI => exact False.elim hI
def Mo_hasRelation_pre (k : Nat) (σ : Hp) : Prop := k = 67 ∧ FIa σ
def Mo_hasRelation_post (_k : Nat) (σ : Hp) (r : Int) (σ' : Hp) : Prop := σ' = σ ∧ r = if hrel (SkM σ) = true then 1 else 0
def Mo_hasRelation_I7 (_k : Nat) (σ0 : Hp) (n : Nat) (v1 : Int) (σ : Hp) : Prop := σ = σ0 ∧ ∃ i : Nat, v1 = (i : Int) - 1 ∧ (i : Int) ≤ σ0 67 21 ∧ n = i + 1 ∧ hrel (SkM σ0) = hrel (stk (σ0 76) i)
def Mo_hasRelation_I41 (_k : Nat) (σ0 : Hp) (n : Nat) (v1 : Int) (σ : Hp) : Prop := σ = σ0 ∧ n = 0 ∧ ∃ i : Nat, v1 = (i : Int) - 1 ∧ (i : Int) ≤ σ0 67 21 ∧ hrel (SkM σ0) = hrel (stk (σ0 76) i) ∧ (1 ≤ i → σ0 76 (i - 1) = 20 ∨ tgM (σ0 76 (i - 1)) ≤ 4)
def Mo_hasRelation_bk : List (Nat × List Item) := [(0, [(.aload_n 0, 1, [], []), (.getfield 251, 3, [9, 21, 0, 0, 0, 0], []), (.iconst 1, 1, [], []), (.isub, 1, [], []), (.istore_n 1, 1, [], [])]),
  (7, [(.iload_n 1, 1, [], []), (.ifCond .lt 33, 3, [41], []), (.aload_n 0, 1, [], []), (.getfield 39, 3, [9, 17, 4, 9, 1, 160], []), (.iload_n 1, 1, [], []), (.iaload, 1, [], []), (.bipush 20, 2, [], []), (.if_icmp .eq 22, 3, [41], []), (.aload_n 0, 1, [], []), (.getfield 39, 3, [9, 17, 4, 9, 1, 160], []), (.iload_n 1, 1, [], []), (.iaload, 1, [], []), (.invokestatic 254, 3, [0], []), (.iconst 4, 1, [], []), (.if_icmp .le 9, 3, [41], []), (.iinc 1 (-1), 3, [], []), (.goto (-31), 3, [7], [])]),
  (41, [(.iload_n 1, 1, [], []), (.ifCond .lt 31, 3, [73], []), (.aload_n 0, 1, [], []), (.getfield 39, 3, [9, 17, 4, 9, 1, 160], []), (.iload_n 1, 1, [], []), (.iaload, 1, [], []), (.bipush 20, 2, [], []), (.if_icmp .eq 20, 3, [73], []), (.aload_n 0, 1, [], []), (.getfield 39, 3, [9, 17, 4, 9, 1, 160], []), (.iload_n 1, 1, [], []), (.iaload, 1, [], []), (.invokestatic 254, 3, [0], []), (.iconst 4, 1, [], []), (.if_icmp .ne 7, 3, [73], []), (.iconst 1, 1, [], []), (.goto 4, 3, [74], [])]),
  (73, [(.iconst 0, 1, [], [])]),
  (74, [(.ireturn, 1, [], [])])]
def Mo_hasRelation_cl : List (Instr × Nat) := [(.invokestatic 254, 0)]
set_option maxRecDepth 20000 in
theorem Mo_hasRelation_ck : Mo_hasRelation_bk.all (fun b => ax_chB 9 2 cX9_hasRelation Mo_hasRelation_cl b.1 b.2) = true := by decide +kernel
def Mo_hasRelation_cs : Ct := (1, 10, 2, (0, 0), fun as σ => (match as with
    | [.inr (.inr (.inl (k, 0, 9)))] => Mo_hasRelation_pre k σ
    | _ => False), fun as σ r σ' => (match as with
    | [.inr (.inr (.inl (k, 0, 9)))] => Mo_hasRelation_post k σ r σ'
    | _ => False))
theorem Mo_hasRelation_w : ∀ w ∈ ([.instanceMethod yX9_hasRelation, .selects yX9_hasRelation.cls yX9_hasRelation yX9_hasRelation, .initialized yX9_hasRelation.cls, .code yX9_hasRelation cX9_hasRelation 2 (some .boolean)] : List Cond), w ∈ ax_tb := ax_w4 (ax_m7 36 (by decide +kernel) rfl) (ax_m0 33 (by decide +kernel) rfl) (ax_m1 10 (by decide +kernel) rfl) (ax_m7 37 (by decide +kernel) rfl)
theorem Mo_hasRelation_ds : yX9_hasRelation.cls ≠ "java/lang/invoke/MethodHandle" ∧ yX9_hasRelation.cls ≠ "java/lang/invoke/VarHandle" ∧ (parseMethodDescriptor yX9_hasRelation.desc).map (fun d => d.parameters.length) = some 0 := by decide +kernel
def Mo_hasRelation_vc : Prop := ∀ (k : Nat) (σ : Hp), ax_H σ → Mo_hasRelation_pre k σ →
  ∃ n' : Nat, k = k ∧ Mo_hasRelation_I7 k σ n' (wr ((σ k 21) - 1)) σ
def Mo_hasRelation_vc7 : Prop := ∀ (k : Nat) (σ0 : Hp), Mo_hasRelation_pre k σ0 → ∀ (n : Nat) (v1 : Int) (σ : Hp), ax_H σ → Mo_hasRelation_I7 k σ0 n v1 σ →
  (v1 < 0 →
    ∃ n' : Nat, n' < n ∧ k = k ∧ Mo_hasRelation_I41 k σ0 n' v1 σ) ∧
  (¬ (v1 < 0) →
    (0 ≤ v1 ∧ v1 < 160) ∧
    (σ (k + 9) v1.toNat = 20 →
      ∃ n' : Nat, n' < n ∧ k = k ∧ Mo_hasRelation_I41 k σ0 n' v1 σ) ∧
    (¬ (σ (k + 9) v1.toNat = 20) →
      (0 ≤ v1 ∧ v1 < 160) ∧
      Mo_tight_pre (σ (k + 9) v1.toNat) σ ∧
      ∀ (r2 : Int) (σ1 : Hp), Mo_tight_post (σ (k + 9) v1.toNat) σ r2 σ1 →
      (r2 ≤ 4 →
        ∃ n' : Nat, n' < n ∧ k = k ∧ Mo_hasRelation_I41 k σ0 n' v1 σ1) ∧
      (¬ (r2 ≤ 4) →
        ∃ n' : Nat, n' < n ∧ k = k ∧ Mo_hasRelation_I7 k σ0 n' (wr (v1 + (-1))) σ1)))
def Mo_hasRelation_vc41 : Prop := ∀ (k : Nat) (σ0 : Hp), Mo_hasRelation_pre k σ0 → ∀ (n : Nat) (v1 : Int) (σ : Hp), ax_H σ → Mo_hasRelation_I41 k σ0 n v1 σ →
  (v1 < 0 →
    ((0 : Int) = 0 ∨ (0 : Int) = 1) ∧ Mo_hasRelation_post k σ0 0 σ) ∧
  (¬ (v1 < 0) →
    (0 ≤ v1 ∧ v1 < 160) ∧
    (σ (k + 9) v1.toNat = 20 →
      ((0 : Int) = 0 ∨ (0 : Int) = 1) ∧ Mo_hasRelation_post k σ0 0 σ) ∧
    (¬ (σ (k + 9) v1.toNat = 20) →
      (0 ≤ v1 ∧ v1 < 160) ∧
      Mo_tight_pre (σ (k + 9) v1.toNat) σ ∧
      ∀ (r2 : Int) (σ1 : Hp), Mo_tight_post (σ (k + 9) v1.toNat) σ r2 σ1 →
      (¬ r2 = 4 →
        ((0 : Int) = 0 ∨ (0 : Int) = 1) ∧ Mo_hasRelation_post k σ0 0 σ1) ∧
      (¬ (¬ r2 = 4) →
        ((1 : Int) = 0 ∨ (1 : Int) = 1) ∧ Mo_hasRelation_post k σ0 1 σ1)))
theorem Mo_hasRelation_p : Mo_hasRelation_vc := by
  intro k σ hH hp
  obtain ⟨rfl, hF⟩ := hp
  have h21 := hF.2.1
  rw [wr_id (by omega) (by omega)]
  exact ⟨_, rfl, rfl, (σ 67 21).toNat, by omega, by omega, rfl, rfl⟩
theorem Mo_hasRelation_p7 : Mo_hasRelation_vc7 := by
  intro k σ0 hp n v1 σ hH hI
  obtain ⟨rfl, hF⟩ := hp
  obtain ⟨rfl, i, rfl, hi, rfl, hr⟩ := hI
  have h21 := hF.2.1
  refine ⟨fun h => ⟨0, by omega, rfl, rfl, rfl, i, rfl, hi, hr, fun z => by omega⟩, fun h => ?_⟩
  have ei : ((i : Int) - 1).toNat = i - 1 := by omega
  rw [ei]
  refine ⟨⟨by omega, by omega⟩, fun h2 => ⟨0, by omega, rfl, rfl, rfl, i, rfl, hi, hr, fun _ => Or.inl h2⟩, fun h2 => ⟨⟨by omega, by omega⟩, trivial, ?_⟩⟩
  rintro r6 σ5 ⟨rfl, rfl⟩
  refine ⟨fun h3 => ⟨0, by omega, rfl, rfl, rfl, i, rfl, hi, hr, fun _ => Or.inr h3⟩, fun h3 => ⟨i, by omega, rfl, rfl, i - 1, by rw [wr_id (by omega) (by omega)]; omega, by omega, by omega, ?_⟩⟩
  rw [hr]
  obtain ⟨m, rfl⟩ : ∃ m, i = m + 1 := ⟨i - 1, by omega⟩
  have e1 : m + 1 - 1 = m := rfl
  rw [e1] at h2 h3 ⊢
  have hv := vop_all (hF.2.2.1 m (by omega))
  have h2' : ¬ σ5 76 m = 20 := h2
  have h3' : ¬ tgM (σ5 76 m) ≤ 4 := h3
  show (if sop (σ5 76 m) = 1 then false else if 4 < tg (sop (σ5 76 m)) then hrel (stk (σ5 76) m) else decide (tg (sop (σ5 76 m)) = 4)) = _
  have := hv.2.2.1 h2'
  rw [if_neg (fun z => h2' (hv.1.mp z)), if_pos (by omega)]
theorem Mo_hasRelation_p41 : Mo_hasRelation_vc41 := by
  intro k σ0 hp n v1 σ hH hI
  obtain ⟨rfl, hF⟩ := hp
  obtain ⟨rfl, rfl, i, rfl, hi, hr, hx⟩ := hI
  have h21 := hF.2.1
  have no : hrel (SkM σ) = false → ((0 : Int) = 0 ∨ (0 : Int) = 1) ∧ Mo_hasRelation_post 67 σ 0 σ := fun h => ⟨Or.inl rfl, rfl, by rw [h]; rfl⟩
  refine ⟨fun h => no ?_, fun h => ?_⟩
  · rw [hr, show i = 0 by omega]; rfl
  · obtain ⟨m, rfl⟩ : ∃ m, i = m + 1 := ⟨i - 1, by omega⟩
    have ei : (((m + 1 : Nat) : Int) - 1).toNat = m := by omega
    rw [ei]
    have hv := vop_all (hF.2.2.1 m (by omega))
    have hr' : hrel (SkM σ) = if sop (σ 76 m) = 1 then false else if 4 < tg (sop (σ 76 m)) then hrel (stk (σ 76) m) else decide (tg (sop (σ 76 m)) = 4) := hr
    refine ⟨⟨by omega, by omega⟩, fun h2 => no ?_, fun h2 => ⟨⟨by omega, by omega⟩, trivial, ?_⟩⟩
    · rw [hr', if_pos (hv.1.mpr h2)]
    · have h2' : ¬ σ 76 m = 20 := h2
      have h3 : tgM (σ 76 m) ≤ 4 := by
        rcases hx (by omega) with z | z
        · exact absurd z h2'
        · exact z
      have h4 := hv.2.2.1 h2'
      rw [if_neg (fun z => h2' (hv.1.mp z)), if_neg (by omega)] at hr'
      rintro r4 σ3 ⟨rfl, rfl⟩
      refine ⟨fun z => no (by rw [hr']; exact decide_eq_false (fun y => z (by show tgM (σ3 76 m) = 4; omega))), fun z => ⟨Or.inr rfl, rfl, ?_⟩⟩
      have z' : tgM (σ3 76 m) = 4 := Classical.not_not.mp z
      rw [hr', decide_eq_true (by omega)]
      rfl
def Mo_hasRelation_I : List AV → Hp → Nat → Nat → List AV → List AV → Hp → Prop := fun as σ0 pc n st ls σ => (match as with
    | [.inr (.inr (.inl (k, 0, 9)))] => (bif Nat.beq pc 7 then (match st, ls with
      | [], [.inr (.inr (.inl (k', 0, 9))), .inl v1] => k = k' ∧ Mo_hasRelation_I7 k σ0 n v1 σ
      | _, _ => False) else (bif Nat.beq pc 41 then (match st, ls with
      | [], [.inr (.inr (.inl (k', 0, 9))), .inl v1] => k = k' ∧ Mo_hasRelation_I41 k σ0 n v1 σ
      | _, _ => False) else False))
    | _ => False)
def Mo_hasRelation_ct : Nat → Ct := fun n => match n with
  | 0 => Mo_tight_cs
  | _ => Mo_hasRelation_cs
set_option maxRecDepth 20000 in
set_option maxHeartbeats 4000000 in
theorem Mo_hasRelation_met {l : Launch} {D : va_G} {ad : Nat → Nat} {ca : Nat → ClassId} {L : Nat} {fx : Nat → Int} : ax_MC l D ad ca L fx yX9_hasRelation cX9_hasRelation 2 (some .boolean) 2 Mo_hasRelation_cs := by
  refine ax_met (oc := 9) (ct := Mo_hasRelation_ct) (calls := Mo_hasRelation_cl) (bs := Mo_hasRelation_bk) (cut := fun pc => Nat.beq pc 7 || Nat.beq pc 41) (f := 6) (I := Mo_hasRelation_I) (by decide) rfl rfl Mo_hasRelation_ck (List.forall_mem_cons.mpr ⟨ax_cwS Mo_tight_met (by decide) (by decide) (ax_m6 239 (by decide +kernel) rfl) Mo_tight_w rfl Mo_tight_ds, fun _ h => absurd h List.not_mem_nil⟩) ?_ ?_
  · intro as σ0 hp hH
    match as, hp with
    | [.inr (.inr (.inl (k, 0, 9)))], hp => exact ⟨rfl, Mo_hasRelation_p k σ0 hH hp⟩
  · intro as σ0 hp n pc st ls σ hH hI
    match as, hp, hI with
    | [.inr (.inr (.inl (k, 0, 9)))], hp, hI =>
      rcases ax_bifE hI with ⟨hpc, hI⟩ | ⟨-, hI⟩
      · have := Nat.eq_of_beq_eq_true hpc
        subst this
        match st, ls, hI with
        | [], [.inr (.inr (.inl (k', 0, 9))), .inl v1], hI =>
          obtain ⟨rfl, hI⟩ := hI
          exact Mo_hasRelation_p7 k σ0 hp n v1 σ hH hI
      rcases ax_bifE hI with ⟨hpc, hI⟩ | ⟨-, hI⟩
      · have := Nat.eq_of_beq_eq_true hpc
        subst this
        match st, ls, hI with
        | [], [.inr (.inr (.inl (k', 0, 9))), .inl v1], hI =>
          obtain ⟨rfl, hI⟩ := hI
          exact Mo_hasRelation_p41 k σ0 hp n v1 σ hH hI
      exact False.elim hI
def Mo_mayNot_pre (k : Nat) (σ : Hp) : Prop := k = 67 ∧ FIa σ
def Mo_mayNot_post (_k : Nat) (σ : Hp) (r : Int) (σ' : Hp) : Prop := σ' = σ ∧ r = if tt (SkM σ) < 4 then 1 else 0
def Mo_mayNot_bk : List (Nat × List Item) := [(0, [(.aload_n 0, 1, [], []), (.getfield 251, 3, [9, 21, 0, 0, 0, 0], []), (.ifCond .eq 37, 3, [41], []), (.aload_n 0, 1, [], []), (.getfield 39, 3, [9, 17, 4, 9, 1, 160], []), (.aload_n 0, 1, [], []), (.getfield 251, 3, [9, 21, 0, 0, 0, 0], []), (.iconst 1, 1, [], []), (.isub, 1, [], []), (.iaload, 1, [], []), (.bipush 20, 2, [], []), (.if_icmp .eq 21, 3, [41], []), (.aload_n 0, 1, [], []), (.getfield 39, 3, [9, 17, 4, 9, 1, 160], []), (.aload_n 0, 1, [], []), (.getfield 251, 3, [9, 21, 0, 0, 0, 0], []), (.iconst 1, 1, [], []), (.isub, 1, [], []), (.iaload, 1, [], []), (.invokestatic 254, 3, [0], []), (.iconst 4, 1, [], []), (.if_icmp .ge 7, 3, [45], [])]),
  (41, [(.iconst 1, 1, [], []), (.goto 4, 3, [46], [])]),
  (45, [(.iconst 0, 1, [], [])]),
  (46, [(.ireturn, 1, [], [])])]
def Mo_mayNot_cl : List (Instr × Nat) := [(.invokestatic 254, 0)]
set_option maxRecDepth 20000 in
theorem Mo_mayNot_ck : Mo_mayNot_bk.all (fun b => ax_chB 9 1 cX9_mayNot Mo_mayNot_cl b.1 b.2) = true := by decide +kernel
def Mo_mayNot_cs : Ct := (1, 10, 2, (0, 0), fun as σ => (match as with
    | [.inr (.inr (.inl (k, 0, 9)))] => Mo_mayNot_pre k σ
    | _ => False), fun as σ r σ' => (match as with
    | [.inr (.inr (.inl (k, 0, 9)))] => Mo_mayNot_post k σ r σ'
    | _ => False))
theorem Mo_mayNot_w : ∀ w ∈ ([.instanceMethod yX9_mayNot, .selects yX9_mayNot.cls yX9_mayNot yX9_mayNot, .initialized yX9_mayNot.cls, .code yX9_mayNot cX9_mayNot 1 (some .boolean)] : List Cond), w ∈ ax_tb := ax_w4 (ax_m6 237 (by decide +kernel) rfl) (ax_m0 24 (by decide +kernel) rfl) (ax_m1 10 (by decide +kernel) rfl) (ax_m6 238 (by decide +kernel) rfl)
theorem Mo_mayNot_ds : yX9_mayNot.cls ≠ "java/lang/invoke/MethodHandle" ∧ yX9_mayNot.cls ≠ "java/lang/invoke/VarHandle" ∧ (parseMethodDescriptor yX9_mayNot.desc).map (fun d => d.parameters.length) = some 0 := by decide +kernel
def Mo_mayNot_vc : Prop := ∀ (k : Nat) (σ : Hp), ax_H σ → Mo_mayNot_pre k σ →
  (σ k 21 = 0 →
    ((1 : Int) = 0 ∨ (1 : Int) = 1) ∧ Mo_mayNot_post k σ 1 σ) ∧
  (¬ (σ k 21 = 0) →
    (0 ≤ wr ((σ k 21) - 1) ∧ wr ((σ k 21) - 1) < 160) ∧
    (σ (k + 9) (wr ((σ k 21) - 1)).toNat = 20 →
      ((1 : Int) = 0 ∨ (1 : Int) = 1) ∧ Mo_mayNot_post k σ 1 σ) ∧
    (¬ (σ (k + 9) (wr ((σ k 21) - 1)).toNat = 20) →
      (0 ≤ wr ((σ k 21) - 1) ∧ wr ((σ k 21) - 1) < 160) ∧
      Mo_tight_pre (σ (k + 9) (wr ((σ k 21) - 1)).toNat) σ ∧
      ∀ (r2 : Int) (σ1 : Hp), Mo_tight_post (σ (k + 9) (wr ((σ k 21) - 1)).toNat) σ r2 σ1 →
      (4 ≤ r2 →
        ((0 : Int) = 0 ∨ (0 : Int) = 1) ∧ Mo_mayNot_post k σ 0 σ1) ∧
      (¬ (4 ≤ r2) →
        ((1 : Int) = 0 ∨ (1 : Int) = 1) ∧ Mo_mayNot_post k σ 1 σ1)))
theorem Mo_mayNot_p : Mo_mayNot_vc := by
  intro k σ hH hp
  obtain ⟨rfl, hF⟩ := hp
  have h21 := hF.2.1
  refine ⟨fun h => ⟨Or.inr rfl, rfl, ?_⟩, fun h => ?_⟩
  · have : SkM σ = [] := by unfold SkM; rw [h]; rfl
    rw [this]; rfl
  · obtain ⟨m, hm⟩ : ∃ m : Nat, σ 67 21 = ((m + 1 : Nat) : Int) := ⟨(σ 67 21).toNat - 1, by omega⟩
    have ei : (wr ((σ 67 21) - 1)) = (m : Int) := by rw [wr_id (by omega) (by omega)]; omega
    rw [ei, Int.toNat_natCast]
    have hv := vop_all (hF.2.2.1 m (by omega))
    have eS : tt (SkM σ) = if sop (σ 76 m) = 1 then 0 else tg (sop (σ 76 m)) := by
      have : SkM σ = sop (σ 76 m) :: stk (σ 76) m := by unfold SkM; rw [hm, Int.toNat_natCast]; rfl
      rw [this]; rfl
    refine ⟨⟨by omega, by omega⟩, fun h2 => ⟨Or.inr rfl, rfl, ?_⟩, fun h2 => ⟨⟨by omega, by omega⟩, trivial, ?_⟩⟩
    · rw [eS, if_pos (hv.1.mpr h2)]; rfl
    · have h2' : ¬ σ 76 m = 20 := h2
      have h4 := hv.2.2.1 h2'
      rw [if_neg (fun z => h2' (hv.1.mp z))] at eS
      rintro r2 σ1 ⟨rfl, rfl⟩
      refine ⟨fun z => ⟨Or.inl rfl, rfl, ?_⟩, fun z => ⟨Or.inr rfl, rfl, ?_⟩⟩
      · have z' : 4 ≤ tgM (σ1 76 m) := z
        rw [eS, if_neg (by omega)]
      · have z' : ¬ 4 ≤ tgM (σ1 76 m) := z
        rw [eS, if_pos (by omega)]
def Mo_mayNot_I : List AV → Hp → Nat → Nat → List AV → List AV → Hp → Prop := fun as σ0 pc n st ls σ => (match as with
    | [.inr (.inr (.inl (k, 0, 9)))] => False
    | _ => False)
def Mo_mayNot_ct : Nat → Ct := fun n => match n with
  | 0 => Mo_tight_cs
  | _ => Mo_mayNot_cs
set_option maxRecDepth 20000 in
set_option maxHeartbeats 4000000 in
theorem Mo_mayNot_met {l : Launch} {D : va_G} {ad : Nat → Nat} {ca : Nat → ClassId} {L : Nat} {fx : Nat → Int} : ax_MC l D ad ca L fx yX9_mayNot cX9_mayNot 1 (some .boolean) 2 Mo_mayNot_cs := by
  refine ax_met (oc := 9) (ct := Mo_mayNot_ct) (calls := Mo_mayNot_cl) (bs := Mo_mayNot_bk) (cut := fun pc => false) (f := 5) (I := Mo_mayNot_I) (by decide) rfl rfl Mo_mayNot_ck (List.forall_mem_cons.mpr ⟨ax_cwS Mo_tight_met (by decide) (by decide) (ax_m6 239 (by decide +kernel) rfl) Mo_tight_w rfl Mo_tight_ds, fun _ h => absurd h List.not_mem_nil⟩) ?_ ?_
  · intro as σ0 hp hH
    match as, hp with
    | [.inr (.inr (.inl (k, 0, 9)))], hp => exact ⟨rfl, Mo_mayNot_p k σ0 hH hp⟩
  · intro as σ0 hp n pc st ls σ hH hI
    match as, hp, hI with
    | [.inr (.inr (.inl (k, 0, 9)))], hp, hI => exact False.elim hI
def Mo_asked_pre (k : Nat) (_σ : Hp) : Prop := k = 67
def Mo_asked_post (_k : Nat) (σ : Hp) (r : Int) (σ' : Hp) : Prop := σ' = σ ∧ r = if σ 67 6 = 1 then -1 - gvn (σ 67 9) else -1
def Mo_asked_bk : List (Nat × List Item) := [(0, [(.aload_n 0, 1, [], []), (.getfield 166, 3, [9, 6, 0, 0, 0, 0], []), (.iconst 1, 1, [], []), (.if_icmp .eq 5, 3, [10], []), (.iconst (-1), 1, [], []), (.ireturn, 1, [], [])]),
  (10, [(.aload_n 0, 1, [], []), (.getfield 159, 3, [9, 9, 2, 0, 0, 0], []), (.ldc2_w 200, 3, [], [(1667330661, 0)]), (.lcmp, 1, [], []), (.ifCond .ne 5, 3, [23], []), (.iconst 0, 1, [], []), (.ireturn, 1, [], [])]),
  (23, [(.aload_n 0, 1, [], []), (.getfield 159, 3, [9, 9, 2, 0, 0, 0], []), (.ldc2_w 202, 3, [], [(461414299502, 0)]), (.lcmp, 1, [], []), (.ifCond .ne 5, 3, [36], []), (.iconst 1, 1, [], []), (.ireturn, 1, [], [])]),
  (36, [(.aload_n 0, 1, [], []), (.getfield 159, 3, [9, 9, 2, 0, 0, 0], []), (.ldc2_w 204, 3, [], [(6840691, 0)]), (.lcmp, 1, [], []), (.ifCond .ne 5, 3, [49], []), (.iconst 2, 1, [], []), (.ireturn, 1, [], [])]),
  (49, [(.aload_n 0, 1, [], []), (.getfield 159, 3, [9, 9, 2, 0, 0, 0], []), (.ldc2_w 206, 3, [], [(448546567013, 0)]), (.lcmp, 1, [], []), (.ifCond .ne 5, 3, [62], []), (.iconst 3, 1, [], []), (.ireturn, 1, [], [])]),
  (62, [(.aload_n 0, 1, [], []), (.getfield 159, 3, [9, 9, 2, 0, 0, 0], []), (.ldc2_w 208, 3, [], [(6578553, 0)]), (.lcmp, 1, [], []), (.ifCond .ne 7, 3, [77], []), (.iconst 4, 1, [], []), (.goto 4, 3, [78], [])]),
  (77, [(.iconst (-1), 1, [], [])]),
  (78, [(.ireturn, 1, [], [])])]
def Mo_asked_cl : List (Instr × Nat) := []
set_option maxRecDepth 20000 in
theorem Mo_asked_ck : Mo_asked_bk.all (fun b => ax_chB 9 1 cX9_asked Mo_asked_cl b.1 b.2) = true := by decide +kernel
def Mo_asked_cs : Ct := (1, 10, 1, (0, 0), fun as σ => (match as with
    | [.inr (.inr (.inl (k, 0, 9)))] => Mo_asked_pre k σ
    | _ => False), fun as σ r σ' => (match as with
    | [.inr (.inr (.inl (k, 0, 9)))] => Mo_asked_post k σ r σ'
    | _ => False))
theorem Mo_asked_w : ∀ w ∈ ([.instanceMethod yX9_asked, .selects yX9_asked.cls yX9_asked yX9_asked, .initialized yX9_asked.cls, .code yX9_asked cX9_asked 1 (some .int)] : List Cond), w ∈ ax_tb := ax_w4 (ax_m7 16 (by decide +kernel) rfl) (ax_m0 28 (by decide +kernel) rfl) (ax_m1 10 (by decide +kernel) rfl) (ax_m7 17 (by decide +kernel) rfl)
theorem Mo_asked_ds : yX9_asked.cls ≠ "java/lang/invoke/MethodHandle" ∧ yX9_asked.cls ≠ "java/lang/invoke/VarHandle" ∧ (parseMethodDescriptor yX9_asked.desc).map (fun d => d.parameters.length) = some 0 := by decide +kernel
def Mo_asked_vc : Prop := ∀ (k : Nat) (σ : Hp), ax_H σ → Mo_asked_pre k σ →
  (σ k 6 = 1 →
    (¬ lCmp (σ k 9) 1667330661 = 0 →
      (¬ lCmp (σ k 9) 461414299502 = 0 →
        (¬ lCmp (σ k 9) 6840691 = 0 →
          (¬ lCmp (σ k 9) 448546567013 = 0 →
            (¬ lCmp (σ k 9) 6578553 = 0 →
              Mo_asked_post k σ (-1) σ) ∧
            (¬ (¬ lCmp (σ k 9) 6578553 = 0) →
              Mo_asked_post k σ 4 σ)) ∧
          (¬ (¬ lCmp (σ k 9) 448546567013 = 0) →
            Mo_asked_post k σ 3 σ)) ∧
        (¬ (¬ lCmp (σ k 9) 6840691 = 0) →
          Mo_asked_post k σ 2 σ)) ∧
      (¬ (¬ lCmp (σ k 9) 461414299502 = 0) →
        Mo_asked_post k σ 1 σ)) ∧
    (¬ (¬ lCmp (σ k 9) 1667330661 = 0) →
      Mo_asked_post k σ 0 σ)) ∧
  (¬ (σ k 6 = 1) →
    Mo_asked_post k σ (-1) σ)
theorem Mo_asked_p : Mo_asked_vc := by
  intro k σ hH hp
  obtain rfl : k = 67 := hp
  simp only [lCmp_0]
  refine ⟨fun h => ⟨fun h1 => ⟨fun h2 => ⟨fun h3 => ⟨fun h4 => ⟨fun h5 => ⟨rfl, ?_⟩, fun h5 => ⟨rfl, ?_⟩⟩, fun h4 => ⟨rfl, ?_⟩⟩, fun h3 => ⟨rfl, ?_⟩⟩, fun h2 => ⟨rfl, ?_⟩⟩, fun h1 => ⟨rfl, ?_⟩⟩, fun h => ⟨rfl, by rw [if_neg h]⟩⟩
  · rw [if_pos h]; unfold gvn; rw [if_neg h1, if_neg h2, if_neg h3, if_neg h4, if_neg h5]; rfl
  · rw [if_pos h, Classical.not_not.mp h5]; rfl
  · rw [if_pos h, Classical.not_not.mp h4]; rfl
  · rw [if_pos h, Classical.not_not.mp h3]; rfl
  · rw [if_pos h, Classical.not_not.mp h2]; rfl
  · rw [if_pos h, Classical.not_not.mp h1]; rfl
def Mo_asked_I : List AV → Hp → Nat → Nat → List AV → List AV → Hp → Prop := fun as σ0 pc n st ls σ => (match as with
    | [.inr (.inr (.inl (k, 0, 9)))] => False
    | _ => False)
def Mo_asked_ct : Nat → Ct := fun n => match n with
  | _ => Mo_asked_cs
set_option maxRecDepth 20000 in
set_option maxHeartbeats 4000000 in
theorem Mo_asked_met {l : Launch} {D : va_G} {ad : Nat → Nat} {ca : Nat → ClassId} {L : Nat} {fx : Nat → Int} : ax_MC l D ad ca L fx yX9_asked cX9_asked 1 (some .int) 1 Mo_asked_cs := by
  refine ax_met (oc := 9) (ct := Mo_asked_ct) (calls := Mo_asked_cl) (bs := Mo_asked_bk) (cut := fun pc => false) (f := 9) (I := Mo_asked_I) (by decide) rfl rfl Mo_asked_ck (fun _ h => absurd h List.not_mem_nil) ?_ ?_
  · intro as σ0 hp hH
    match as, hp with
    | [.inr (.inr (.inl (k, 0, 9)))], hp => exact ⟨rfl, Mo_asked_p k σ0 hH hp⟩
  · intro as σ0 hp n pc st ls σ hH hI
    match as, hp, hI with
    | [.inr (.inr (.inl (k, 0, 9)))], hp, hI => exact False.elim hI
def Mo_isFull_pre (k : Nat) (σ : Hp) : Prop := k = 67 ∧ FIa σ
def Mo_isFull_post (_k : Nat) (σ : Hp) (r : Int) (σ' : Hp) : Prop := σ' = σ ∧ r = if 30 ≤ uM σ then 1 else 0
def Mo_isFull_bk : List (Nat × List Item) := [(0, [(.aload_n 0, 1, [], []), (.getfield 264, 3, [9, 22, 0, 0, 0, 0], []), (.bipush 60, 2, [], []), (.if_icmp .eq 12, 3, [18], []), (.aload_n 0, 1, [], []), (.getfield 267, 3, [9, 24, 0, 0, 0, 0], []), (.bipush 30, 2, [], []), (.if_icmp .ne 7, 3, [22], [])]),
  (18, [(.iconst 1, 1, [], []), (.goto 4, 3, [23], [])]),
  (22, [(.iconst 0, 1, [], [])]),
  (23, [(.ireturn, 1, [], [])])]
def Mo_isFull_cl : List (Instr × Nat) := []
set_option maxRecDepth 20000 in
theorem Mo_isFull_ck : Mo_isFull_bk.all (fun b => ax_chB 9 1 cX9_isFull Mo_isFull_cl b.1 b.2) = true := by decide +kernel
def Mo_isFull_cs : Ct := (1, 10, 2, (0, 0), fun as σ => (match as with
    | [.inr (.inr (.inl (k, 0, 9)))] => Mo_isFull_pre k σ
    | _ => False), fun as σ r σ' => (match as with
    | [.inr (.inr (.inl (k, 0, 9)))] => Mo_isFull_post k σ r σ'
    | _ => False))
theorem Mo_isFull_w : ∀ w ∈ ([.instanceMethod yX9_isFull, .selects yX9_isFull.cls yX9_isFull yX9_isFull, .initialized yX9_isFull.cls, .code yX9_isFull cX9_isFull 1 (some .boolean)] : List Cond), w ∈ ax_tb := ax_w4 (ax_m7 8 (by decide +kernel) rfl) (ax_m0 26 (by decide +kernel) rfl) (ax_m1 10 (by decide +kernel) rfl) (ax_m7 9 (by decide +kernel) rfl)
theorem Mo_isFull_ds : yX9_isFull.cls ≠ "java/lang/invoke/MethodHandle" ∧ yX9_isFull.cls ≠ "java/lang/invoke/VarHandle" ∧ (parseMethodDescriptor yX9_isFull.desc).map (fun d => d.parameters.length) = some 0 := by decide +kernel
def Mo_isFull_vc : Prop := ∀ (k : Nat) (σ : Hp), ax_H σ → Mo_isFull_pre k σ →
  (σ k 22 = 60 →
    ((1 : Int) = 0 ∨ (1 : Int) = 1) ∧ Mo_isFull_post k σ 1 σ) ∧
  (¬ (σ k 22 = 60) →
    (¬ σ k 24 = 30 →
      ((0 : Int) = 0 ∨ (0 : Int) = 1) ∧ Mo_isFull_post k σ 0 σ) ∧
    (¬ (¬ σ k 24 = 30) →
      ((1 : Int) = 0 ∨ (1 : Int) = 1) ∧ Mo_isFull_post k σ 1 σ))
theorem Mo_isFull_p : Mo_isFull_vc := by
  intro k σ hH hp
  obtain ⟨rfl, hF⟩ := hp
  have h1 := hF.2.2.2.2.2.1
  have h2 := hF.2.2.2.2.2.2
  have e : uM σ = (σ 67 24).toNat := rfl
  exact ⟨fun h => ⟨Or.inr rfl, rfl, by rw [if_pos (by omega)]⟩, fun h => ⟨fun h3 => ⟨Or.inl rfl, rfl, by rw [if_neg (by omega)]⟩, fun h3 => ⟨Or.inr rfl, rfl, by rw [if_pos (by omega)]⟩⟩⟩
def Mo_isFull_I : List AV → Hp → Nat → Nat → List AV → List AV → Hp → Prop := fun as σ0 pc n st ls σ => (match as with
    | [.inr (.inr (.inl (k, 0, 9)))] => False
    | _ => False)
def Mo_isFull_ct : Nat → Ct := fun n => match n with
  | _ => Mo_isFull_cs
set_option maxRecDepth 20000 in
set_option maxHeartbeats 4000000 in
theorem Mo_isFull_met {l : Launch} {D : va_G} {ad : Nat → Nat} {ca : Nat → ClassId} {L : Nat} {fx : Nat → Int} : ax_MC l D ad ca L fx yX9_isFull cX9_isFull 1 (some .boolean) 1 Mo_isFull_cs := by
  refine ax_met (oc := 9) (ct := Mo_isFull_ct) (calls := Mo_isFull_cl) (bs := Mo_isFull_bk) (cut := fun pc => false) (f := 5) (I := Mo_isFull_I) (by decide) rfl rfl Mo_isFull_ck (fun _ h => absurd h List.not_mem_nil) ?_ ?_
  · intro as σ0 hp hH
    match as, hp with
    | [.inr (.inr (.inl (k, 0, 9)))], hp => exact ⟨rfl, Mo_isFull_p k σ0 hH hp⟩
  · intro as σ0 hp n pc st ls σ hH hI
    match as, hp, hI with
    | [.inr (.inr (.inl (k, 0, 9)))], hp, hI => exact False.elim hI
def Mo_countUnit_pre (k : Nat) (σ : Hp) : Prop := k = 67 ∧ (0 ≤ σ 67 22 ∧ σ 67 22 ≤ 1000) ∧ (0 ≤ σ 67 24 ∧ σ 67 24 ≤ 1000)
def Mo_countUnit_post (_k : Nat) (σ σ' : Hp) : Prop := σ' = hp (hp σ 67 22 (σ 67 22 + 1)) 67 24 (σ 67 24 + 1)
def Mo_countUnit_bk : List (Nat × List Item) := [(0, [(.aload_n 0, 1, [], []), (.dup, 1, [], []), (.getfield 264, 3, [9, 22, 0, 0, 0, 0], []), (.iconst 1, 1, [], []), (.iadd, 1, [], []), (.putfield 264, 3, [9, 22, 0, 0, 0, 0], []), (.aload_n 0, 1, [], []), (.dup, 1, [], []), (.getfield 267, 3, [9, 24, 0, 0, 0, 0], []), (.iconst 1, 1, [], []), (.iadd, 1, [], []), (.putfield 267, 3, [9, 24, 0, 0, 0, 0], []), (.return_, 1, [], [])])]
def Mo_countUnit_cl : List (Instr × Nat) := []
set_option maxRecDepth 20000 in
theorem Mo_countUnit_ck : Mo_countUnit_bk.all (fun b => ax_chB 9 1 cX9_countUnit Mo_countUnit_cl b.1 b.2) = true := by decide +kernel
def Mo_countUnit_cs : Ct := (1, 10, 0, (0, 0), fun as σ => (match as with
    | [.inr (.inr (.inl (k, 0, 9)))] => Mo_countUnit_pre k σ
    | _ => False), fun as σ r σ' => (match as with
    | [.inr (.inr (.inl (k, 0, 9)))] => Mo_countUnit_post k σ σ'
    | _ => False))
theorem Mo_countUnit_w : ∀ w ∈ ([.instanceMethod yX9_countUnit, .selects yX9_countUnit.cls yX9_countUnit yX9_countUnit, .initialized yX9_countUnit.cls, .code yX9_countUnit cX9_countUnit 1 none] : List Cond), w ∈ ax_tb := ax_w4 (ax_m7 12 (by decide +kernel) rfl) (ax_m0 27 (by decide +kernel) rfl) (ax_m1 10 (by decide +kernel) rfl) (ax_m7 13 (by decide +kernel) rfl)
theorem Mo_countUnit_ds : yX9_countUnit.cls ≠ "java/lang/invoke/MethodHandle" ∧ yX9_countUnit.cls ≠ "java/lang/invoke/VarHandle" ∧ (parseMethodDescriptor yX9_countUnit.desc).map (fun d => d.parameters.length) = some 0 := by decide +kernel
def Mo_countUnit_vc : Prop := ∀ (k : Nat) (σ : Hp), ax_H σ → Mo_countUnit_pre k σ →
  ∀ σ1 : Hp, σ1 = hp σ k 22 (wr ((σ k 22) + 1)) →
  ∀ σ2 : Hp, σ2 = hp σ1 k 24 (wr ((σ1 k 24) + 1)) →
  Mo_countUnit_post k σ σ2
theorem Mo_countUnit_p : Mo_countUnit_vc := by
  intro k σ hH hp0
  obtain ⟨rfl, h1, h2⟩ := hp0
  intro σ1 hs1 σ2 hs2
  rw [wr1 (by omega) (by omega)] at hs1
  have : σ1 67 24 = σ 67 24 := by rw [hs1, hp_r2 (by decide)]
  rw [this, wr1 (by omega) (by omega), hs1] at hs2
  exact hs2
def Mo_countUnit_I : List AV → Hp → Nat → Nat → List AV → List AV → Hp → Prop := fun as σ0 pc n st ls σ => (match as with
    | [.inr (.inr (.inl (k, 0, 9)))] => False
    | _ => False)
def Mo_countUnit_ct : Nat → Ct := fun n => match n with
  | _ => Mo_countUnit_cs
set_option maxRecDepth 20000 in
set_option maxHeartbeats 4000000 in
theorem Mo_countUnit_met {l : Launch} {D : va_G} {ad : Nat → Nat} {ca : Nat → ClassId} {L : Nat} {fx : Nat → Int} : ax_MC l D ad ca L fx yX9_countUnit cX9_countUnit 1 none 1 Mo_countUnit_cs := by
  refine ax_met (oc := 9) (ct := Mo_countUnit_ct) (calls := Mo_countUnit_cl) (bs := Mo_countUnit_bk) (cut := fun pc => false) (f := 2) (I := Mo_countUnit_I) (by decide) rfl rfl Mo_countUnit_ck (fun _ h => absurd h List.not_mem_nil) ?_ ?_
  · intro as σ0 hp hH
    match as, hp with
    | [.inr (.inr (.inl (k, 0, 9)))], hp => exact ⟨rfl, Mo_countUnit_p k σ0 hH hp⟩
  · intro as σ0 hp n pc st ls σ hH hI
    match as, hp, hI with
    | [.inr (.inr (.inl (k, 0, 9)))], hp, hI => exact False.elim hI
def opM (σ : Hp) (a : Int) : Hp := hp (hp (hp σ 76 (σ 67 21).toNat a) 67 21 (σ 67 21 + 1)) 67 25 (σ 67 25 + 1)
def Mo_openUp_pre (k : Nat) (_a : Int) (σ : Hp) : Prop := k = 67 ∧ (0 ≤ σ 67 21 ∧ σ 67 21 < 160) ∧ (0 ≤ σ 67 25 ∧ σ 67 25 ≤ 1000) ∧ (σ 67 2 = 0 → ∃ B p, MT σ B p ∧ ¬ tK B p = 4)
def Mo_openUp_post (_k : Nat) (a : Int) (σ σ' : Hp) : Prop := (¬ σ 67 2 = 0 → σ' = opM σ a) ∧ (σ 67 2 = 0 → Mo_token_post 67 (opM σ a) σ')
def Mo_openUp_bk : List (Nat × List Item) := [(0, [(.aload_n 0, 1, [], []), (.getfield 39, 3, [9, 17, 4, 9, 1, 160], []), (.aload_n 0, 1, [], []), (.getfield 251, 3, [9, 21, 0, 0, 0, 0], []), (.iload_n 1, 1, [], []), (.iastore, 1, [], []), (.aload_n 0, 1, [], []), (.dup, 1, [], []), (.getfield 251, 3, [9, 21, 0, 0, 0, 0], []), (.iconst 1, 1, [], []), (.iadd, 1, [], []), (.putfield 251, 3, [9, 21, 0, 0, 0, 0], []), (.aload_n 0, 1, [], []), (.dup, 1, [], []), (.getfield 261, 3, [9, 25, 0, 0, 0, 0], []), (.iconst 1, 1, [], []), (.iadd, 1, [], []), (.putfield 261, 3, [9, 25, 0, 0, 0, 0], []), (.aload_n 0, 1, [], []), (.getfield 179, 3, [9, 2, 0, 0, 0, 0], []), (.ifCond .ne 7, 3, [41], []), (.aload_n 0, 1, [], []), (.invokevirtual 227, 3, [0], [])]),
  (41, [(.return_, 1, [], [])])]
def Mo_openUp_cl : List (Instr × Nat) := [(.invokevirtual 227, 0)]
set_option maxRecDepth 20000 in
theorem Mo_openUp_ck : Mo_openUp_bk.all (fun b => ax_chB 9 2 cX9_openUp Mo_openUp_cl b.1 b.2) = true := by decide +kernel
def Mo_openUp_cs : Ct := (2, 10, 0, (0, 0), fun as σ => (match as with
    | [.inr (.inr (.inl (k, 0, 9))), .inl a1] => Mo_openUp_pre k a1 σ
    | _ => False), fun as σ r σ' => (match as with
    | [.inr (.inr (.inl (k, 0, 9))), .inl a1] => Mo_openUp_post k a1 σ σ'
    | _ => False))
theorem Mo_openUp_w : ∀ w ∈ ([.instanceMethod yX9_openUp, .selects yX9_openUp.cls yX9_openUp yX9_openUp, .initialized yX9_openUp.cls, .code yX9_openUp cX9_openUp 2 none] : List Cond), w ∈ ax_tb := ax_w4 (ax_m7 4 (by decide +kernel) rfl) (ax_m0 25 (by decide +kernel) rfl) (ax_m1 10 (by decide +kernel) rfl) (ax_m7 5 (by decide +kernel) rfl)
theorem Mo_openUp_ds : yX9_openUp.cls ≠ "java/lang/invoke/MethodHandle" ∧ yX9_openUp.cls ≠ "java/lang/invoke/VarHandle" ∧ (parseMethodDescriptor yX9_openUp.desc).map (fun d => d.parameters.length) = some 1 := by decide +kernel
def Mo_openUp_vc : Prop := ∀ (k : Nat) (a1 : Int) (σ : Hp), ax_H σ → Mo_openUp_pre k a1 σ →
  (0 ≤ σ k 21 ∧ σ k 21 < 160) ∧
  ∀ σ1 : Hp, σ1 = hp σ (k + 9) (σ k 21).toNat a1 →
  ∀ σ2 : Hp, σ2 = hp σ1 k 21 (wr ((σ1 k 21) + 1)) →
  ∀ σ3 : Hp, σ3 = hp σ2 k 25 (wr ((σ2 k 25) + 1)) →
  (¬ σ3 k 2 = 0 →
    Mo_openUp_post k a1 σ σ3) ∧
  (¬ (¬ σ3 k 2 = 0) →
    Mo_token_pre k σ3 ∧
    ∀ σ4 : Hp, Mo_token_post k σ3 σ4 →
    Mo_openUp_post k a1 σ σ4)
theorem Mo_openUp_p : Mo_openUp_vc := by
  intro k a σ hH hp0
  obtain ⟨rfl, h1, h2, h3⟩ := hp0
  refine ⟨h1, ?_⟩
  intro σ1 hs1 σ2 hs2 σ3 hs3
  have a67 : σ1 67 = σ 67 := by rw [hs1, hp_ne (by decide)]
  rw [a67, wr1 (by omega) (by omega)] at hs2
  have a25 : σ2 67 25 = σ 67 25 := by rw [hs2, hp_r2 (by decide), a67]
  rw [a25, wr1 (by omega) (by omega), hs2, hs1] at hs3
  have e : σ3 = opM σ a := hs3
  have e2 : σ3 67 2 = σ 67 2 := by rw [hs3, hp_r2 (by decide), hp_r2 (by decide), hp_ne (by decide)]
  rw [e2]
  refine ⟨fun h => ⟨fun _ => e, fun z => absurd z h⟩, fun h => ?_⟩
  have h' := Classical.not_not.mp h
  obtain ⟨B, p, M, k4⟩ := h3 h'
  have M3 : MT σ3 B p := M.keep (fun j j1 j2 => by rw [hs3, hp_r2 (fun z => by omega), hp_r2 (fun z => by omega), hp_ne (by decide)]) (by rw [hs3, hp_ne (by decide), hp_ne (by decide), hp_ne (by decide)])
  refine ⟨(M3.tok k4).1, fun σ4 g => ⟨fun z => absurd h' z, fun _ => by rw [← e]; exact g⟩⟩
def Mo_openUp_I : List AV → Hp → Nat → Nat → List AV → List AV → Hp → Prop := fun as σ0 pc n st ls σ => (match as with
    | [.inr (.inr (.inl (k, 0, 9))), .inl a1] => False
    | _ => False)
def Mo_openUp_ct : Nat → Ct := fun n => match n with
  | 0 => Mo_token_cs
  | _ => Mo_openUp_cs
set_option maxRecDepth 20000 in
set_option maxHeartbeats 4000000 in
theorem Mo_openUp_met {l : Launch} {D : va_G} {ad : Nat → Nat} {ca : Nat → ClassId} {L : Nat} {fx : Nat → Int} : ax_MC l D ad ca L fx yX9_openUp cX9_openUp 2 none 3 Mo_openUp_cs := by
  refine ax_met (oc := 9) (ct := Mo_openUp_ct) (calls := Mo_openUp_cl) (bs := Mo_openUp_bk) (cut := fun pc => false) (f := 3) (I := Mo_openUp_I) (by decide) rfl rfl Mo_openUp_ck (List.forall_mem_cons.mpr ⟨ax_cwV Mo_token_met (by decide) (by decide) rfl (by decide) rfl (ax_m6 145 (by decide +kernel) rfl) Mo_token_w rfl Mo_token_ds, fun _ h => absurd h List.not_mem_nil⟩) ?_ ?_
  · intro as σ0 hp hH
    match as, hp with
    | [.inr (.inr (.inl (k, 0, 9))), .inl a1], hp => exact ⟨rfl, Mo_openUp_p k a1 σ0 hH hp⟩
  · intro as σ0 hp n pc st ls σ hH hI
    match as, hp, hI with
    | [.inr (.inr (.inl (k, 0, 9))), .inl a1], hp, hI => exact False.elim hI
/-- an operator on the stack -/
theorem push_FI {σ σ' : Hp} {a : Int} (h : FIa σ) (hl : σ 67 21 < 100) (hv : vop a) (c76 : ∀ j, σ' 76 j = if j = (σ 67 21).toNat then a else σ 76 j) (c21 : σ' 67 21 = σ 67 21 + 1) (c20 : σ' 67 20 = σ 67 20) (c22 : σ' 67 22 = σ 67 22) (c24 : σ' 67 24 = σ 67 24) (c70 : σ' 70 = σ 70) (c71 : σ' 71 = σ 71) (c72 : σ' 72 = σ 72) : FIa σ' ∧ SkM σ' = sop a :: SkM σ ∧ EmM σ' = EmM σ := by
  obtain ⟨h1, h2, h3, h4, h5, h6, h7⟩ := h
  have ew : wM σ' = wM σ := by unfold wM; rw [c20]
  refine ⟨⟨by rw [c20]; exact h1, by rw [c21]; omega, fun i hi => ?_, by rw [ew, c72]; exact h4, by rw [ew, c72, c70, c71]; exact h5, by rw [c24]; exact h6, by rw [c22, c24]; exact h7⟩, ?_, by unfold EmM; rw [ew, c70, c71, c72]⟩
  · rw [c76]
    by_cases e : i = (σ 67 21).toNat
    · rw [if_pos e]; exact hv
    · rw [if_neg e]; exact h3 i (by omega)
  · unfold SkM
    rw [c21, show (σ 67 21 + 1).toNat = (σ 67 21).toNat + 1 by omega]
    show sop (σ' 76 (σ 67 21).toNat) :: stk (σ' 76) (σ 67 21).toNat = _
    rw [c76, if_pos rfl, stk_ext (g := σ 76) _ (fun i hi => by rw [c76, if_neg (by omega)])]
theorem opM_FI {σ : Hp} {a : Int} (h : FIa σ) (hd : DPm σ) (hl : σ 67 21 < 100) (ha : a = 20 ∨ a = 21) : FIa (opM σ a) ∧ SkM (opM σ a) = sop a :: SkM σ ∧ EmM (opM σ a) = EmM σ ∧ DPm (opM σ a) ∧ GFm σ (opM σ a) ∧ (∀ j, ¬ j = 21 → ¬ j = 25 → opM σ a 67 j = σ 67 j) ∧ opM σ a 68 = σ 68 := by
  have f : ∀ j, ¬ j = 21 → ¬ j = 25 → opM σ a 67 j = σ 67 j := fun j j1 j2 => by unfold opM; rw [hp_r2 (fun z => j2 z.2), hp_r2 (fun z => j1 z.2), hp_ne (by decide)]
  have c : ∀ x, ¬ x = 67 → ¬ x = 76 → opM σ a x = σ x := fun x x1 x2 => by unfold opM; rw [hp_ne x1, hp_ne x1, hp_ne x2]
  have c25 : opM σ a 67 25 = σ 67 25 + 1 := by unfold opM; rw [hp_r1]
  have c21 : opM σ a 67 21 = σ 67 21 + 1 := by unfold opM; rw [hp_r2 (by decide), hp_r1]
  have c76 : ∀ j, opM σ a 76 j = if j = (σ 67 21).toNat then a else σ 76 j := fun j => by
    unfold opM
    rw [hp_ne (by decide), hp_ne (by decide)]
    by_cases e : j = (σ 67 21).toNat
    · rw [if_pos e, e, hp_r1]
    · rw [if_neg e, hp_r2 (fun z => e z.2)]
  have P := push_FI h hl (a := a) (by unfold vop; omega) c76 c21 (f 20 (by decide) (by decide)) (f 22 (by decide) (by decide)) (f 24 (by decide) (by decide)) (c 70 (by decide) (by decide)) (c 71 (by decide) (by decide)) (c 72 (by decide) (by decide))
  refine ⟨P.1, P.2.1, P.2.2, ?_, ?_, f, c 68 (by decide) (by decide)⟩
  · unfold DPm
    rw [c25, P.2.1, hd]
    show (dpt (SkM σ) : Int) + 1 = ((dpt (SkM σ) + (if sop a = 1 ∨ sop a = -6 then 1 else 0) : Nat) : Int)
    rw [if_pos (by rcases ha with rfl | rfl <;> decide)]
    simp
  · exact ⟨fun x hx => c x (fun z => hx (by simp [z])) (fun z => hx (by simp [z])), fun j hj => f j hj.2.2.2.2.2.2.2.1 hj.2.2.2.2.2.2.2.2.2.2, fun j _ => ⟨by rw [c 70 (by decide) (by decide)], by rw [c 71 (by decide) (by decide)]⟩, fun v _ => by rw [c 72 (by decide) (by decide)]⟩
