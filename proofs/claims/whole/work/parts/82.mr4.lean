-- THE MODEL'S READER: a unit
theorem stk_len (f : Nat → Int) : ∀ n, (stk f n).length = n := by
  intro n
  induction n with
  | zero => rfl
  | succ n ih => show (stk f n).length + 1 = n + 1; rw [ih]
def FI0 (σ : Hp) : Prop := FIa σ ∧ DPm σ ∧ GS (SkM σ) ∧ (EmM σ).length + nb (SkM σ) ≤ 9 * uM σ + 1 + dpt (SkM σ) ∧ dpt (SkM σ) ≤ 7
def FI1 (σ : Hp) : Prop := FIa σ ∧ DPm σ ∧ GS (SkM σ) ∧ (EmM σ).length + nb (SkM σ) ≤ 9 * uM σ ∧ 1 ≤ (EmM σ).length ∧ dpt (SkM σ) ≤ 7
theorem FIa.len {σ : Hp} (h : FIa σ) (hg : GS (SkM σ)) (hd : dpt (SkM σ) ≤ 7) : σ 67 21 ≤ 55 := by
  have h1 := GS_len _ hg
  have h2 := tt_R (SkM σ)
  have h3 : (SkM σ).length = (σ 67 21).toNat := stk_len _ _
  omega
theorem FIa.em {σ : Hp} (h : FIa σ) : ((EmM σ).length : Int) = σ 72 (wM σ) ∧ uM σ ≤ 30 := by
  have h1 : (EmM σ).length = (σ 72 (wM σ)).toNat := ems_len _ _ _ _
  have h2 := h.2.2.2.1
  have h3 := h.2.2.2.2.2.1
  have h4 : uM σ = (σ 67 24).toNat := rfl
  omega
theorem cnt_FI {σ σ1 : Hp} (h : FIa σ) (hu : uM σ < 30) (g : Mo_countUnit_post 67 σ σ1) : FIa σ1 ∧ SkM σ1 = SkM σ ∧ EmM σ1 = EmM σ ∧ (DPm σ → DPm σ1) ∧ GFm σ σ1 ∧ uM σ1 = uM σ + 1 ∧ σ1 67 22 - σ1 67 24 = σ 67 22 - σ 67 24 ∧ (∀ j, ¬ j = 22 → ¬ j = 24 → σ1 67 j = σ 67 j) ∧ σ1 68 = σ 68 := by
  have g : σ1 = hp (hp σ 67 22 (σ 67 22 + 1)) 67 24 (σ 67 24 + 1) := g
  have e : uM σ = (σ 67 24).toNat := rfl
  have c : ∀ x, ¬ x = 67 → σ1 x = σ x := fun x hx => by rw [g, hp_ne hx, hp_ne hx]
  have f : ∀ j, ¬ j = 22 → ¬ j = 24 → σ1 67 j = σ 67 j := fun j j1 j2 => by rw [g, hp_r2 (fun z => j2 z.2), hp_r2 (fun z => j1 z.2)]
  have c22 : σ1 67 22 = σ 67 22 + 1 := by rw [g, hp_r2 (by decide), hp_r1]
  have c24 : σ1 67 24 = σ 67 24 + 1 := by rw [g, hp_r1]
  obtain ⟨h1, h2, h3, h4, h5, h6, h7⟩ := h
  have ew : wM σ1 = wM σ := by unfold wM; rw [f 20 (by decide) (by decide)]
  have eS : SkM σ1 = SkM σ := by unfold SkM; rw [c 76 (by decide), f 21 (by decide) (by decide)]
  refine ⟨⟨by rw [f 20 (by decide) (by decide)]; exact h1, by rw [f 21 (by decide) (by decide)]; exact h2, by rw [f 21 (by decide) (by decide), c 76 (by decide)]; exact h3, by rw [ew, c 72 (by decide)]; exact h4, by rw [ew, c 70 (by decide), c 71 (by decide), c 72 (by decide)]; exact h5, by rw [c24]; omega, by rw [c22, c24]; omega⟩, eS, by unfold EmM; rw [ew, c 70 (by decide), c 71 (by decide), c 72 (by decide)], fun hd => ?_, ?_, ?_, by rw [c22, c24]; omega, f, c 68 (by decide)⟩
  · unfold DPm; rw [f 25 (by decide) (by decide), eS]; exact hd
  · exact GFm.of67 (fun x hx => c x (fun z => hx (by simp [z]))) (fun j hj => f j hj.2.2.2.2.2.2.2.2.1 hj.2.2.2.2.2.2.2.2.2.1)
  · show (σ1 67 24).toNat = (σ 67 24).toNat + 1
    rw [c24]; omega
abbrev s0M (σ : Hp) (p : Nat) : MS := (0, p, SkM σ, EmM σ, uM σ)
abbrev s1M (σ : Hp) (p : Nat) : MS := (1, p, SkM σ, EmM σ, uM σ)
def UO (σ0 σ : Hp) (P : Tp → Nat → Prop) : Prop := σ 67 2 = 0 ∧ σ 67 3 = σ0 67 3 ∧ FI0 σ ∧ σ 67 22 - σ 67 24 = σ0 67 22 - σ0 67 24 ∧ ∀ B p, MT σ0 B p → ∃ q, p ≤ q ∧ MT σ B q ∧ Rch B (s0M σ0 p) (s0M σ q) ∧ P B q
def UF (σ0 σ : Hp) : Prop := 0 < σ 67 2 ∧ ∀ B p, MT σ0 B p → ∃ q S' E' u', Fs σ0 σ B (rfc B q) q ∧ Rch B (s0M σ0 p) (3, q, S', E', u')
def nNo (σ : Hp) (B : Tp) (q : Nat) : Prop := ¬ (isN B q ∧ tt (SkM σ) < 4)
def nBr (B : Tp) (q : Nat) : Prop := ¬ (tK B q = 3 ∧ tV B q = 40)
def ms (σ : Hp) (x : Nat) : Nat := if σ 67 2 = 0 then 16 * (1601 - (σ 67 7).toNat) + 8 + x else x
def Mo_unit_pre (k : Nat) (σ : Hp) : Prop := k = 67 ∧ σ 67 2 = 0 ∧ (∃ B p, MT σ B p) ∧ FI0 σ
def unR (σ σ' : Hp) : Prop := (σ' 67 2 = 0 ∧ σ' 67 3 = σ 67 3 ∧ FI1 σ' ∧ σ' 67 22 - σ' 67 24 = σ 67 22 - σ 67 24 ∧ ∀ B p, MT σ B p → ∃ q, p < q ∧ MT σ' B q ∧ Rch B (s0M σ p) (s1M σ' q)) ∨ UF σ σ'
def Mo_unit_post (_k : Nat) (σ σ' : Hp) : Prop := GFm σ σ' ∧ unR σ σ'
def Mo_unit_I2 (_k : Nat) (σ0 : Hp) (n : Nat) (v1 : Int) (σ : Hp) : Prop := GFm σ0 σ ∧ ((v1 = 0 ∧ n = ms σ 2) ∨ (v1 = 1 ∧ n = ms σ 4)) ∧ (UO σ0 σ (fun B q => v1 = 0 → nNo σ B q ∧ nBr B q) ∨ UF σ0 σ)
def Mo_unit_I53 (_k : Nat) (σ0 : Hp) (n : Nat) (v1 : Int) (σ : Hp) : Prop := GFm σ0 σ ∧ v1 = 1 ∧ n = ms σ 3 ∧ UO σ0 σ (fun B q => nNo σ B q)
def Mo_unit_I101 (_k : Nat) (σ0 : Hp) (n : Nat) (_v1 : Int) (σ : Hp) : Prop := GFm σ0 σ ∧ n = ms σ 1 ∧ (UO σ0 σ (fun B q => nNo σ B q ∧ nBr B q) ∨ UF σ0 σ)
def Mo_unit_I138 (_k : Nat) (σ0 : Hp) (n : Nat) (_v1 v2 : Int) (σ : Hp) : Prop := GFm σ0 σ ∧ n = ms σ 0 ∧ ((uM σ < 30 ∧ UO σ0 σ (fun B q => nNo σ B q ∧ nBr B q ∧ isO B q ∧ v2 = if tK B q = 1 then -1 - gvn (tV B q) else -1)) ∨ UF σ0 σ)
def Mo_unit_bk : List (Nat × List Item) := [(0, [(.iconst 1, 1, [], []), (.istore_n 1, 1, [], [])]),
  (2, [(.iload_n 1, 1, [], []), (.ifCond .eq 98, 3, [101], []), (.aload_n 0, 1, [], []), (.getfield 179, 3, [9, 2, 0, 0, 0, 0], []), (.ifCond .ne 91, 3, [101], []), (.aload_n 0, 1, [], []), (.ldc2_w 214, 3, [], [(7237492, 0)]), (.invokevirtual 220, 3, [0], []), (.ifCond .eq 33, 3, [53], []), (.aload_n 0, 1, [], []), (.invokevirtual 270, 3, [1], []), (.ifCond .eq 26, 3, [53], []), (.aload_n 0, 1, [], []), (.getfield 261, 3, [9, 25, 0, 0, 0, 0], []), (.bipush 6, 2, [], []), (.if_icmp .le 8, 3, [44], []), (.aload_n 0, 1, [], []), (.iconst 2, 1, [], []), (.invokevirtual 224, 3, [2], [])]),
  (44, [(.aload_n 0, 1, [], []), (.bipush 21, 2, [], []), (.invokevirtual 273, 3, [3], []), (.goto (-48), 3, [2], [])]),
  (53, [(.aload_n 0, 1, [], []), (.getfield 166, 3, [9, 6, 0, 0, 0, 0], []), (.bipush 40, 2, [], []), (.if_icmp .ne 37, 3, [96], []), (.aload_n 0, 1, [], []), (.invokevirtual 276, 3, [4], []), (.ifCond .ne 12, 3, [78], []), (.aload_n 0, 1, [], []), (.getfield 261, 3, [9, 25, 0, 0, 0, 0], []), (.bipush 6, 2, [], []), (.if_icmp .le 8, 3, [83], [])]),
  (78, [(.aload_n 0, 1, [], []), (.iconst 2, 1, [], []), (.invokevirtual 224, 3, [2], [])]),
  (83, [(.aload_n 0, 1, [], []), (.invokevirtual 279, 3, [5], []), (.aload_n 0, 1, [], []), (.bipush 20, 2, [], []), (.invokevirtual 273, 3, [3], []), (.goto (-91), 3, [2], [])]),
  (96, [(.iconst 0, 1, [], []), (.istore_n 1, 1, [], []), (.goto (-96), 3, [2], [])]),
  (101, [(.aload_n 0, 1, [], []), (.getfield 179, 3, [9, 2, 0, 0, 0, 0], []), (.ifCond .le 4, 3, [109], []), (.return_, 1, [], [])]),
  (109, [(.aload_n 0, 1, [], []), (.invokevirtual 282, 3, [6], []), (.istore_n 2, 1, [], []), (.aload_n 0, 1, [], []), (.getfield 166, 3, [9, 6, 0, 0, 0, 0], []), (.iconst 2, 1, [], []), (.if_icmp .eq 7, 3, [126], []), (.iload_n 2, 1, [], []), (.ifCond .lt 10, 3, [133], [])]),
  (126, [(.aload_n 0, 1, [], []), (.invokevirtual 276, 3, [4], []), (.ifCond .eq 8, 3, [138], [])]),
  (133, [(.aload_n 0, 1, [], []), (.iconst 2, 1, [], []), (.invokevirtual 224, 3, [2], [])]),
  (138, [(.aload_n 0, 1, [], []), (.getfield 179, 3, [9, 2, 0, 0, 0, 0], []), (.ifCond .le 4, 3, [146], []), (.return_, 1, [], [])]),
  (146, [(.aload_n 0, 1, [], []), (.invokevirtual 279, 3, [5], []), (.aload_n 0, 1, [], []), (.iload_n 2, 1, [], []), (.ifCond .ge 7, 3, [159], []), (.iconst 0, 1, [], []), (.goto 4, 3, [160], [])]),
  (159, [(.iconst 1, 1, [], [])]),
  (160, [(.iload_n 2, 1, [], []), (.ifCond .ge 10, 3, [171], []), (.aload_n 0, 1, [], []), (.getfield 163, 3, [9, 8, 0, 0, 0, 0], []), (.goto 4, 3, [172], [])]),
  (171, [(.iload_n 2, 1, [], [])]),
  (172, [(.invokevirtual 257, 3, [7], []), (.aload_n 0, 1, [], []), (.invokevirtual 227, 3, [8], []), (.return_, 1, [], [])])]
def Mo_unit_cl : List (Instr × Nat) := [(.invokevirtual 220, 0), (.invokevirtual 270, 1), (.invokevirtual 224, 2), (.invokevirtual 273, 3), (.invokevirtual 276, 4), (.invokevirtual 279, 5), (.invokevirtual 282, 6), (.invokevirtual 257, 7), (.invokevirtual 227, 8)]
set_option maxRecDepth 20000 in
theorem Mo_unit_ck : Mo_unit_bk.all (fun b => ax_chB 9 3 cX9_unit Mo_unit_cl b.1 b.2) = true := by decide +kernel
def Mo_unit_cs : Ct := (1, 10, 0, (0, 0), fun as σ => (match as with
    | [.inr (.inr (.inl (k, 0, 9)))] => Mo_unit_pre k σ
    | _ => False), fun as σ r σ' => (match as with
    | [.inr (.inr (.inl (k, 0, 9)))] => Mo_unit_post k σ σ'
    | _ => False))
theorem Mo_unit_w : ∀ w ∈ ([.instanceMethod yX9_unit, .selects yX9_unit.cls yX9_unit yX9_unit, .initialized yX9_unit.cls, .code yX9_unit cX9_unit 3 none] : List Cond), w ∈ ax_tb := ax_w4 (ax_m6 233 (by decide +kernel) rfl) (ax_m0 23 (by decide +kernel) rfl) (ax_m1 10 (by decide +kernel) rfl) (ax_m6 234 (by decide +kernel) rfl)
theorem Mo_unit_ds : yX9_unit.cls ≠ "java/lang/invoke/MethodHandle" ∧ yX9_unit.cls ≠ "java/lang/invoke/VarHandle" ∧ (parseMethodDescriptor yX9_unit.desc).map (fun d => d.parameters.length) = some 0 := by decide +kernel
def Mo_unit_vc : Prop := ∀ (k : Nat) (σ : Hp), ax_H σ → Mo_unit_pre k σ →
  ∃ n' : Nat, k = k ∧ Mo_unit_I2 k σ n' 1 σ
def Mo_unit_vc2 : Prop := ∀ (k : Nat) (σ0 : Hp), Mo_unit_pre k σ0 → ∀ (n : Nat) (v1 : Int) (σ : Hp), ax_H σ → Mo_unit_I2 k σ0 n v1 σ →
  (v1 = 0 →
    ∃ n' : Nat, n' < n ∧ k = k ∧ Mo_unit_I101 k σ0 n' v1 σ) ∧
  (¬ (v1 = 0) →
    (¬ σ k 2 = 0 →
      ∃ n' : Nat, n' < n ∧ k = k ∧ Mo_unit_I101 k σ0 n' v1 σ) ∧
    (¬ (¬ σ k 2 = 0) →
      Mo_isWord_pre k 7237492 σ ∧
      ∀ (r2 : Int) (σ1 : Hp), Mo_isWord_post k 7237492 σ r2 σ1 →
      (r2 = 0 →
        ∃ n' : Nat, n' < n ∧ k = k ∧ Mo_unit_I53 k σ0 n' v1 σ1) ∧
      (¬ (r2 = 0) →
        Mo_mayNot_pre k σ1 ∧
        ∀ (r4 : Int) (σ3 : Hp), Mo_mayNot_post k σ1 r4 σ3 →
        (r4 = 0 →
          ∃ n' : Nat, n' < n ∧ k = k ∧ Mo_unit_I53 k σ0 n' v1 σ3) ∧
        (¬ (r4 = 0) →
          (σ3 k 25 ≤ 6 →
            Mo_openUp_pre k 21 σ3 ∧
            ∀ σ5 : Hp, Mo_openUp_post k 21 σ3 σ5 →
            ∃ n' : Nat, n' < n ∧ k = k ∧ Mo_unit_I2 k σ0 n' v1 σ5) ∧
          (¬ (σ3 k 25 ≤ 6) →
            Mo_wrong_pre k 2 σ3 ∧
            ∀ σ6 : Hp, Mo_wrong_post k 2 σ3 σ6 →
            Mo_openUp_pre k 21 σ6 ∧
            ∀ σ7 : Hp, Mo_openUp_post k 21 σ6 σ7 →
            ∃ n' : Nat, n' < n ∧ k = k ∧ Mo_unit_I2 k σ0 n' v1 σ7)))))
def Mo_unit_vc53 : Prop := ∀ (k : Nat) (σ0 : Hp), Mo_unit_pre k σ0 → ∀ (n : Nat) (v1 : Int) (σ : Hp), ax_H σ → Mo_unit_I53 k σ0 n v1 σ →
  (¬ σ k 6 = 40 →
    ∃ n' : Nat, n' < n ∧ k = k ∧ Mo_unit_I2 k σ0 n' 0 σ) ∧
  (¬ (¬ σ k 6 = 40) →
    Mo_isFull_pre k σ ∧
    ∀ (r2 : Int) (σ1 : Hp), Mo_isFull_post k σ r2 σ1 →
    (¬ r2 = 0 →
      Mo_wrong_pre k 2 σ1 ∧
      ∀ σ3 : Hp, Mo_wrong_post k 2 σ1 σ3 →
      Mo_countUnit_pre k σ3 ∧
      ∀ σ4 : Hp, Mo_countUnit_post k σ3 σ4 →
      Mo_openUp_pre k 20 σ4 ∧
      ∀ σ5 : Hp, Mo_openUp_post k 20 σ4 σ5 →
      ∃ n' : Nat, n' < n ∧ k = k ∧ Mo_unit_I2 k σ0 n' v1 σ5) ∧
    (¬ (¬ r2 = 0) →
      (σ1 k 25 ≤ 6 →
        Mo_countUnit_pre k σ1 ∧
        ∀ σ6 : Hp, Mo_countUnit_post k σ1 σ6 →
        Mo_openUp_pre k 20 σ6 ∧
        ∀ σ7 : Hp, Mo_openUp_post k 20 σ6 σ7 →
        ∃ n' : Nat, n' < n ∧ k = k ∧ Mo_unit_I2 k σ0 n' v1 σ7) ∧
      (¬ (σ1 k 25 ≤ 6) →
        Mo_wrong_pre k 2 σ1 ∧
        ∀ σ8 : Hp, Mo_wrong_post k 2 σ1 σ8 →
        Mo_countUnit_pre k σ8 ∧
        ∀ σ9 : Hp, Mo_countUnit_post k σ8 σ9 →
        Mo_openUp_pre k 20 σ9 ∧
        ∀ σ10 : Hp, Mo_openUp_post k 20 σ9 σ10 →
        ∃ n' : Nat, n' < n ∧ k = k ∧ Mo_unit_I2 k σ0 n' v1 σ10)))
def Mo_unit_vc101 : Prop := ∀ (k : Nat) (σ0 : Hp), Mo_unit_pre k σ0 → ∀ (n : Nat) (v1 : Int) (σ : Hp), ax_H σ → Mo_unit_I101 k σ0 n v1 σ →
  (σ k 2 ≤ 0 →
    Mo_asked_pre k σ ∧
    ∀ (r2 : Int) (σ1 : Hp), Mo_asked_post k σ r2 σ1 →
    (σ1 k 6 = 2 →
      Mo_isFull_pre k σ1 ∧
      ∀ (r4 : Int) (σ3 : Hp), Mo_isFull_post k σ1 r4 σ3 →
      (r4 = 0 →
        ∃ n' : Nat, n' < n ∧ k = k ∧ Mo_unit_I138 k σ0 n' v1 r2 σ3) ∧
      (¬ (r4 = 0) →
        Mo_wrong_pre k 2 σ3 ∧
        ∀ σ5 : Hp, Mo_wrong_post k 2 σ3 σ5 →
        ∃ n' : Nat, n' < n ∧ k = k ∧ Mo_unit_I138 k σ0 n' v1 r2 σ5)) ∧
    (¬ (σ1 k 6 = 2) →
      (r2 < 0 →
        Mo_wrong_pre k 2 σ1 ∧
        ∀ σ6 : Hp, Mo_wrong_post k 2 σ1 σ6 →
        ∃ n' : Nat, n' < n ∧ k = k ∧ Mo_unit_I138 k σ0 n' v1 r2 σ6) ∧
      (¬ (r2 < 0) →
        Mo_isFull_pre k σ1 ∧
        ∀ (r8 : Int) (σ7 : Hp), Mo_isFull_post k σ1 r8 σ7 →
        (r8 = 0 →
          ∃ n' : Nat, n' < n ∧ k = k ∧ Mo_unit_I138 k σ0 n' v1 r2 σ7) ∧
        (¬ (r8 = 0) →
          Mo_wrong_pre k 2 σ7 ∧
          ∀ σ9 : Hp, Mo_wrong_post k 2 σ7 σ9 →
          ∃ n' : Nat, n' < n ∧ k = k ∧ Mo_unit_I138 k σ0 n' v1 r2 σ9)))) ∧
  (¬ (σ k 2 ≤ 0) →
    Mo_unit_post k σ0 σ)
def Mo_unit_vc138 : Prop := ∀ (k : Nat) (σ0 : Hp), Mo_unit_pre k σ0 → ∀ (n : Nat) (v1 : Int) (v2 : Int) (σ : Hp), ax_H σ → Mo_unit_I138 k σ0 n v1 v2 σ →
  (σ k 2 ≤ 0 →
    Mo_countUnit_pre k σ ∧
    ∀ σ1 : Hp, Mo_countUnit_post k σ σ1 →
    (0 ≤ v2 →
      (0 ≤ v2 →
        Mo_add_pre k 1 v2 σ1 ∧
        ∀ σ2 : Hp, Mo_add_post k 1 v2 σ1 σ2 →
        Mo_token_pre k σ2 ∧
        ∀ σ3 : Hp, Mo_token_post k σ2 σ3 →
        Mo_unit_post k σ0 σ3) ∧
      (¬ (0 ≤ v2) →
        Mo_add_pre k 1 (σ1 k 8) σ1 ∧
        ∀ σ4 : Hp, Mo_add_post k 1 (σ1 k 8) σ1 σ4 →
        Mo_token_pre k σ4 ∧
        ∀ σ5 : Hp, Mo_token_post k σ4 σ5 →
        Mo_unit_post k σ0 σ5)) ∧
    (¬ (0 ≤ v2) →
      (0 ≤ v2 →
        Mo_add_pre k 0 v2 σ1 ∧
        ∀ σ6 : Hp, Mo_add_post k 0 v2 σ1 σ6 →
        Mo_token_pre k σ6 ∧
        ∀ σ7 : Hp, Mo_token_post k σ6 σ7 →
        Mo_unit_post k σ0 σ7) ∧
      (¬ (0 ≤ v2) →
        Mo_add_pre k 0 (σ1 k 8) σ1 ∧
        ∀ σ8 : Hp, Mo_add_post k 0 (σ1 k 8) σ1 σ8 →
        Mo_token_pre k σ8 ∧
        ∀ σ9 : Hp, Mo_token_post k σ8 σ9 →
        Mo_unit_post k σ0 σ9))) ∧
  (¬ (σ k 2 ≤ 0) →
    Mo_unit_post k σ0 σ)
theorem UO.mp {σ0 σ : Hp} {P Q : Tp → Nat → Prop} (h : UO σ0 σ P) (g : ∀ B q, MT σ B q → P B q → Q B q) : UO σ0 σ Q := by
  obtain ⟨h1, h2, h3, h4, h5⟩ := h
  refine ⟨h1, h2, h3, h4, fun B p M => ?_⟩
  obtain ⟨q, q1, q2, q3, q4⟩ := h5 B p M
  exact ⟨q, q1, q2, q3, g B q q2 q4⟩
theorem UO.bad {σ0 σ σ' : Hp} {P : Tp → Nat → Prop} (h : UO σ0 σ P) (g : Mo_wrong_post 67 2 σ σ') (hm : ∀ B q, MT σ B q → P B q → stM B (s0M σ q) = (3, q, SkM σ, EmM σ, uM σ)) (hw : ∃ B p, MT σ0 B p) : UF σ0 σ' ∧ RQ σ σ' := by
  obtain ⟨h1, h2, h3, h4, h5⟩ := h
  obtain ⟨B0, p0, M0⟩ := hw
  obtain ⟨q0, -, N0, -⟩ := h5 B0 p0 M0
  have w0 := N0.wg h1 g
  refine ⟨⟨?_, fun B p M => ?_⟩, w0.1⟩
  · rw [w0.2.1]; split <;> omega
  · obtain ⟨q, q1, q2, q3, q4⟩ := h5 B p M
    obtain ⟨-, w1, w2⟩ := q2.wg h1 g
    exact ⟨q, _, _, _, ⟨w1, w2⟩, q3.on (hm B q q2 q4)⟩
/-- a fault that stands, and writes that leave it -/
theorem UF.on {σ0 σ σ' : Hp} (h : UF σ0 σ) (e2 : σ' 67 2 = σ 67 2) (e3 : σ' 67 3 = σ 67 3) : UF σ0 σ' := by
  refine ⟨by rw [e2]; exact h.1, fun B p M => ?_⟩
  obtain ⟨q, S', E', u', ⟨w1, w2⟩, w3⟩ := h.2 B p M
  exact ⟨q, S', E', u', ⟨by rw [e2]; exact w1, by rw [e3]; exact w2⟩, w3⟩
theorem tS_up {B : Tp} {q : Nat} (hB : B.2 ≤ 1600) (hq : q ≤ B.2) (h : ¬ tK B q = 0) : tS B q < tS B (tN B q) ∧ tS B (tN B q) ≤ 1600 := by
  have hs := tS_R hB hq
  have hid := tok_id (B := B) (p := tS B q) (p' := q) (tS_id hB)
  have h1 := tN_R hB (p := tS B q) hs.2
  rw [hid.1, hid.2.2] at h1
  have h2 := tS_R hB (p := tN B q) h1.2.1
  have := h1.2.2 h
  omega
/-- something is opened, and a token is read -/
theorem UO.op {σ0 σ σ2 σ' : Hp} {a : Int} {P Q : Tp → Nat → Prop} (h : UO σ0 σ P) (ha : a = 20 ∨ a = 21) (hF : FIa σ2) (hd : DPm σ2) (hS : SkM σ2 = SkM σ) (hE : EmM σ2 = EmM σ) (hbase : σ2 67 22 - σ2 67 24 = σ 67 22 - σ 67 24) (hj : ∀ j, j ≤ 9 → σ2 67 j = σ 67 j) (h68 : σ2 68 = σ 68) (hu : uM σ2 = uM σ + (if a = 20 then 1 else 0)) (hdp : dpt (SkM σ) ≤ 6) (g : Mo_openUp_post 67 a σ2 σ')
    (hm : ∀ B q, MT σ B q → P B q → (¬ tK B q = 0 ∧ ¬ tK B q = 4) ∧ stM B (s0M σ q) = (0, tN B q, sop a :: SkM σ, EmM σ, uM σ2)) (hQ : ∀ B q, Q B q) (hw : ∃ B p, MT σ0 B p) : UO σ0 σ' Q ∧ GFm σ2 σ' ∧ (∀ x, x ≤ 7 → ms σ' x < ms σ 0) := by
  obtain ⟨h1, h2, h3, h4, h5⟩ := h
  have hlen := hF.len (by rw [hS]; exact h3.2.2.1) (by rw [hS]; omega)
  obtain ⟨o1, o2, o3, o4, o5, o6, o7⟩ := opM_FI hF hd (a := a) (by omega) ha
  have e2 : σ2 67 2 = 0 := by rw [hj 2 (by decide)]; exact h1
  have T := g.2 e2
  have q67 : ∀ j, j ≤ 9 → opM σ2 a 67 j = σ 67 j := fun j hj' => by rw [o6 j (by omega) (by omega), hj j hj']
  have tok : ∀ B q, MT σ B q → P B q → TQ (opM σ2 a) σ' ∧ MT σ' B (tN B q) := by
    intro B q M hP
    have Mo : MT (opM σ2 a) B q := M.keep (fun j _ j2 => q67 j j2) (by rw [o7, h68])
    exact (Mo.tok (hm B q M hP).1.2).2 σ' T
  obtain ⟨B0, p0, M0⟩ := hw
  obtain ⟨q0, q01, q02, q03, q04⟩ := h5 B0 p0 M0
  have T0 := (tok B0 q0 q02 q04).1
  have fe := T0.rq.fe
  have K := fe.keep
  have eS : SkM σ' = sop a :: SkM σ := by rw [K.1, o2, hS]
  have eE : EmM σ' = EmM σ := by rw [K.2.1, o3, hE]
  have eu : uM σ' = uM σ2 := by show (σ' 67 24).toNat = _; rw [fe.2.2.2.2.2.2.2.1, o6 24 (by decide) (by decide)]
  have edp : dpt (SkM σ') = dpt (SkM σ) + 1 := by
    rw [eS]
    show dpt (SkM σ) + (if sop a = 1 ∨ sop a = -6 then 1 else 0) = _
    rw [if_pos (by rcases ha with rfl | rfl <;> decide)]
  have f2 : σ' 67 2 = 0 := by rw [T0.2 2 (by decide) (by decide) (by decide) (by decide) (by decide), q67 2 (by decide)]; exact h1
  refine ⟨⟨f2, by rw [T0.2 3 (by decide) (by decide) (by decide) (by decide) (by decide), q67 3 (by decide)]; exact h2, ⟨K.2.2.1 o1, K.2.2.2 o4, ?_, ?_, by omega⟩, ?_, fun B p M => ?_⟩, o5.tr T0.rq.gf, fun x hx => ?_⟩
  · rw [eS]
    refine ⟨h3.2.2.1, ?_⟩
    rcases ha with rfl | rfl
    · exact Or.inl (by decide)
    · exact Or.inr (Or.inl (by decide))
  · rw [edp, eE, eS, eu, hu]
    have := h3.2.2.2.1
    show (EmM σ).length + (nb (SkM σ) + (if sop a = 1 then 0 else 1)) ≤ _
    rcases ha with rfl | rfl
    · rw [if_pos (by decide), if_pos rfl]; omega
    · rw [if_neg (by decide), if_neg (by decide)]; omega
  · rw [fe.2.2.2.2.2.2.1, fe.2.2.2.2.2.2.2.1, o6 22 (by decide) (by decide), o6 24 (by decide) (by decide), hbase]; exact h4
  · obtain ⟨q, q1, q2, q3, q4⟩ := h5 B p M
    have hb := q2.b
    have hN := tN_R hb.1 hb.2
    refine ⟨tN B q, ?_, (tok B q q2 q4).2, ?_, hQ _ _⟩
    · have := hN.2.2 (hm B q q2 q4).1.1; omega
    · have := q3.on (hm B q q2 q4).2
      rw [← eu, ← eS, ← eE] at this
      exact this
  · have hb := q02.b
    have hup := tS_up hb.1 hb.2 (hm B0 q0 q02 q04).1.1
    have a7 : σ 67 7 = (tS B0 q0 : Int) := q02.2.1
    have b7 : σ' 67 7 = (tS B0 (tN B0 q0) : Int) := (tok B0 q0 q02 q04).2.2.1
    unfold ms
    rw [a7, b7, f2, h1, if_pos rfl, if_pos rfl, Int.toNat_natCast, Int.toNat_natCast]
    omega
theorem opM_GF {σ σ' : Hp} {a : Int} (e : σ' = opM σ a) : GFm σ σ' := by
  have c : ∀ x, ¬ x = 67 → ¬ x = 76 → σ' x = σ x := fun x x1 x2 => by rw [e]; unfold opM; rw [hp_ne x1, hp_ne x1, hp_ne x2]
  have f : ∀ j, ¬ j = 21 → ¬ j = 25 → σ' 67 j = σ 67 j := fun j j1 j2 => by rw [e]; unfold opM; rw [hp_r2 (fun z => j2 z.2), hp_r2 (fun z => j1 z.2), hp_ne (by decide)]
  exact ⟨fun x hx => c x (fun z => hx (by simp [z])) (fun z => hx (by simp [z])), fun j hj => f j hj.2.2.2.2.2.2.2.1 hj.2.2.2.2.2.2.2.2.2.2, fun j _ => ⟨by rw [c 70 (by decide) (by decide)], by rw [c 71 (by decide) (by decide)]⟩, fun v _ => by rw [c 72 (by decide) (by decide)]⟩
theorem Mo_unit_p : Mo_unit_vc := by
  intro k σ hH hp0
  obtain ⟨rfl, h0, hw, hF⟩ := hp0
  exact ⟨_, rfl, GFm.rf, Or.inr ⟨rfl, rfl⟩, Or.inl ⟨h0, rfl, hF, rfl, fun B p M => ⟨p, Nat.le_refl _, M, Rch.rf, fun z => absurd z (by decide)⟩⟩⟩
theorem ms_lt {σ : Hp} {x y : Nat} (h : x < y) : ms σ x < ms σ y := by unfold ms; split <;> omega
theorem ms_le {σ : Hp} {x y : Nat} (h : x ≤ y) : ms σ x ≤ ms σ y := by unfold ms; split <;> omega
theorem ms_bad {σ σ' : Hp} {x y : Nat} (h2 : σ 67 2 = 0) (h2' : ¬ σ' 67 2 = 0) (hx : x ≤ 7) : ms σ' x < ms σ y := by unfold ms; rw [if_pos h2, if_neg h2']; omega
theorem Mo_unit_p2 : Mo_unit_vc2 := by
  intro k σ0 hp0 n v1 σ hH hI
  obtain ⟨rfl, h0, hw, hF⟩ := hp0
  obtain ⟨hG, hn, hU⟩ := hI
  refine ⟨fun h => ?_, fun h => ?_⟩
  · have hn' : n = ms σ 2 := by omega
    refine ⟨ms σ 1, by rw [hn']; exact ms_lt (by decide), rfl, hG, rfl, ?_⟩
    rcases hU with z | z
    · exact Or.inl (z.mp (fun B q _ y => y h))
    · exact Or.inr z
  · have hn' : n = ms σ 4 ∧ v1 = 1 := by omega
    obtain ⟨rfl, rfl⟩ := hn'
    refine ⟨fun h2 => ⟨ms σ 1, ms_lt (by decide), rfl, hG, rfl, ?_⟩, fun h2 => ⟨rfl, ?_⟩⟩
    · rcases hU with z | z
      · exact absurd z.1 h2
      · exact Or.inr z
    · have h2' := Classical.not_not.mp h2
      have hU : UO σ0 σ (fun B q => True) := by
        rcases hU with z | z
        · exact z.mp (fun _ _ _ _ => trivial)
        · have := z.1; omega
      have hFI := hU.2.2.1
      rintro r2 σ1 ⟨rfl, rfl⟩
      refine ⟨fun h3 => ⟨ms σ1 3, ms_lt (by decide), rfl, hG, rfl, rfl, hU.mp (fun B q M _ z => ite0 h3 ((M.wd _).mpr z.1))⟩, fun h3 => ⟨⟨rfl, hFI.1⟩, ?_⟩⟩
      have hN : ∀ B q, MT σ1 B q → isN B q := fun B q M => (M.wd _).mp (ite1 h3)
      rintro r4 σ3 ⟨rfl, rfl⟩
      refine ⟨fun h4 => ⟨ms σ3 3, ms_lt (by decide), rfl, hG, rfl, rfl, hU.mp (fun B q M _ z => ite0 h4 z.2)⟩, fun h4 => ?_⟩
      have htt := ite1 h4
      have e25 : σ3 67 25 = (dpt (SkM σ3) : Int) := hFI.2.1
      have hlen := hFI.1.len hFI.2.2.1 hFI.2.2.2.2
      have h21 := hFI.1.2.1
      have hd7 := hFI.2.2.2.2
      refine ⟨fun h5 => ⟨⟨rfl, ⟨h21.1, by omega⟩, ⟨by omega, by omega⟩, fun _ => ?_⟩, fun σ5 g => ?_⟩, fun h5 => ⟨rfl, fun σ6 g => ?_⟩⟩
      · obtain ⟨B, p, M⟩ := hw
        obtain ⟨q, -, N, -⟩ := hU.2.2.2.2 B p M
        exact ⟨B, q, N, by have := (hN B q N).1; omega⟩
      · obtain ⟨u1, u2, u3⟩ := hU.op (σ2 := σ3) (Q := fun B q => (1 : Int) = 0 → nNo σ5 B q ∧ nBr B q) (Or.inr rfl) hFI.1 hFI.2.1 rfl rfl rfl (fun _ _ => rfl) rfl rfl (by omega) g (fun B q M _ => ⟨by have := (hN B q M).1; omega, by rw [stM0, if_pos ⟨hN B q M, htt⟩, if_neg (by omega)]; rfl⟩) (fun B q z => absurd z (by decide)) hw
        exact ⟨ms σ5 4, Nat.lt_of_lt_of_le (u3 4 (by decide)) (ms_le (by decide)), rfl, hG.tr u2, Or.inr ⟨rfl, rfl⟩, Or.inl u1⟩
      · obtain ⟨f1, f2⟩ := hU.bad g (fun B q M _ => by rw [stM0, if_pos ⟨hN B q M, htt⟩, if_pos (by omega)]) hw
        have fe := f2.fe
        have n2 : ¬ σ6 67 2 = 0 := by have := f1.1; omega
        refine ⟨⟨rfl, ⟨by rw [fe.2.2.2.2.2.1]; exact h21.1, by rw [fe.2.2.2.2.2.1]; omega⟩, ⟨by rw [fe.2.2.2.2.2.2.2.2]; omega, by rw [fe.2.2.2.2.2.2.2.2]; omega⟩, fun z => absurd z n2⟩, fun σ7 g7 => ?_⟩
        have e7 := g7.1 n2
        have q : ∀ j, ¬ j = 21 → ¬ j = 25 → σ7 67 j = σ6 67 j := fun j j1 j2 => by rw [e7]; unfold opM; rw [hp_r2 (fun z => j2 z.2), hp_r2 (fun z => j1 z.2), hp_ne (by decide)]
        refine ⟨ms σ7 4, ms_bad h2' (by rw [q 2 (by decide) (by decide)]; exact n2) (by decide), rfl, ?_, Or.inr ⟨rfl, rfl⟩, Or.inr (f1.on (q 2 (by decide) (by decide)) (q 3 (by decide) (by decide)))⟩
        exact (hG.tr f2.gf).tr (opM_GF e7)
theorem Mo_unit_p53 : Mo_unit_vc53 := by
  intro k σ0 hp0 n v1 σ hH hI
  obtain ⟨rfl, h0, hw, hF⟩ := hp0
  obtain ⟨hG, rfl, rfl, hU⟩ := hI
  have hFI := hU.2.2.1
  have h2' := hU.1
  have e25 : σ 67 25 = (dpt (SkM σ) : Int) := hFI.2.1
  have hlen := hFI.1.len hFI.2.2.1 hFI.2.2.2.2
  have h21 := hFI.1.2.1
  have hd7 := hFI.2.2.2.2
  have r24 := hFI.1.2.2.2.2.2.1
  have r22 := hFI.1.2.2.2.2.2.2
  refine ⟨fun h => ⟨ms σ 2, ms_lt (by decide), rfl, hG, Or.inl ⟨rfl, rfl⟩, Or.inl (hU.mp (fun B q M z _ => ⟨z, fun y => h ((M.sg (by decide)).mpr y)⟩))⟩, fun h => ⟨⟨rfl, hFI.1⟩, ?_⟩⟩
  have hB : ∀ B q, MT σ B q → tK B q = 3 ∧ tV B q = 40 := fun B q M => (M.sg (by decide)).mp (Classical.not_not.mp h)
  -- a fault, and what is done in spite of it
  have bad : ∀ σ3 : Hp, Mo_wrong_post 67 2 σ σ3 → (30 ≤ uM σ ∨ 7 ≤ dpt (SkM σ)) → Mo_countUnit_pre 67 σ3 ∧ ∀ σ4 : Hp, Mo_countUnit_post 67 σ3 σ4 → Mo_openUp_pre 67 20 σ4 ∧ ∀ σ5 : Hp, Mo_openUp_post 67 20 σ4 σ5 → ∃ n' : Nat, n' < ms σ 3 ∧ (67 : Nat) = 67 ∧ Mo_unit_I2 67 σ0 n' 1 σ5 := by
    intro σ3 g hb
    obtain ⟨f1, f2⟩ := hU.bad g (fun B q M z => by rw [stM0, if_neg z, if_pos (hB B q M), if_pos hb]) hw
    have fe := f2.fe
    have n2 : ¬ σ3 67 2 = 0 := by have := f1.1; omega
    refine ⟨⟨rfl, by rw [fe.2.2.2.2.2.2.1]; omega, by rw [fe.2.2.2.2.2.2.2.1]; omega⟩, fun σ4 g4 => ?_⟩
    have e4 : σ4 = hp (hp σ3 67 22 (σ3 67 22 + 1)) 67 24 (σ3 67 24 + 1) := g4
    have q4 : ∀ j, ¬ j = 22 → ¬ j = 24 → σ4 67 j = σ3 67 j := fun j j1 j2 => by rw [e4, hp_r2 (fun z => j2 z.2), hp_r2 (fun z => j1 z.2)]
    have c4 : ∀ x, ¬ x = 67 → σ4 x = σ3 x := fun x hx => by rw [e4, hp_ne hx, hp_ne hx]
    have n4 : ¬ σ4 67 2 = 0 := by rw [q4 2 (by decide) (by decide)]; exact n2
    have G4 : GFm σ3 σ4 := GFm.of67 (fun x hx => c4 x (fun z => hx (by simp [z]))) (fun j hj => q4 j hj.2.2.2.2.2.2.2.2.1 hj.2.2.2.2.2.2.2.2.2.1)
    refine ⟨⟨rfl, by rw [q4 21 (by decide) (by decide), fe.2.2.2.2.2.1]; omega, by rw [q4 25 (by decide) (by decide), fe.2.2.2.2.2.2.2.2]; omega, fun z => absurd z n4⟩, fun σ5 g5 => ?_⟩
    have e5 := g5.1 n4
    have q : ∀ j, ¬ j = 21 → ¬ j = 25 → σ5 67 j = σ4 67 j := fun j j1 j2 => by rw [e5]; unfold opM; rw [hp_r2 (fun z => j2 z.2), hp_r2 (fun z => j1 z.2), hp_ne (by decide)]
    have qq : ∀ j, j ≤ 9 → σ5 67 j = σ3 67 j := fun j hj => by rw [q j (by omega) (by omega), q4 j (by omega) (by omega)]
    exact ⟨ms σ5 4, ms_bad h2' (by rw [qq 2 (by decide)]; exact n2) (by decide), rfl, ((hG.tr f2.gf).tr G4).tr (opM_GF e5), Or.inr ⟨rfl, rfl⟩, Or.inr (f1.on (qq 2 (by decide)) (qq 3 (by decide)))⟩
  rintro r2 σ1 ⟨rfl, rfl⟩
  refine ⟨fun h3 => ⟨rfl, fun σ3 g => bad σ3 g (Or.inl (ite1 h3))⟩, fun h3 => ⟨fun h5 => ⟨⟨rfl, by omega, by omega⟩, fun σ6 g6 => ?_⟩, fun h5 => ⟨rfl, fun σ8 g => bad σ8 g (Or.inr (by omega))⟩⟩⟩
  have hu30 := ite0' h3
  obtain ⟨c1, c2, c3, c4, c5, c6, c7, c8, c9⟩ := cnt_FI hFI.1 (by omega) g6
  refine ⟨⟨rfl, by rw [c8 21 (by decide) (by decide)]; omega, by rw [c8 25 (by decide) (by decide)]; omega, fun _ => ?_⟩, fun σ7 g7 => ?_⟩
  · obtain ⟨B, p, M⟩ := hw
    obtain ⟨q, -, N, -⟩ := hU.2.2.2.2 B p M
    exact ⟨B, q, N.keep (fun j j1 j2 => c8 j (by omega) (by omega)) c9, by have := (hB B q N).1; omega⟩
  · obtain ⟨u1, u2, u3⟩ := hU.op (σ2 := σ6) (Q := fun B q => (1 : Int) = 0 → nNo σ7 B q ∧ nBr B q) (Or.inl rfl) c1 (c4 hFI.2.1) c2 c3 c7 (fun j hj => c8 j (by omega) (by omega)) c9 (by rw [c6, if_pos rfl]) (by omega) g7 (fun B q M z => ⟨by have := (hB B q M).1; omega, by rw [stM0, if_neg z, if_pos (hB B q M), if_neg (by omega), c6]; rfl⟩) (fun B q z => absurd z (by decide)) hw
    exact ⟨ms σ7 4, Nat.lt_of_lt_of_le (u3 4 (by decide)) (ms_le (by decide)), rfl, (hG.tr c5).tr u2, Or.inr ⟨rfl, rfl⟩, Or.inl u1⟩
theorem Mo_unit_p101 : Mo_unit_vc101 := by
  intro k σ0 hp0 n v1 σ hH hI
  obtain ⟨rfl, h0, hw, hF⟩ := hp0
  obtain ⟨hG, rfl, hU⟩ := hI
  refine ⟨fun h => ⟨rfl, ?_⟩, fun h => ?_⟩
  · have hU : UO σ0 σ (fun B q => nNo σ B q ∧ nBr B q) := by
      rcases hU with z | z
      · exact z
      · have := z.1; omega
    have h2' := hU.1
    have hFI := hU.2.2.1
    rintro r2 σ1 ⟨rfl, hr2⟩
    have er : ∀ B q, MT σ1 B q → r2 = if tK B q = 1 then -1 - gvn (tV B q) else -1 := by
      intro B q M
      rw [hr2, M.2.2.1]
      by_cases z : tK B q = 1
      · rw [if_pos z, if_pos (srt_1.mpr z), M.2.2.2.1 z]
      · rw [if_neg z, if_neg (fun y => z (srt_1.mp y))]
    have bad : ∀ σ5 : Hp, Mo_wrong_post 67 2 σ1 σ5 → (∀ B q, MT σ1 B q → ¬ (isO B q ∧ uM σ1 < 30)) → ∃ n' : Nat, n' < ms σ1 1 ∧ (67 : Nat) = 67 ∧ Mo_unit_I138 67 σ0 n' v1 r2 σ5 := by
      intro σ5 g hb
      obtain ⟨f1, f2⟩ := hU.bad g (fun B q M z => by rw [stM0, if_neg z.1, if_neg z.2, if_neg (hb B q M)]) hw
      exact ⟨ms σ5 0, ms_bad h2' (by have := f1.1; omega) (by decide), rfl, hG.tr f2.gf, rfl, Or.inr f1⟩
    have good : (∀ B q, MT σ1 B q → isO B q) → uM σ1 < 30 → ∃ n' : Nat, n' < ms σ1 1 ∧ (67 : Nat) = 67 ∧ Mo_unit_I138 67 σ0 n' v1 r2 σ1 := fun ho hu =>
      ⟨ms σ1 0, ms_lt (by decide), rfl, hG, rfl, Or.inl ⟨hu, hU.mp (fun B q M z => ⟨z.1, z.2, ho B q M, er B q M⟩)⟩⟩
    refine ⟨fun h6 => ⟨⟨rfl, hFI.1⟩, ?_⟩, fun h6 => ⟨fun h7 => ⟨rfl, fun σ6 g => bad σ6 g (fun B q M z => ?_)⟩, fun h7 => ⟨⟨rfl, hFI.1⟩, ?_⟩⟩⟩
    · have k2 : ∀ B q, MT σ1 B q → isO B q := fun B q M => Or.inl (srt_2.mp (by rw [← M.2.2.1]; exact h6))
      rintro r4 σ3 ⟨rfl, rfl⟩
      refine ⟨fun h8 => good k2 (by have := ite0 h8; omega), fun h8 => ⟨rfl, fun σ5 g => bad σ5 g (fun B q M z => by have := ite1 h8; omega)⟩⟩
    · have e := er B q M
      rcases z.1 with y | y
      · exact h6 (by rw [M.2.2.1]; exact srt_2.mpr y)
      · rw [if_pos y.1] at e
        have := gvn_R (tV B q)
        have := y.2
        omega
    · have k2 : ∀ B q, MT σ1 B q → isO B q := fun B q M => by
        have e := er B q M
        by_cases z : tK B q = 1
        · rw [if_pos z] at e; exact Or.inr ⟨z, by omega⟩
        · rw [if_neg z] at e; omega
      rintro r8 σ7 ⟨rfl, rfl⟩
      refine ⟨fun h8 => good k2 (by have := ite0 h8; omega), fun h8 => ⟨rfl, fun σ5 g => bad σ5 g (fun B q M z => by have := ite1 h8; omega)⟩⟩
  · rcases hU with z | z
    · have := z.1; omega
    · exact ⟨hG, Or.inr z⟩
theorem Mo_unit_p138 : Mo_unit_vc138 := by
  intro k σ0 hp0 n v1 v2 σ hH hI
  obtain ⟨rfl, h0, hw, hF⟩ := hp0
  obtain ⟨hG, rfl, hU⟩ := hI
  refine ⟨fun h => ?_, fun h => ?_⟩
  · obtain ⟨hu, hU⟩ : uM σ < 30 ∧ UO σ0 σ (fun B q => nNo σ B q ∧ nBr B q ∧ isO B q ∧ v2 = if tK B q = 1 then -1 - gvn (tV B q) else -1) := by
      rcases hU with z | z
      · exact z
      · have := z.1; omega
    have h2' := hU.1
    have hFI := hU.2.2.1
    have r24 := hFI.1.2.2.2.2.2.1
    have r22 := hFI.1.2.2.2.2.2.2
    refine ⟨⟨rfl, by omega, by omega⟩, fun σ1 g1 => ?_⟩
    obtain ⟨c1, c2, c3, c4, c5, c6, c7, c8, c9⟩ := cnt_FI hFI.1 hu g1
    obtain ⟨em1, em2⟩ := c1.em
    have hEl := hFI.2.2.2.1
    have hd7 := hFI.2.2.2.2
    rw [c3] at em1
    have m320 : σ1 72 (wM σ1) < 320 := by omega
    -- what is common
    have fin : ∀ (s x : Int), vst s x → (∀ B q, MT σ B q → isO B q → v2 = (if tK B q = 1 then -1 - gvn (tV B q) else -1) → cod s x = opd B q) → Mo_add_pre 67 s x σ1 ∧ ∀ σ2 : Hp, Mo_add_post 67 s x σ1 σ2 → Mo_token_pre 67 σ2 ∧ ∀ σ3 : Hp, Mo_token_post 67 σ2 σ3 → Mo_unit_post 67 σ0 σ3 := by
      intro s x hv hc
      refine ⟨⟨rfl, c1.1, c1.2.2.2.1, m320⟩, fun σ2 g2 => ?_⟩
      obtain ⟨a1, a2, a3, a4, a5, a6⟩ := add_FI c1 m320 hv g2
      have q67 : ∀ j, j ≤ 9 → σ2 67 j = σ 67 j := fun j hj => by rw [a5]; exact c8 j (by omega) (by omega)
      have M2 : ∀ B q, MT σ B q → MT σ2 B q := fun B q M => M.keep (fun j _ j2 => q67 j j2) (by rw [a6, c9])
      have k4 : ∀ B q, isO B q → ¬ tK B q = 4 ∧ ¬ tK B q = 0 := fun B q z => by rcases z with y | y <;> omega
      obtain ⟨B0, p0, M0⟩ := hw
      obtain ⟨q0, q01, q02, q03, -, -, qO, -⟩ := hU.2.2.2.2 B0 p0 M0
      refine ⟨((M2 _ _ q02).tok (k4 _ _ qO).1).1, fun σ3 g3 => ?_⟩
      have T0 := (((M2 _ _ q02).tok (k4 _ _ qO).1).2 σ3 g3).1
      have fe := T0.rq.fe
      have K := fe.keep
      have eS : SkM σ3 = SkM σ := by rw [K.1, a2, c2]
      have eE : EmM σ3 = EmM σ ++ [cod s x] := by rw [K.2.1, a3, c3]
      have eu : uM σ3 = uM σ + 1 := by show (σ3 67 24).toNat = _; rw [fe.2.2.2.2.2.2.2.1, a5]; exact c6
      have D3 : DPm σ3 := K.2.2.2 (by
        unfold DPm
        rw [a5, a2]
        exact c4 hFI.2.1)
      refine ⟨((hG.tr c5).tr a4).tr T0.rq.gf, Or.inl ⟨?_, ?_, ⟨K.2.2.1 a1, D3, by rw [eS]; exact hFI.2.2.1, ?_, ?_, by rw [eS]; exact hd7⟩, ?_, fun B p M => ?_⟩⟩
      · rw [T0.2 2 (by decide) (by decide) (by decide) (by decide) (by decide), q67 2 (by decide)]; exact h2'
      · rw [T0.2 3 (by decide) (by decide) (by decide) (by decide) (by decide), q67 3 (by decide)]; exact hU.2.1
      · rw [eS, eE, eu, List.length_append]
        simp
        omega
      · rw [eE, List.length_append]
        simp
      · rw [fe.2.2.2.2.2.2.1, fe.2.2.2.2.2.2.2.1, a5, c7]; exact hU.2.2.2.1
      · obtain ⟨q, q1, q2, q3, n1, n2, nO, nv⟩ := hU.2.2.2.2 B p M
        have hb := q2.b
        have hN := tN_R hb.1 hb.2
        have := hN.2.2 (k4 B q nO).2
        refine ⟨tN B q, by omega, (((M2 _ _ q2).tok (k4 _ _ nO).1).2 σ3 g3).2, ?_⟩
        have st : stM B (s0M σ q) = (1, tN B q, SkM σ3, EmM σ3, uM σ3) := by rw [stM0, if_neg n1, if_neg n2, if_pos ⟨nO, hu⟩, eS, eE, eu, hc B q q2 nO nv]
        exact q3.on st
    obtain ⟨B0, p0, M0⟩ := hw
    obtain ⟨q0, q01, q02, q03, -, -, qO, qv⟩ := hU.2.2.2.2 B0 p0 M0
    have gR := gvn_R (tV B0 q0)
    refine ⟨fun h3 => ⟨fun _ => fin 1 v2 (Or.inr (Or.inl ⟨rfl, h3, ?_⟩)) (fun B q M nO nv => ?_), fun z => absurd h3 z⟩, fun h3 => ⟨fun z => absurd z h3, fun _ => fin 0 (σ1 67 8) (Or.inl ⟨rfl, ?_⟩) (fun B q M nO nv => ?_)⟩⟩
    · rw [qv]; split <;> omega
    · by_cases z : tK B q = 1
      · rw [if_pos z] at nv
        unfold opd
        rw [if_neg (by omega)]
        show -1 - v2 = _
        omega
      · rw [if_neg z] at nv; omega
    · have k2 : tK B0 q0 = 2 := by
        rcases qO with y | y
        · exact y
        · rw [if_pos y.1] at qv; have := y.2; omega
      rw [c8 8 (by decide) (by decide), q02.2.2.2.2.1 k2]
      exact (tV_num q02.b.1 k2).1
    · have k2 : tK B q = 2 := by
        rcases nO with y | y
        · exact y
        · rw [if_pos y.1] at nv; have := gvn_R (tV B q); have := y.2; omega
      unfold opd
      rw [if_pos k2]
      show σ1 67 8 = _
      rw [c8 8 (by decide) (by decide)]
      exact M.2.2.2.2.1 k2
  · rcases hU with z | z
    · have := z.2.1; omega
    · exact ⟨hG, Or.inr z⟩
def Mo_unit_I : List AV → Hp → Nat → Nat → List AV → List AV → Hp → Prop := fun as σ0 pc n st ls σ => (match as with
    | [.inr (.inr (.inl (k, 0, 9)))] => (bif Nat.beq pc 2 then (match st, ls with
      | [], [.inr (.inr (.inl (k', 0, 9))), .inl v1, _] => k = k' ∧ Mo_unit_I2 k σ0 n v1 σ
      | _, _ => False) else (bif Nat.beq pc 53 then (match st, ls with
      | [], [.inr (.inr (.inl (k', 0, 9))), .inl v1, _] => k = k' ∧ Mo_unit_I53 k σ0 n v1 σ
      | _, _ => False) else (bif Nat.beq pc 101 then (match st, ls with
      | [], [.inr (.inr (.inl (k', 0, 9))), .inl v1, _] => k = k' ∧ Mo_unit_I101 k σ0 n v1 σ
      | _, _ => False) else (bif Nat.beq pc 138 then (match st, ls with
      | [], [.inr (.inr (.inl (k', 0, 9))), .inl v1, .inl v2] => k = k' ∧ Mo_unit_I138 k σ0 n v1 v2 σ
      | _, _ => False) else False))))
    | _ => False)
def Mo_unit_ct : Nat → Ct := fun n => match n with
  | 0 => Mo_isWord_cs
  | 1 => Mo_mayNot_cs
  | 2 => Mo_wrong_cs
  | 3 => Mo_openUp_cs
  | 4 => Mo_isFull_cs
  | 5 => Mo_countUnit_cs
  | 6 => Mo_asked_cs
  | 7 => Mo_add_cs
  | 8 => Mo_token_cs
  | _ => Mo_unit_cs
set_option maxRecDepth 20000 in
set_option maxHeartbeats 4000000 in
theorem Mo_unit_met {l : Launch} {D : va_G} {ad : Nat → Nat} {ca : Nat → ClassId} {L : Nat} {fx : Nat → Int} : ax_MC l D ad ca L fx yX9_unit cX9_unit 3 none 4 Mo_unit_cs := by
  refine ax_met (oc := 9) (ct := Mo_unit_ct) (calls := Mo_unit_cl) (bs := Mo_unit_bk) (cut := fun pc => Nat.beq pc 2 || Nat.beq pc 53 || Nat.beq pc 101 || Nat.beq pc 138) (f := 18) (I := Mo_unit_I) (by decide) rfl rfl Mo_unit_ck (List.forall_mem_cons.mpr ⟨ax_cwV Mo_isWord_met (by decide) (by decide) rfl (by decide) rfl (ax_m6 167 (by decide +kernel) rfl) Mo_isWord_w rfl Mo_isWord_ds, List.forall_mem_cons.mpr ⟨ax_cwV Mo_mayNot_met (by decide) (by decide) rfl (by decide) rfl (ax_m6 235 (by decide +kernel) rfl) Mo_mayNot_w rfl Mo_mayNot_ds, List.forall_mem_cons.mpr ⟨ax_cwV Mo_wrong_met (by decide) (by decide) rfl (by decide) rfl (ax_m6 199 (by decide +kernel) rfl) Mo_wrong_w rfl Mo_wrong_ds, List.forall_mem_cons.mpr ⟨ax_cwV Mo_openUp_met (by decide) (by decide) rfl (by decide) rfl (ax_m7 2 (by decide +kernel) rfl) Mo_openUp_w rfl Mo_openUp_ds, List.forall_mem_cons.mpr ⟨ax_cwV Mo_isFull_met (by decide) (by decide) rfl (by decide) rfl (ax_m7 6 (by decide +kernel) rfl) Mo_isFull_w rfl Mo_isFull_ds, List.forall_mem_cons.mpr ⟨ax_cwV Mo_countUnit_met (by decide) (by decide) rfl (by decide) rfl (ax_m7 10 (by decide +kernel) rfl) Mo_countUnit_w rfl Mo_countUnit_ds, List.forall_mem_cons.mpr ⟨ax_cwV Mo_asked_met (by decide) (by decide) rfl (by decide) rfl (ax_m7 14 (by decide +kernel) rfl) Mo_asked_w rfl Mo_asked_ds, List.forall_mem_cons.mpr ⟨ax_cwV Mo_add_met (by decide) (by decide) rfl (by decide) rfl (ax_m7 18 (by decide +kernel) rfl) Mo_add_w rfl Mo_add_ds, List.forall_mem_cons.mpr ⟨ax_cwV Mo_token_met (by decide) (by decide) rfl (by decide) rfl (ax_m6 145 (by decide +kernel) rfl) Mo_token_w rfl Mo_token_ds, fun _ h => absurd h List.not_mem_nil⟩⟩⟩⟩⟩⟩⟩⟩⟩) ?_ ?_
  · intro as σ0 hp hH
    match as, hp with
    | [.inr (.inr (.inl (k, 0, 9)))], hp => exact ⟨rfl, Mo_unit_p k σ0 hH hp⟩
  · intro as σ0 hp n pc st ls σ hH hI
    match as, hp, hI with
    | [.inr (.inr (.inl (k, 0, 9)))], hp, hI =>
      rcases ax_bifE hI with ⟨hpc, hI⟩ | ⟨-, hI⟩
      · have := Nat.eq_of_beq_eq_true hpc
        subst this
        match st, ls, hI with
        | [], [.inr (.inr (.inl (k', 0, 9))), .inl v1, _], hI =>
          obtain ⟨rfl, hI⟩ := hI
          exact Mo_unit_p2 k σ0 hp n v1 σ hH hI
      rcases ax_bifE hI with ⟨hpc, hI⟩ | ⟨-, hI⟩
      · have := Nat.eq_of_beq_eq_true hpc
        subst this
        match st, ls, hI with
        | [], [.inr (.inr (.inl (k', 0, 9))), .inl v1, _], hI =>
          obtain ⟨rfl, hI⟩ := hI
          exact Mo_unit_p53 k σ0 hp n v1 σ hH hI
      rcases ax_bifE hI with ⟨hpc, hI⟩ | ⟨-, hI⟩
      · have := Nat.eq_of_beq_eq_true hpc
        subst this
        match st, ls, hI with
        | [], [.inr (.inr (.inl (k', 0, 9))), .inl v1, _], hI =>
          obtain ⟨rfl, hI⟩ := hI
          exact Mo_unit_p101 k σ0 hp n v1 σ hH hI
      rcases ax_bifE hI with ⟨hpc, hI⟩ | ⟨-, hI⟩
      · have := Nat.eq_of_beq_eq_true hpc
        subst this
        match st, ls, hI with
        | [], [.inr (.inr (.inl (k', 0, 9))), .inl v1, .inl v2], hI =>
          obtain ⟨rfl, hI⟩ := hI
          exact Mo_unit_p138 k σ0 hp n v1 v2 σ hH hI
      exact False.elim hI
