-- THE MODEL'S READER: a line
theorem HFm.lf {w : Nat} {σ σ' : Hp} (h : HFm w σ σ') : LFr σ σ' := by
  refine ⟨h.1.mono (by simp [rcs]), fun j hj => h.2.1 j ?_ ?_⟩
  · unfold rfx at hj
    unfold fst
    omega
  · unfold rfx at hj
    omega
def Mo_readLine_pre (k : Nat) (σ : Hp) : Prop := k = 67 ∧ σ 67 2 = 0 ∧ MT σ (tpR σ) (plM σ) ∧ ∃ q, PM σ q
def Mo_readLine_post (_k : Nat) (σ σ' : Hp) : Prop := LFr σ σ' ∧ ∀ q, PM σ q → LOm σ σ' (ln (tpR σ) (plM σ) q)
def isW (σ : Hp) (w : Int) : Prop := tK (tpR σ) (plM σ) = 1 ∧ tV (tpR σ) (plM σ) = w
def nP (σ : Hp) : Prop := ¬ (isW σ 123581014175598 ∧ σ 67 37 < 6)
def nK (σ : Hp) : Prop := ¬ (isW σ 461414299507 ∧ σ 67 38 < 12)
def nW (σ : Hp) : Prop := ¬ (isW σ 512970879609 ∧ σ 78 0 = 0)
def nG (σ : Hp) : Prop := ¬ (isW σ 444301539187 ∧ σ 78 1 = 0)
def nE (σ : Hp) : Prop := ¬ (isW σ 1700885349 ∧ σ 67 44 = 0)
def nD (σ : Hp) : Prop := ¬ (isW σ 1685217655 ∧ σ 67 45 = 0)
def Mo_readLine_I26 (_k : Nat) (σ0 : Hp) (n : Nat) (σ : Hp) : Prop := σ = σ0 ∧ n = 9 ∧ nP σ0
def Mo_readLine_I52 (_k : Nat) (σ0 : Hp) (n : Nat) (σ : Hp) : Prop := σ = σ0 ∧ n = 8 ∧ nP σ0 ∧ nK σ0
def Mo_readLine_I79 (_k : Nat) (σ0 : Hp) (n : Nat) (σ : Hp) : Prop := σ = σ0 ∧ n = 7 ∧ nP σ0 ∧ nK σ0 ∧ nW σ0
def Mo_readLine_I106 (_k : Nat) (σ0 : Hp) (n : Nat) (σ : Hp) : Prop := σ = σ0 ∧ n = 6 ∧ nP σ0 ∧ nK σ0 ∧ nW σ0 ∧ nG σ0
def Mo_readLine_I146 (_k : Nat) (σ0 : Hp) (n : Nat) (σ : Hp) : Prop := σ = σ0 ∧ n = 5 ∧ nP σ0 ∧ nK σ0 ∧ nW σ0 ∧ nG σ0 ∧ nE σ0
def Mo_readLine_I186 (_k : Nat) (σ0 : Hp) (n : Nat) (σ : Hp) : Prop := σ = σ0 ∧ n = 4 ∧ nP σ0 ∧ nK σ0 ∧ nW σ0 ∧ nG σ0 ∧ nE σ0 ∧ nD σ0
def okL (σ0 σ : Hp) (q : PS) : Prop := ∃ x, Gom σ0 σ (tpR σ0) x.2 ∧ PM σ x.1 ∧ ln (tpR σ0) (plM σ0) q = sgE (tpR σ0) x
def Mo_readLine_I191 (_k : Nat) (σ0 : Hp) (n : Nat) (σ : Hp) : Prop := LFr σ0 σ ∧ n = 3 ∧ (flO σ0 σ (ln (tpR σ0) (plM σ0)) ∨ (σ 67 2 = 0 ∧ (∃ p, Gom σ0 σ (tpR σ0) p) ∧ ∀ q, PM σ0 q → okL σ0 σ q))
def Mo_readLine_bk : List (Nat × List Item) := [(0, [(.aload_n 0, 1, [], []), (.ldc2_w 182, 3, [], [(123581014175598, 0)]), (.invokevirtual 220, 3, [0], []), (.ifCond .eq 19, 3, [26], []), (.aload_n 0, 1, [], []), (.getfield 238, 3, [9, 37, 0, 0, 0, 0], []), (.bipush 6, 2, [], []), (.if_icmp .ge 10, 3, [26], []), (.aload_n 0, 1, [], []), (.invokevirtual 327, 3, [1], []), (.goto 168, 3, [191], [])]),
  (26, [(.aload_n 0, 1, [], []), (.ldc2_w 190, 3, [], [(461414299507, 0)]), (.invokevirtual 220, 3, [0], []), (.ifCond .eq 19, 3, [52], []), (.aload_n 0, 1, [], []), (.getfield 324, 3, [9, 38, 0, 0, 0, 0], []), (.bipush 12, 2, [], []), (.if_icmp .ge 10, 3, [52], []), (.aload_n 0, 1, [], []), (.invokevirtual 330, 3, [2], []), (.goto 142, 3, [191], [])]),
  (52, [(.aload_n 0, 1, [], []), (.ldc2_w 192, 3, [], [(512970879609, 0)]), (.invokevirtual 220, 3, [0], []), (.ifCond .eq 20, 3, [79], []), (.aload_n 0, 1, [], []), (.getfield 45, 3, [9, 19, 4, 11, 3, 2], []), (.iconst 0, 1, [], []), (.baload, 1, [], []), (.ifCond .ne 11, 3, [79], []), (.aload_n 0, 1, [], []), (.iconst 0, 1, [], []), (.invokevirtual 333, 3, [3], []), (.goto 115, 3, [191], [])]),
  (79, [(.aload_n 0, 1, [], []), (.ldc2_w 194, 3, [], [(444301539187, 0)]), (.invokevirtual 220, 3, [0], []), (.ifCond .eq 20, 3, [106], []), (.aload_n 0, 1, [], []), (.getfield 45, 3, [9, 19, 4, 11, 3, 2], []), (.iconst 1, 1, [], []), (.baload, 1, [], []), (.ifCond .ne 11, 3, [106], []), (.aload_n 0, 1, [], []), (.iconst 1, 1, [], []), (.invokevirtual 333, 3, [3], []), (.goto 88, 3, [191], [])]),
  (106, [(.aload_n 0, 1, [], []), (.ldc2_w 196, 3, [], [(1700885349, 0)]), (.invokevirtual 220, 3, [0], []), (.ifCond .eq 33, 3, [146], []), (.aload_n 0, 1, [], []), (.getfield 336, 3, [9, 44, 1, 0, 0, 0], []), (.ifCond .ne 26, 3, [146], []), (.aload_n 0, 1, [], []), (.iconst 1, 1, [], []), (.putfield 336, 3, [9, 44, 1, 0, 0, 0], []), (.aload_n 0, 1, [], []), (.aload_n 0, 1, [], []), (.ldc2_w 196, 3, [], [(1700885349, 0)]), (.iconst 0, 1, [], []), (.sipush 999, 3, [], []), (.invokevirtual 314, 3, [4], []), (.putfield 340, 3, [9, 39, 0, 0, 0, 0], []), (.goto 48, 3, [191], [])]),
  (146, [(.aload_n 0, 1, [], []), (.ldc2_w 198, 3, [], [(1685217655, 0)]), (.invokevirtual 220, 3, [0], []), (.ifCond .eq 33, 3, [186], []), (.aload_n 0, 1, [], []), (.getfield 343, 3, [9, 45, 1, 0, 0, 0], []), (.ifCond .ne 26, 3, [186], []), (.aload_n 0, 1, [], []), (.iconst 1, 1, [], []), (.putfield 343, 3, [9, 45, 1, 0, 0, 0], []), (.aload_n 0, 1, [], []), (.aload_n 0, 1, [], []), (.ldc2_w 198, 3, [], [(1685217655, 0)]), (.iconst 0, 1, [], []), (.sipush 999, 3, [], []), (.invokevirtual 314, 3, [4], []), (.putfield 346, 3, [9, 40, 0, 0, 0, 0], []), (.goto 8, 3, [191], [])]),
  (186, [(.aload_n 0, 1, [], []), (.iconst 2, 1, [], []), (.invokevirtual 224, 3, [5], [])]),
  (191, [(.aload_n 0, 1, [], []), (.getfield 179, 3, [9, 2, 0, 0, 0, 0], []), (.ifCond .ne 17, 3, [212], []), (.aload_n 0, 1, [], []), (.getfield 166, 3, [9, 6, 0, 0, 0, 0], []), (.bipush 59, 2, [], []), (.if_icmp .eq 8, 3, [212], []), (.aload_n 0, 1, [], []), (.iconst 2, 1, [], []), (.invokevirtual 224, 3, [5], [])]),
  (212, [(.aload_n 0, 1, [], []), (.getfield 179, 3, [9, 2, 0, 0, 0, 0], []), (.ifCond .ne 7, 3, [223], []), (.aload_n 0, 1, [], []), (.invokevirtual 227, 3, [6], [])]),
  (223, [(.return_, 1, [], [])])]
def Mo_readLine_cl : List (Instr × Nat) := [(.invokevirtual 220, 0), (.invokevirtual 327, 1), (.invokevirtual 330, 2), (.invokevirtual 333, 3), (.invokevirtual 314, 4), (.invokevirtual 224, 5), (.invokevirtual 227, 6)]
set_option maxRecDepth 20000 in
theorem Mo_readLine_ck : Mo_readLine_bk.all (fun b => ax_chB 9 1 cX9_readLine Mo_readLine_cl b.1 b.2) = true := by decide +kernel
def Mo_readLine_cs : Ct := (1, 10, 0, (0, 0), fun as σ => (match as with
    | [.inr (.inr (.inl (k, 0, 9)))] => Mo_readLine_pre k σ
    | _ => False), fun as σ r σ' => (match as with
    | [.inr (.inr (.inl (k, 0, 9)))] => Mo_readLine_post k σ σ'
    | _ => False))
theorem Mo_readLine_w : ∀ w ∈ ([.instanceMethod yX9_readLine, .selects yX9_readLine.cls yX9_readLine yX9_readLine, .initialized yX9_readLine.cls, .code yX9_readLine cX9_readLine 1 none] : List Cond), w ∈ ax_tb := ax_w4 (ax_m6 164 (by decide +kernel) rfl) (ax_m0 10 (by decide +kernel) rfl) (ax_m1 10 (by decide +kernel) rfl) (ax_m6 165 (by decide +kernel) rfl)
theorem Mo_readLine_ds : yX9_readLine.cls ≠ "java/lang/invoke/MethodHandle" ∧ yX9_readLine.cls ≠ "java/lang/invoke/VarHandle" ∧ (parseMethodDescriptor yX9_readLine.desc).map (fun d => d.parameters.length) = some 0 := by decide +kernel
def Mo_readLine_vc : Prop := ∀ (k : Nat) (σ : Hp), ax_H σ → Mo_readLine_pre k σ →
  Mo_isWord_pre k 123581014175598 σ ∧
  ∀ (r2 : Int) (σ1 : Hp), Mo_isWord_post k 123581014175598 σ r2 σ1 →
  (r2 = 0 →
    ∃ n' : Nat, k = k ∧ Mo_readLine_I26 k σ n' σ1) ∧
  (¬ (r2 = 0) →
    (6 ≤ σ1 k 37 →
      ∃ n' : Nat, k = k ∧ Mo_readLine_I26 k σ n' σ1) ∧
    (¬ (6 ≤ σ1 k 37) →
      Mo_readPerson_pre k σ1 ∧
      ∀ σ3 : Hp, Mo_readPerson_post k σ1 σ3 →
      ∃ n' : Nat, k = k ∧ Mo_readLine_I191 k σ n' σ3))
def Mo_readLine_vc26 : Prop := ∀ (k : Nat) (σ0 : Hp), Mo_readLine_pre k σ0 → ∀ (n : Nat)  (σ : Hp), ax_H σ → Mo_readLine_I26 k σ0 n σ →
  Mo_isWord_pre k 461414299507 σ ∧
  ∀ (r2 : Int) (σ1 : Hp), Mo_isWord_post k 461414299507 σ r2 σ1 →
  (r2 = 0 →
    ∃ n' : Nat, n' < n ∧ k = k ∧ Mo_readLine_I52 k σ0 n' σ1) ∧
  (¬ (r2 = 0) →
    (12 ≤ σ1 k 38 →
      ∃ n' : Nat, n' < n ∧ k = k ∧ Mo_readLine_I52 k σ0 n' σ1) ∧
    (¬ (12 ≤ σ1 k 38) →
      Mo_readKnows_pre k σ1 ∧
      ∀ σ3 : Hp, Mo_readKnows_post k σ1 σ3 →
      ∃ n' : Nat, n' < n ∧ k = k ∧ Mo_readLine_I191 k σ0 n' σ3))
def Mo_readLine_vc52 : Prop := ∀ (k : Nat) (σ0 : Hp), Mo_readLine_pre k σ0 → ∀ (n : Nat)  (σ : Hp), ax_H σ → Mo_readLine_I52 k σ0 n σ →
  Mo_isWord_pre k 512970879609 σ ∧
  ∀ (r2 : Int) (σ1 : Hp), Mo_isWord_post k 512970879609 σ r2 σ1 →
  (r2 = 0 →
    ∃ n' : Nat, n' < n ∧ k = k ∧ Mo_readLine_I79 k σ0 n' σ1) ∧
  (¬ (r2 = 0) →
    (0 ≤ (0 : Int) ∧ (0 : Int) < 2) ∧
    (¬ σ1 (k + 11) 0 = 0 →
      ∃ n' : Nat, n' < n ∧ k = k ∧ Mo_readLine_I79 k σ0 n' σ1) ∧
    (¬ (¬ σ1 (k + 11) 0 = 0) →
      Mo_formula_pre k 0 σ1 ∧
      ∀ σ3 : Hp, Mo_formula_post k 0 σ1 σ3 →
      ∃ n' : Nat, n' < n ∧ k = k ∧ Mo_readLine_I191 k σ0 n' σ3))
def Mo_readLine_vc79 : Prop := ∀ (k : Nat) (σ0 : Hp), Mo_readLine_pre k σ0 → ∀ (n : Nat)  (σ : Hp), ax_H σ → Mo_readLine_I79 k σ0 n σ →
  Mo_isWord_pre k 444301539187 σ ∧
  ∀ (r2 : Int) (σ1 : Hp), Mo_isWord_post k 444301539187 σ r2 σ1 →
  (r2 = 0 →
    ∃ n' : Nat, n' < n ∧ k = k ∧ Mo_readLine_I106 k σ0 n' σ1) ∧
  (¬ (r2 = 0) →
    (0 ≤ (1 : Int) ∧ (1 : Int) < 2) ∧
    (¬ σ1 (k + 11) 1 = 0 →
      ∃ n' : Nat, n' < n ∧ k = k ∧ Mo_readLine_I106 k σ0 n' σ1) ∧
    (¬ (¬ σ1 (k + 11) 1 = 0) →
      Mo_formula_pre k 1 σ1 ∧
      ∀ σ3 : Hp, Mo_formula_post k 1 σ1 σ3 →
      ∃ n' : Nat, n' < n ∧ k = k ∧ Mo_readLine_I191 k σ0 n' σ3))
def Mo_readLine_vc106 : Prop := ∀ (k : Nat) (σ0 : Hp), Mo_readLine_pre k σ0 → ∀ (n : Nat)  (σ : Hp), ax_H σ → Mo_readLine_I106 k σ0 n σ →
  Mo_isWord_pre k 1700885349 σ ∧
  ∀ (r2 : Int) (σ1 : Hp), Mo_isWord_post k 1700885349 σ r2 σ1 →
  (r2 = 0 →
    ∃ n' : Nat, n' < n ∧ k = k ∧ Mo_readLine_I146 k σ0 n' σ1) ∧
  (¬ (r2 = 0) →
    (¬ σ1 k 44 = 0 →
      ∃ n' : Nat, n' < n ∧ k = k ∧ Mo_readLine_I146 k σ0 n' σ1) ∧
    (¬ (¬ σ1 k 44 = 0) →
      ((1 : Int) = 0 ∨ (1 : Int) = 1) ∧
      ∀ σ3 : Hp, σ3 = hp σ1 k 44 1 →
      Mo_told_pre k 1700885349 0 999 σ3 ∧
      ∀ (r5 : Int) (σ4 : Hp), Mo_told_post k 1700885349 0 999 σ3 r5 σ4 →
      ∀ σ6 : Hp, σ6 = hp σ4 k 39 r5 →
      ∃ n' : Nat, n' < n ∧ k = k ∧ Mo_readLine_I191 k σ0 n' σ6))
def Mo_readLine_vc146 : Prop := ∀ (k : Nat) (σ0 : Hp), Mo_readLine_pre k σ0 → ∀ (n : Nat)  (σ : Hp), ax_H σ → Mo_readLine_I146 k σ0 n σ →
  Mo_isWord_pre k 1685217655 σ ∧
  ∀ (r2 : Int) (σ1 : Hp), Mo_isWord_post k 1685217655 σ r2 σ1 →
  (r2 = 0 →
    ∃ n' : Nat, n' < n ∧ k = k ∧ Mo_readLine_I186 k σ0 n' σ1) ∧
  (¬ (r2 = 0) →
    (¬ σ1 k 45 = 0 →
      ∃ n' : Nat, n' < n ∧ k = k ∧ Mo_readLine_I186 k σ0 n' σ1) ∧
    (¬ (¬ σ1 k 45 = 0) →
      ((1 : Int) = 0 ∨ (1 : Int) = 1) ∧
      ∀ σ3 : Hp, σ3 = hp σ1 k 45 1 →
      Mo_told_pre k 1685217655 0 999 σ3 ∧
      ∀ (r5 : Int) (σ4 : Hp), Mo_told_post k 1685217655 0 999 σ3 r5 σ4 →
      ∀ σ6 : Hp, σ6 = hp σ4 k 40 r5 →
      ∃ n' : Nat, n' < n ∧ k = k ∧ Mo_readLine_I191 k σ0 n' σ6))
def Mo_readLine_vc186 : Prop := ∀ (k : Nat) (σ0 : Hp), Mo_readLine_pre k σ0 → ∀ (n : Nat)  (σ : Hp), ax_H σ → Mo_readLine_I186 k σ0 n σ →
  Mo_wrong_pre k 2 σ ∧
  ∀ σ1 : Hp, Mo_wrong_post k 2 σ σ1 →
  ∃ n' : Nat, n' < n ∧ k = k ∧ Mo_readLine_I191 k σ0 n' σ1
def Mo_readLine_vc191 : Prop := ∀ (k : Nat) (σ0 : Hp), Mo_readLine_pre k σ0 → ∀ (n : Nat)  (σ : Hp), ax_H σ → Mo_readLine_I191 k σ0 n σ →
  (¬ σ k 2 = 0 →
    (¬ σ k 2 = 0 →
      Mo_readLine_post k σ0 σ) ∧
    (¬ (¬ σ k 2 = 0) →
      Mo_token_pre k σ ∧
      ∀ σ1 : Hp, Mo_token_post k σ σ1 →
      Mo_readLine_post k σ0 σ1)) ∧
  (¬ (¬ σ k 2 = 0) →
    (σ k 6 = 59 →
      (¬ σ k 2 = 0 →
        Mo_readLine_post k σ0 σ) ∧
      (¬ (¬ σ k 2 = 0) →
        Mo_token_pre k σ ∧
        ∀ σ2 : Hp, Mo_token_post k σ σ2 →
        Mo_readLine_post k σ0 σ2)) ∧
    (¬ (σ k 6 = 59) →
      Mo_wrong_pre k 2 σ ∧
      ∀ σ3 : Hp, Mo_wrong_post k 2 σ σ3 →
      (¬ σ3 k 2 = 0 →
        Mo_readLine_post k σ0 σ3) ∧
      (¬ (¬ σ3 k 2 = 0) →
        Mo_token_pre k σ3 ∧
        ∀ σ4 : Hp, Mo_token_post k σ3 σ4 →
        Mo_readLine_post k σ0 σ4)))
theorem iw_m {σ : Hp} (M : MT σ (tpR σ) (plM σ)) (w : Int) : (σ 67 6 = 1 ∧ σ 67 9 = w) ↔ isW σ w := M.wd w
/-- what a part of a line gives, as a line -/
theorem to191 {σ0 σ : Hp} {f : PS → Oc (PS × Nat)} (hL : LFr σ0 σ) (h : ∀ q, PM σ0 q → LOm σ0 σ (f q)) (e : ∀ q, PM σ0 q → ln (tpR σ0) (plM σ0) q = oB (f q) (sgE (tpR σ0))) (hq : ∃ q, PM σ0 q) : Mo_readLine_I191 67 σ0 3 σ := by
  refine ⟨hL, rfl, ?_⟩
  obtain ⟨q0, hq0⟩ := hq
  have h0 := h q0 hq0
  have key : ∀ q, PM σ0 q → ((∃ x, f q = .inl x ∧ ¬ x.1 = 0 ∧ 0 ≤ x.1 ∧ Fs σ0 σ (tpR σ0) x.1 x.2) ∨ (∃ x, f q = .inr x ∧ Gom σ0 σ (tpR σ0) x.2 ∧ PM σ x.1)) := by
    intro q hq
    have hl := h q hq
    unfold LOm outM at hl
    split at hl
    · exact Or.inl ⟨_, by assumption, hl⟩
    · exact Or.inr ⟨_, by assumption, hl⟩
  rcases key q0 hq0 with ⟨x, a1, a2, a3, a4⟩ | ⟨x, a1, a2, a3⟩
  · refine Or.inl ⟨by rw [a4.1]; omega, fun q hq => ?_⟩
    rcases key q hq with ⟨y, b1, b2, b3, b4⟩ | ⟨y, b1, b2, b3⟩
    · exact ⟨y, by rw [e q hq, b1]; rfl, b2, b3, b4⟩
    · exact absurd b2.1 (by rw [a4.1]; exact a2)
  · refine Or.inr ⟨a2.1, ⟨_, a2⟩, fun q hq => ?_⟩
    rcases key q hq with ⟨y, b1, b2, b3, b4⟩ | ⟨y, b1, b2, b3⟩
    · exact absurd a2.1 (by rw [b4.1]; exact b2)
    · exact ⟨y, b2, b3, by rw [e q hq, b1]; rfl⟩
theorem ln_at {B : Tp} {p : Nat} {q : PS} {w : Int} (h : tK B p = 1 ∧ tV B p = w) : ln B p q = if w = 123581014175598 then lnP B p q else if w = 461414299507 then lnK B p q else if w = 512970879609 then lnF B p (pWo q) (adW q) else if w = 444301539187 then lnF B p (pGr q) (adG q) else if w = 1700885349 then lnE B p q else if w = 1685217655 then lnD B p q else .inl (rfc B p, p) := by
  unfold ln
  rw [if_neg (fun z => z h.1), h.2]
theorem Mo_readLine_p : Mo_readLine_vc := by
  intro k σ hH hp0
  obtain ⟨rfl, h0, M, hq⟩ := hp0
  refine ⟨rfl, ?_⟩
  rintro r2 σ1 ⟨rfl, rfl⟩
  refine ⟨fun h => ⟨9, rfl, rfl, rfl, fun z => ite0 h ((iw_m M _).mpr z.1)⟩, fun h => ⟨fun h6 => ⟨9, rfl, rfl, rfl, fun z => by omega⟩, fun h6 => ?_⟩⟩
  have hw := (iw_m M _).mp (ite1 h)
  obtain ⟨q0, hq0⟩ := hq
  have e37 := hq0.2.1.1
  refine ⟨⟨rfl, h0, M, by have := hw.1; omega, by omega, q0, hq0⟩, fun σ3 g => ⟨3, rfl, to191 g.1 g.2 (fun q hq => ?_) ⟨q0, hq0⟩⟩⟩
  have := hq.2.1.1
  rw [ln_at hw, if_pos rfl, lnP_eq (by omega)]
theorem Mo_readLine_p26 : Mo_readLine_vc26 := by
  intro k σ0 hp0 n σ hH hI
  obtain ⟨rfl, h0, M, hq⟩ := hp0
  obtain ⟨rfl, rfl, c1⟩ := hI
  refine ⟨rfl, ?_⟩
  rintro r2 σ1 ⟨rfl, rfl⟩
  refine ⟨fun h => ⟨8, by decide, rfl, rfl, rfl, c1, fun z => ite0 h ((iw_m M _).mpr z.1)⟩, fun h => ⟨fun h6 => ⟨8, by decide, rfl, rfl, rfl, c1, fun z => by omega⟩, fun h6 => ?_⟩⟩
  have hw := (iw_m M _).mp (ite1 h)
  obtain ⟨q0, hq0⟩ := hq
  have e38 := hq0.2.1.2.2.1
  refine ⟨⟨rfl, h0, M, by have := hw.1; omega, q0, hq0, by omega⟩, fun σ3 g => ⟨3, by decide, rfl, to191 g.1 g.2 (fun q hq => ?_) ⟨q0, hq0⟩⟩⟩
  have := hq.2.1.2.2.1
  rw [ln_at hw, if_neg (by decide), if_pos rfl, lnK_eq (by omega)]
/-- a formula, as a part of a line -/
def lnF' (B : Tp) (p : Nat) (t : MS) (ad : Nat × List Int → PS) : Oc (PS × Nat) := if t.1 = 3 then .inl (rfc B t.2.1, t.2.1) else .inr (ad (t.2.2.2.2, t.2.2.2.1), t.2.1)
theorem lnF_eq2 {B : Tp} {p : Nat} {old : Fml} {ad : Nat × List Int → PS} (h : ¬ old.isSome = true) : lnF B p old ad = oB (lnF' B p (fmlR B (tN B p)) ad) (sgE B) := by
  unfold lnF lnF'
  rw [if_neg h]
  split
  · rfl
  · rfl
theorem form_LO {σ σ' : Hp} {a : Int} (ha : a = 0 ∨ a = 1) (g : Mo_formula_post 67 a σ σ') (M : MT σ (tpR σ) (plM σ)) : LFr σ σ' ∧ ∀ q, PM σ q → (if a = 0 then pWo q else pGr q) = none → LOm σ σ' (lnF' (tpR σ) (plM σ) (fmlR (tpR σ) (tN (tpR σ) (plM σ))) (if a = 0 then adW q else adG q)) := by
  obtain ⟨hC, hU⟩ := g
  refine ⟨hC.1.lf, fun q hq hnone => ?_⟩
  unfold LOm outM lnF'
  rcases hU with ⟨u1, u2⟩ | ⟨u1, u2, u3, u4, u5, u6⟩
  · obtain ⟨p', S', E', u', f1, f2⟩ := u2 _ _ M
    have e := fmlR_eq f2 (by show 2 ≤ 3; decide)
    rw [e, if_pos rfl]
    have := rfc_p (tpR σ) p'
    exact ⟨rfc_0 _ _, by show 0 ≤ rfc (tpR σ) p'; omega, f1⟩
  · obtain ⟨p', M', f2⟩ := u6 _ _ M
    have e := fmlR_eq f2 (by show 2 ≤ 2; decide)
    rw [e, if_neg (by show ¬ 2 = 3; decide)]
    refine ⟨⟨u1, u2, M'⟩, ?_⟩
    obtain ⟨k0, ⟨a1, a2, a3, a4⟩, ⟨b1, b2, b3, b4⟩, c1, c2, c3⟩ := hq
    obtain ⟨f1, f2, f3, f4⟩ := hC.1
    have ew := hC.w
    have em := u3.em
    have q67 : ∀ j, 37 ≤ j → σ' 67 j = σ 67 j := fun j hj => f2 j (by unfold fst; omega) (by omega)
    have qc : ∀ c, c = 69 ∨ (79 ≤ c ∧ c ≤ 84) → σ' c = σ c := fun c hc => f1 c (by simp; omega)
    have new : FRs σ' a.toNat (some (uM σ', EmM σ')) := by
      have el : (EmM σ').length = (σ' 72 (wM σ')).toNat := ems_len _ _ _ _
      refine ⟨hC.2.2, by rw [em.1, ew], u4, ?_, fun i hi => ?_, em.2⟩
      · show EmM σ' = ems (σ' 70) (σ' 71) (320 * a.toNat) (EmM σ').length
        rw [el, ← ew]
      · have hi' : i < (EmM σ').length := hi
        rw [← ew]
        exact u3.2.2.2.2.1 i (by omega)
    have old : ∀ v f, ¬ v = a.toNat → v ≤ 1 → FRs σ v f → FRs σ' v f := fun v f hv hv1 h => FRs_eq h (f4 v hv).2 (f4 v hv).1 (fun j j1 j2 => f3 j (by omega))
    have hA : PMa σ' q := ⟨by rw [q67 37 (by decide)]; exact a1, fun j hj => by rw [qc 69 (by omega), qc 80 (by omega), qc 81 (by omega), qc 82 (by omega), qc 83 (by omega), qc 84 (by omega)]; exact a2 j hj, by rw [q67 38 (by decide)]; exact a3, by rw [q67 41 (by decide)]; exact a4⟩
    have hB : PMb σ' q := ⟨by rw [q67 44 (by decide)]; exact b1, by rw [q67 39 (by decide)]; exact b2, by rw [q67 45 (by decide)]; exact b3, by rw [q67 40 (by decide)]; exact b4⟩
    rcases ha with rfl | rfl
    · rw [if_pos rfl] at hnone ⊢
      refine ⟨k0, hA, hB, new, old 1 _ (by decide) (by decide) c2, ?_⟩
      rw [u5, c3, hnone]
      show ((0 + uO (pGr q) : Nat) : Int) + (uM σ' : Int) = ((uM σ' + uO (pGr q) : Nat) : Int)
      omega
    · rw [if_neg (by decide)] at hnone ⊢
      refine ⟨k0, hA, hB, old 0 _ (by decide) (by decide) c1, new, ?_⟩
      rw [u5, c3, hnone]
      show ((uO (pWo q) + 0 : Nat) : Int) + (uM σ' : Int) = ((uO (pWo q) + uM σ' : Nat) : Int)
      omega
theorem FRs_n {σ : Hp} {w : Nat} {f : Fml} (h : FRs σ w f) : σ 78 w = 0 ↔ f = none := by
  cases f with
  | none => exact ⟨fun _ => rfl, fun _ => h⟩
  | some v => exact ⟨fun z => (by rw [h.1] at z; cases z), fun z => (by cases z)⟩
theorem FRs_u {σ : Hp} {w : Nat} {f : Fml} (h : FRs σ w f) : uO f ≤ 30 := by
  cases f with
  | none => exact Nat.zero_le _
  | some v => exact h.2.2.2.2.2
theorem Mo_readLine_p52 : Mo_readLine_vc52 := by
  intro k σ0 hp0 n σ hH hI
  obtain ⟨rfl, h0, M, hq⟩ := hp0
  obtain ⟨rfl, rfl, c1, c2⟩ := hI
  refine ⟨rfl, ?_⟩
  rintro r2 σ1 ⟨rfl, rfl⟩
  refine ⟨fun h => ⟨7, by decide, rfl, rfl, rfl, c1, c2, fun z => ite0 h ((iw_m M _).mpr z.1)⟩, fun h => ⟨⟨by decide, by decide⟩, fun h6 => ⟨7, by decide, rfl, rfl, rfl, c1, c2, fun z => h6 z.2⟩, fun h6 => ?_⟩⟩
  have hw := (iw_m M _).mp (ite1 h)
  have h78 : σ1 78 0 = 0 := Classical.not_not.mp h6
  obtain ⟨q0, hq0⟩ := hq
  have hn : ∀ q, PM σ1 q → pWo q = none := fun q hq => (FRs_n hq.2.2.2.1).mp h78
  have e22 := hq0.2.2.2.2.2
  have hu := FRs_u hq0.2.2.2.2.1
  rw [hn q0 hq0] at e22
  have e22' : σ1 67 22 = (uO (pGr q0) : Int) := by rw [e22]; show ((0 + uO (pGr q0) : Nat) : Int) = _; simp
  refine ⟨⟨rfl, Or.inl rfl, h0, by omega, ⟨_, _, M⟩, fun B p M' => ?_⟩, fun σ3 g => ?_⟩
  · have := (M'.wd _).mp (ite1 h); omega
  · obtain ⟨g1, g2⟩ := form_LO (Or.inl rfl) g M
    refine ⟨3, by decide, rfl, to191 g1 (fun q hq => g2 q hq (by rw [if_pos rfl]; exact hn q hq)) (fun q hq => ?_) ⟨q0, hq0⟩⟩
    rw [ln_at hw, if_neg (by decide), if_neg (by decide), if_pos rfl, lnF_eq2 (by rw [hn q hq]; decide), if_pos rfl]
theorem Mo_readLine_p79 : Mo_readLine_vc79 := by
  intro k σ0 hp0 n σ hH hI
  obtain ⟨rfl, h0, M, hq⟩ := hp0
  obtain ⟨rfl, rfl, c1, c2, c3⟩ := hI
  refine ⟨rfl, ?_⟩
  rintro r2 σ1 ⟨rfl, rfl⟩
  refine ⟨fun h => ⟨6, by decide, rfl, rfl, rfl, c1, c2, c3, fun z => ite0 h ((iw_m M _).mpr z.1)⟩, fun h => ⟨⟨by decide, by decide⟩, fun h6 => ⟨6, by decide, rfl, rfl, rfl, c1, c2, c3, fun z => h6 z.2⟩, fun h6 => ?_⟩⟩
  have hw := (iw_m M _).mp (ite1 h)
  have h78 : σ1 78 1 = 0 := Classical.not_not.mp h6
  obtain ⟨q0, hq0⟩ := hq
  have hn : ∀ q, PM σ1 q → pGr q = none := fun q hq => (FRs_n hq.2.2.2.2.1).mp h78
  have e22 := hq0.2.2.2.2.2
  have hu := FRs_u hq0.2.2.2.1
  rw [hn q0 hq0] at e22
  have e22' : σ1 67 22 = (uO (pWo q0) : Int) := by rw [e22]; show ((uO (pWo q0) + 0 : Nat) : Int) = _; simp
  refine ⟨⟨rfl, Or.inr rfl, h0, by omega, ⟨_, _, M⟩, fun B p M' => ?_⟩, fun σ3 g => ?_⟩
  · have := (M'.wd _).mp (ite1 h); omega
  · obtain ⟨g1, g2⟩ := form_LO (Or.inr rfl) g M
    refine ⟨3, by decide, rfl, to191 g1 (fun q hq => g2 q hq (by rw [if_neg (by decide)]; exact hn q hq)) (fun q hq => ?_) ⟨q0, hq0⟩⟩
    rw [ln_at hw, if_neg (by decide), if_neg (by decide), if_neg (by decide), if_pos rfl, lnF_eq2 (by rw [hn q hq]; decide), if_neg (by decide)]
