-- THE MODEL'S READER: a formula
def HFm (w : Nat) (σ σ' : Hp) : Prop := Fr [67, 70, 71, 72, 76, 78] σ σ' ∧ (∀ j, fst j → ¬ j = 20 → σ' 67 j = σ 67 j) ∧ (∀ j, (j < 320 * w ∨ 320 * w + 320 ≤ j) → σ' 70 j = σ 70 j ∧ σ' 71 j = σ 71 j) ∧ (∀ v, ¬ v = w → σ' 72 v = σ 72 v ∧ σ' 78 v = σ 78 v)
theorem HFm.gf {w : Nat} {σ σ1 σ2 : Hp} (h : HFm w σ σ1) (hw : wM σ1 = w) (g : GFm σ1 σ2) : HFm w σ σ2 := by
  obtain ⟨g1, g2, g3, g4⟩ := g
  rw [hw] at g3 g4
  have e78 : σ2 78 = σ1 78 := g1 78 (by decide)
  exact ⟨h.1.tr (g1.mono (by simp)), fun j hj h20 => (g2 j hj).trans (h.2.1 j hj h20), fun j hj => ⟨(g3 j hj).1.trans (h.2.2.1 j hj).1, (g3 j hj).2.trans (h.2.2.1 j hj).2⟩, fun v hv => ⟨(g4 v hv).trans (h.2.2.2 v hv).1, by rw [e78]; exact (h.2.2.2 v hv).2⟩⟩
def V1 (σ0 σ : Hp) (P : Tp → Nat → Prop) : Prop := σ 67 2 = 0 ∧ σ 67 3 = σ0 67 3 ∧ FI1 σ ∧ σ 67 22 - σ 67 24 = σ0 67 22 ∧ ∀ B p, MT σ0 B p → ∃ q, MT σ B q ∧ Rch B (0, tN B p, [], [], 0) (s1M σ q) ∧ P B q
def VF (σ0 σ : Hp) : Prop := 0 < σ 67 2 ∧ ∀ B p, MT σ0 B p → ∃ q S' E' u', Fs σ0 σ B (rfc B q) q ∧ Rch B (0, tN B p, [], [], 0) (3, q, S', E', u')
def CO (a : Int) (σ0 σ : Hp) : Prop := HFm a.toNat σ0 σ ∧ σ 67 20 = a ∧ σ 78 a.toNat = 1
theorem CO.w {a : Int} {σ0 σ : Hp} (h : CO a σ0 σ) : wM σ = a.toNat := by unfold wM; rw [h.2.1]
theorem CO.gf {a : Int} {σ0 σ σ' : Hp} (h : CO a σ0 σ) (g : GFm σ σ') : CO a σ0 σ' := ⟨h.1.gf h.w g, by rw [g.2.1 20 (by unfold fst; omega)]; exact h.2.1, by rw [g.1 78 (by decide)]; exact h.2.2⟩
def nCl (σ : Hp) (B : Tp) (q : Nat) : Prop := ¬ ((tK B q = 3 ∧ tV B q = 41) ∧ hbr (SkM σ) = true)
def nOp (σ : Hp) (B : Tp) (q : Nat) : Prop := ¬ (¬ opA B q = 0 ∧ ¬ (tg (opA B q) = 4 ∧ hrel (SkM σ) = true))
def Mo_formula_pre (k : Nat) (a : Int) (σ : Hp) : Prop := k = 67 ∧ (a = 0 ∨ a = 1) ∧ σ 67 2 = 0 ∧ (0 ≤ σ 67 22 ∧ σ 67 22 ≤ 30) ∧ (∃ B p, MT σ B p) ∧ ∀ B p, MT σ B p → ¬ tK B p = 4
def Mo_formula_post (_k : Nat) (a : Int) (σ σ' : Hp) : Prop := CO a σ σ' ∧ (VF σ σ' ∨ (σ' 67 2 = 0 ∧ σ' 67 3 = σ 67 3 ∧ FIa σ' ∧ (1 ≤ (EmM σ').length ∧ (EmM σ').length ≤ 270) ∧ σ' 67 22 = σ 67 22 + (uM σ' : Int) ∧ ∀ B p, MT σ B p → ∃ q, MT σ' B q ∧ Rch B (0, tN B p, [], [], 0) (2, q, SkM σ', EmM σ', uM σ')))
def Mo_formula_I50 (_k : Nat) (a : Int) (σ0 : Hp) (n : Nat) (v2 : Int) (σ : Hp) : Prop := CO a σ0 σ ∧ ((v2 = 0 ∧ n = ms σ 2) ∨ (v2 = 1 ∧ n = ms σ 4)) ∧ (V1 σ0 σ (fun B q => v2 = 0 → nCl σ B q ∧ nOp σ B q) ∨ VF σ0 σ)
def Mo_formula_I133 (_k : Nat) (a : Int) (σ0 : Hp) (n : Nat) (v2 v3 : Int) (σ : Hp) : Prop := CO a σ0 σ ∧ v2 = 1 ∧ n = ms σ 3 ∧ vop v3 ∧ ¬ v3 = 20 ∧ ¬ v3 = 21 ∧ V1 σ0 σ (fun B q => nCl σ B q ∧ opA B q = sop v3 ∧ ¬ (tg (opA B q) = 4 ∧ hrel (SkM σ) = true))
def Mo_formula_I177 (_k : Nat) (a : Int) (σ0 : Hp) (n : Nat) (_v2 : Int) (σ : Hp) : Prop := CO a σ0 σ ∧ n = ms σ 1 ∧ (V1 σ0 σ (fun B q => nCl σ B q ∧ nOp σ B q) ∨ VF σ0 σ)
def Mo_formula_bk : List (Nat × List Item) := [(0, [(.aload_n 0, 1, [], []), (.invokevirtual 227, 3, [0], []), (.aload_n 0, 1, [], []), (.iload_n 1, 1, [], []), (.putfield 248, 3, [9, 20, 0, 0, 0, 0], []), (.aload_n 0, 1, [], []), (.getfield 45, 3, [9, 19, 4, 11, 3, 2], []), (.aload_n 0, 1, [], []), (.getfield 248, 3, [9, 20, 0, 0, 0, 0], []), (.iconst 1, 1, [], []), (.bastore, 1, [], []), (.aload_n 0, 1, [], []), (.getfield 27, 3, [9, 13, 4, 5, 1, 2], []), (.aload_n 0, 1, [], []), (.getfield 248, 3, [9, 20, 0, 0, 0, 0], []), (.iconst 0, 1, [], []), (.iastore, 1, [], []), (.aload_n 0, 1, [], []), (.iconst 0, 1, [], []), (.putfield 251, 3, [9, 21, 0, 0, 0, 0], []), (.aload_n 0, 1, [], []), (.iconst 0, 1, [], []), (.putfield 261, 3, [9, 25, 0, 0, 0, 0], []), (.aload_n 0, 1, [], []), (.iconst 0, 1, [], []), (.putfield 267, 3, [9, 24, 0, 0, 0, 0], []), (.aload_n 0, 1, [], []), (.invokevirtual 285, 3, [1], []), (.iconst 1, 1, [], []), (.istore_n 2, 1, [], [])]),
  (50, [(.iload_n 2, 1, [], []), (.ifCond .eq 126, 3, [177], []), (.aload_n 0, 1, [], []), (.getfield 179, 3, [9, 2, 0, 0, 0, 0], []), (.ifCond .ne 119, 3, [177], []), (.aload_n 0, 1, [], []), (.invokevirtual 288, 3, [2], []), (.istore_n 3, 1, [], []), (.aload_n 0, 1, [], []), (.getfield 166, 3, [9, 6, 0, 0, 0, 0], []), (.bipush 41, 2, [], []), (.if_icmp .ne 42, 3, [114], []), (.aload_n 0, 1, [], []), (.invokevirtual 291, 3, [3], []), (.ifCond .eq 35, 3, [114], []), (.aload_n 0, 1, [], []), (.iconst 0, 1, [], []), (.invokevirtual 294, 3, [4], []), (.aload_n 0, 1, [], []), (.dup, 1, [], []), (.getfield 251, 3, [9, 21, 0, 0, 0, 0], []), (.iconst 1, 1, [], []), (.isub, 1, [], []), (.putfield 251, 3, [9, 21, 0, 0, 0, 0], []), (.aload_n 0, 1, [], []), (.dup, 1, [], []), (.getfield 261, 3, [9, 25, 0, 0, 0, 0], []), (.iconst 1, 1, [], []), (.isub, 1, [], []), (.putfield 261, 3, [9, 25, 0, 0, 0, 0], []), (.aload_n 0, 1, [], []), (.invokevirtual 227, 3, [0], []), (.goto 63, 3, [174], [])]),
  (114, [(.iload_n 3, 1, [], []), (.ifCond .eq 57, 3, [172], []), (.iload_n 3, 1, [], []), (.invokestatic 254, 3, [5], []), (.iconst 4, 1, [], []), (.if_icmp .ne 10, 3, [133], []), (.aload_n 0, 1, [], []), (.invokevirtual 297, 3, [6], []), (.ifCond .ne 42, 3, [172], [])]),
  (133, [(.aload_n 0, 1, [], []), (.iload_n 3, 1, [], []), (.invokestatic 254, 3, [5], []), (.invokevirtual 294, 3, [4], []), (.aload_n 0, 1, [], []), (.getfield 39, 3, [9, 17, 4, 9, 1, 160], []), (.aload_n 0, 1, [], []), (.getfield 251, 3, [9, 21, 0, 0, 0, 0], []), (.iload_n 3, 1, [], []), (.iastore, 1, [], []), (.aload_n 0, 1, [], []), (.dup, 1, [], []), (.getfield 251, 3, [9, 21, 0, 0, 0, 0], []), (.iconst 1, 1, [], []), (.iadd, 1, [], []), (.putfield 251, 3, [9, 21, 0, 0, 0, 0], []), (.aload_n 0, 1, [], []), (.invokevirtual 227, 3, [0], []), (.aload_n 0, 1, [], []), (.invokevirtual 285, 3, [1], []), (.goto 5, 3, [174], [])]),
  (172, [(.iconst 0, 1, [], []), (.istore_n 2, 1, [], [])]),
  (174, [(.goto (-124), 3, [50], [])]),
  (177, [(.aload_n 0, 1, [], []), (.getfield 179, 3, [9, 2, 0, 0, 0, 0], []), (.ifCond .ne 15, 3, [196], []), (.aload_n 0, 1, [], []), (.invokevirtual 291, 3, [3], []), (.ifCond .eq 8, 3, [196], []), (.aload_n 0, 1, [], []), (.iconst 2, 1, [], []), (.invokevirtual 224, 3, [7], [])]),
  (196, [(.aload_n 0, 1, [], []), (.getfield 179, 3, [9, 2, 0, 0, 0, 0], []), (.ifCond .ne 8, 3, [208], []), (.aload_n 0, 1, [], []), (.iconst 0, 1, [], []), (.invokevirtual 294, 3, [4], [])]),
  (208, [(.return_, 1, [], [])])]
def Mo_formula_cl : List (Instr × Nat) := [(.invokevirtual 227, 0), (.invokevirtual 285, 1), (.invokevirtual 288, 2), (.invokevirtual 291, 3), (.invokevirtual 294, 4), (.invokestatic 254, 5), (.invokevirtual 297, 6), (.invokevirtual 224, 7)]
set_option maxRecDepth 20000 in
theorem Mo_formula_ck : Mo_formula_bk.all (fun b => ax_chB 9 4 cX9_formula Mo_formula_cl b.1 b.2) = true := by decide +kernel
def Mo_formula_cs : Ct := (2, 10, 0, (0, 0), fun as σ => (match as with
    | [.inr (.inr (.inl (k, 0, 9))), .inl a1] => Mo_formula_pre k a1 σ
    | _ => False), fun as σ r σ' => (match as with
    | [.inr (.inr (.inl (k, 0, 9))), .inl a1] => Mo_formula_post k a1 σ σ'
    | _ => False))
theorem Mo_formula_w : ∀ w ∈ ([.instanceMethod yX9_formula, .selects yX9_formula.cls yX9_formula yX9_formula, .initialized yX9_formula.cls, .code yX9_formula cX9_formula 4 none] : List Cond), w ∈ ax_tb := ax_w4 (ax_m6 229 (by decide +kernel) rfl) (ax_m0 22 (by decide +kernel) rfl) (ax_m1 10 (by decide +kernel) rfl) (ax_m6 230 (by decide +kernel) rfl)
theorem Mo_formula_ds : yX9_formula.cls ≠ "java/lang/invoke/MethodHandle" ∧ yX9_formula.cls ≠ "java/lang/invoke/VarHandle" ∧ (parseMethodDescriptor yX9_formula.desc).map (fun d => d.parameters.length) = some 1 := by decide +kernel
def Mo_formula_vc : Prop := ∀ (k : Nat) (a1 : Int) (σ : Hp), ax_H σ → Mo_formula_pre k a1 σ →
  Mo_token_pre k σ ∧
  ∀ σ1 : Hp, Mo_token_post k σ σ1 →
  ∀ σ2 : Hp, σ2 = hp σ1 k 20 a1 →
  (0 ≤ σ2 k 20 ∧ σ2 k 20 < 2) ∧
  ((1 : Int) = 0 ∨ (1 : Int) = 1) ∧ ∀ σ3 : Hp, σ3 = hp σ2 (k + 11) (σ2 k 20).toNat 1 →
  (0 ≤ σ3 k 20 ∧ σ3 k 20 < 2) ∧
  ∀ σ4 : Hp, σ4 = hp σ3 (k + 5) (σ3 k 20).toNat 0 →
  ∀ σ5 : Hp, σ5 = hp σ4 k 21 0 →
  ∀ σ6 : Hp, σ6 = hp σ5 k 25 0 →
  ∀ σ7 : Hp, σ7 = hp σ6 k 24 0 →
  Mo_unit_pre k σ7 ∧
  ∀ σ8 : Hp, Mo_unit_post k σ7 σ8 →
  ∃ n' : Nat, k = k ∧ a1 = a1 ∧ Mo_formula_I50 k a1 σ n' 1 σ8
def Mo_formula_vc50 : Prop := ∀ (k : Nat) (a1 : Int) (σ0 : Hp), Mo_formula_pre k a1 σ0 → ∀ (n : Nat) (v2 : Int) (σ : Hp), ax_H σ → Mo_formula_I50 k a1 σ0 n v2 σ →
  (v2 = 0 →
    ∃ n' : Nat, n' < n ∧ k = k ∧ a1 = a1 ∧ Mo_formula_I177 k a1 σ0 n' v2 σ) ∧
  (¬ (v2 = 0) →
    (¬ σ k 2 = 0 →
      ∃ n' : Nat, n' < n ∧ k = k ∧ a1 = a1 ∧ Mo_formula_I177 k a1 σ0 n' v2 σ) ∧
    (¬ (¬ σ k 2 = 0) →
      Mo_sign_pre k σ ∧
      ∀ (r2 : Int) (σ1 : Hp), Mo_sign_post k σ r2 σ1 →
      (¬ σ1 k 6 = 41 →
        (r2 = 0 →
          ∃ n' : Nat, n' < n ∧ k = k ∧ a1 = a1 ∧ Mo_formula_I50 k a1 σ0 n' 0 σ1) ∧
        (¬ (r2 = 0) →
          Mo_tight_pre r2 σ1 ∧
          ∀ (r4 : Int) (σ3 : Hp), Mo_tight_post r2 σ1 r4 σ3 →
          (¬ r4 = 4 →
            ∃ n' : Nat, n' < n ∧ k = k ∧ a1 = a1 ∧ Mo_formula_I133 k a1 σ0 n' v2 r2 σ3) ∧
          (¬ (¬ r4 = 4) →
            Mo_hasRelation_pre k σ3 ∧
            ∀ (r6 : Int) (σ5 : Hp), Mo_hasRelation_post k σ3 r6 σ5 →
            (¬ r6 = 0 →
              ∃ n' : Nat, n' < n ∧ k = k ∧ a1 = a1 ∧ Mo_formula_I50 k a1 σ0 n' 0 σ5) ∧
            (¬ (¬ r6 = 0) →
              ∃ n' : Nat, n' < n ∧ k = k ∧ a1 = a1 ∧ Mo_formula_I133 k a1 σ0 n' v2 r2 σ5)))) ∧
      (¬ (¬ σ1 k 6 = 41) →
        Mo_hasBracket_pre k σ1 ∧
        ∀ (r8 : Int) (σ7 : Hp), Mo_hasBracket_post k σ1 r8 σ7 →
        (r8 = 0 →
          (r2 = 0 →
            ∃ n' : Nat, n' < n ∧ k = k ∧ a1 = a1 ∧ Mo_formula_I50 k a1 σ0 n' 0 σ7) ∧
          (¬ (r2 = 0) →
            Mo_tight_pre r2 σ7 ∧
            ∀ (r10 : Int) (σ9 : Hp), Mo_tight_post r2 σ7 r10 σ9 →
            (¬ r10 = 4 →
              ∃ n' : Nat, n' < n ∧ k = k ∧ a1 = a1 ∧ Mo_formula_I133 k a1 σ0 n' v2 r2 σ9) ∧
            (¬ (¬ r10 = 4) →
              Mo_hasRelation_pre k σ9 ∧
              ∀ (r12 : Int) (σ11 : Hp), Mo_hasRelation_post k σ9 r12 σ11 →
              (¬ r12 = 0 →
                ∃ n' : Nat, n' < n ∧ k = k ∧ a1 = a1 ∧ Mo_formula_I50 k a1 σ0 n' 0 σ11) ∧
              (¬ (¬ r12 = 0) →
                ∃ n' : Nat, n' < n ∧ k = k ∧ a1 = a1 ∧ Mo_formula_I133 k a1 σ0 n' v2 r2 σ11)))) ∧
        (¬ (r8 = 0) →
          Mo_close_pre k 0 σ7 ∧
          ∀ σ13 : Hp, Mo_close_post k 0 σ7 σ13 →
          ∀ σ14 : Hp, σ14 = hp σ13 k 21 (wr ((σ13 k 21) - 1)) →
          ∀ σ15 : Hp, σ15 = hp σ14 k 25 (wr ((σ14 k 25) - 1)) →
          Mo_token_pre k σ15 ∧
          ∀ σ16 : Hp, Mo_token_post k σ15 σ16 →
          ∃ n' : Nat, n' < n ∧ k = k ∧ a1 = a1 ∧ Mo_formula_I50 k a1 σ0 n' v2 σ16))))
def Mo_formula_vc133 : Prop := ∀ (k : Nat) (a1 : Int) (σ0 : Hp), Mo_formula_pre k a1 σ0 → ∀ (n : Nat) (v2 : Int) (v3 : Int) (σ : Hp), ax_H σ → Mo_formula_I133 k a1 σ0 n v2 v3 σ →
  Mo_tight_pre v3 σ ∧
  ∀ (r2 : Int) (σ1 : Hp), Mo_tight_post v3 σ r2 σ1 →
  Mo_close_pre k r2 σ1 ∧
  ∀ σ3 : Hp, Mo_close_post k r2 σ1 σ3 →
  (0 ≤ σ3 k 21 ∧ σ3 k 21 < 160) ∧
  ∀ σ4 : Hp, σ4 = hp σ3 (k + 9) (σ3 k 21).toNat v3 →
  ∀ σ5 : Hp, σ5 = hp σ4 k 21 (wr ((σ4 k 21) + 1)) →
  Mo_token_pre k σ5 ∧
  ∀ σ6 : Hp, Mo_token_post k σ5 σ6 →
  Mo_unit_pre k σ6 ∧
  ∀ σ7 : Hp, Mo_unit_post k σ6 σ7 →
  ∃ n' : Nat, n' < n ∧ k = k ∧ a1 = a1 ∧ Mo_formula_I50 k a1 σ0 n' v2 σ7
def Mo_formula_vc177 : Prop := ∀ (k : Nat) (a1 : Int) (σ0 : Hp), Mo_formula_pre k a1 σ0 → ∀ (n : Nat) (v2 : Int) (σ : Hp), ax_H σ → Mo_formula_I177 k a1 σ0 n v2 σ →
  (¬ σ k 2 = 0 →
    (¬ σ k 2 = 0 →
      Mo_formula_post k a1 σ0 σ) ∧
    (¬ (¬ σ k 2 = 0) →
      Mo_close_pre k 0 σ ∧
      ∀ σ1 : Hp, Mo_close_post k 0 σ σ1 →
      Mo_formula_post k a1 σ0 σ1)) ∧
  (¬ (¬ σ k 2 = 0) →
    Mo_hasBracket_pre k σ ∧
    ∀ (r3 : Int) (σ2 : Hp), Mo_hasBracket_post k σ r3 σ2 →
    (r3 = 0 →
      (¬ σ2 k 2 = 0 →
        Mo_formula_post k a1 σ0 σ2) ∧
      (¬ (¬ σ2 k 2 = 0) →
        Mo_close_pre k 0 σ2 ∧
        ∀ σ4 : Hp, Mo_close_post k 0 σ2 σ4 →
        Mo_formula_post k a1 σ0 σ4)) ∧
    (¬ (r3 = 0) →
      Mo_wrong_pre k 2 σ2 ∧
      ∀ σ5 : Hp, Mo_wrong_post k 2 σ2 σ5 →
      (¬ σ5 k 2 = 0 →
        Mo_formula_post k a1 σ0 σ5) ∧
      (¬ (¬ σ5 k 2 = 0) →
        Mo_close_pre k 0 σ5 ∧
        ∀ σ6 : Hp, Mo_close_post k 0 σ5 σ6 →
        Mo_formula_post k a1 σ0 σ6)))
theorem V1.mp {σ0 σ : Hp} {P Q : Tp → Nat → Prop} (h : V1 σ0 σ P) (g : ∀ B q, MT σ B q → P B q → Q B q) : V1 σ0 σ Q := by
  obtain ⟨h1, h2, h3, h4, h5⟩ := h
  refine ⟨h1, h2, h3, h4, fun B p M => ?_⟩
  obtain ⟨q, q2, q3, q4⟩ := h5 B p M
  exact ⟨q, q2, q3, g B q q2 q4⟩
theorem opA_k {B : Tp} {q : Nat} (h : ¬ opA B q = 0) : ¬ tK B q = 0 ∧ ¬ tK B q = 4 := by
  refine ⟨fun z => h ?_, fun z => h ?_⟩
  · unfold opA; rw [z]; rfl
  · unfold opA; rw [z]; rfl
theorem Mo_formula_p : Mo_formula_vc := by
  intro k a σ hH hp0
  obtain ⟨rfl, ha, h0, h22, ⟨B0, p0, M0⟩, h4⟩ := hp0
  refine ⟨(M0.tok (h4 _ _ M0)).1, fun σ1 g1 => ?_⟩
  have T0 := ((M0.tok (h4 _ _ M0)).2 σ1 g1).1
  intro σ2 hs2
  have b20 : σ2 67 20 = a := by rw [hs2, hp_r1]
  rw [b20]
  refine ⟨⟨by omega, by omega⟩, Or.inr rfl, ?_⟩
  intro σ3 hs3
  have c20 : σ3 67 20 = a := by rw [hs3, hp_ne (by decide)]; exact b20
  rw [c20]
  refine ⟨⟨by omega, by omega⟩, ?_⟩
  intro σ4 hs4 σ5 hs5 σ6 hs6 σ7 hs7
  have e7 : σ7 = hp (hp (hp (hp (hp (hp σ1 67 20 a) 78 a.toNat 1) 72 a.toNat 0) 67 21 0) 67 25 0) 67 24 0 := by rw [hs7, hs6, hs5, hs4, hs3, hs2]
  have q67 : ∀ j, ¬ j = 20 → ¬ j = 21 → ¬ j = 24 → ¬ j = 25 → σ7 67 j = σ1 67 j := fun j a1 a2 a3 a4 => by rw [e7, hp_r2 (fun z => a3 z.2), hp_r2 (fun z => a4 z.2), hp_r2 (fun z => a2 z.2), hp_ne (by decide), hp_ne (by decide), hp_r2 (fun z => a1 z.2)]
  have d20 : σ7 67 20 = a := by rw [e7, hp_r2 (by decide), hp_r2 (by decide), hp_r2 (by decide), hp_ne (by decide), hp_ne (by decide), hp_r1]
  have d21 : σ7 67 21 = 0 := by rw [e7, hp_r2 (by decide), hp_r2 (by decide), hp_r1]
  have d24 : σ7 67 24 = 0 := by rw [e7, hp_r1]
  have d25 : σ7 67 25 = 0 := by rw [e7, hp_r2 (by decide), hp_r1]
  have d72 : ∀ v, σ7 72 v = if v = a.toNat then 0 else σ1 72 v := fun v => by
    rw [e7, hp_ne (by decide), hp_ne (by decide), hp_ne (by decide)]
    by_cases z : v = a.toNat
    · rw [if_pos z, z, hp_r1]
    · rw [if_neg z, hp_r2 (fun y => z y.2), hp_ne (by decide), hp_ne (by decide)]
  have d78 : ∀ v, σ7 78 v = if v = a.toNat then 1 else σ1 78 v := fun v => by
    rw [e7, hp_ne (by decide), hp_ne (by decide), hp_ne (by decide), hp_ne (by decide)]
    by_cases z : v = a.toNat
    · rw [if_pos z, z, hp_r1]
    · rw [if_neg z, hp_r2 (fun y => z y.2), hp_ne (by decide)]
  have qc : ∀ c, ¬ c = 67 → ¬ c = 72 → ¬ c = 78 → σ7 c = σ1 c := fun c a1 a2 a3 => by rw [e7, hp_ne a1, hp_ne a1, hp_ne a1, hp_ne a2, hp_ne a3, hp_ne a1]
  have tc : ∀ c, ¬ c = 67 → σ1 c = σ c := fun c hc => T0.1 c (by simp; exact hc)
  have tj : ∀ j, fst j → σ1 67 j = σ 67 j := fun j hj => T0.2 j hj.2.2.1 hj.2.2.2.1 hj.2.2.2.2.1 hj.2.2.2.2.2.1 hj.2.2.2.2.2.2.1
  have ew : wM σ7 = a.toNat := by unfold wM; rw [d20]
  have eS : SkM σ7 = [] := by unfold SkM; rw [d21]; rfl
  have e720 : σ7 72 (wM σ7) = 0 := by rw [ew, d72, if_pos rfl]
  have eE : EmM σ7 = [] := by unfold EmM; rw [e720]; rfl
  have eu : uM σ7 = 0 := by unfold uM; rw [d24]; rfl
  have t22 : σ1 67 22 = σ 67 22 := T0.2 22 (by decide) (by decide) (by decide) (by decide) (by decide)
  have F0 : FI0 σ7 := by
    refine ⟨⟨by rw [d20]; exact ha, by rw [d21]; omega, fun i hi => by rw [d21] at hi; omega, by rw [e720]; decide, fun i hi => by rw [e720] at hi; omega, by rw [d24]; omega, by rw [d24, q67 22 (by decide) (by decide) (by decide) (by decide), t22]; omega⟩, ?_, by rw [eS]; trivial, by rw [eS, eE, eu]; decide, by rw [eS]; decide⟩
    unfold DPm; rw [d25, eS]; rfl
  have M7 : ∀ B p, MT σ B p → MT σ7 B (tN B p) := fun B p M => (((M.tok (h4 _ _ M)).2 σ1 g1).2).keep (fun j j1 j2 => q67 j (by omega) (by omega) (by omega) (by omega)) (qc 68 (by decide) (by decide) (by decide))
  have C7 : CO a σ σ7 := by
    refine ⟨⟨fun c hc => ?_, fun j hj h20 => ?_, fun j hj => ⟨by rw [qc 70 (by decide) (by decide) (by decide), tc 70 (by decide)], by rw [qc 71 (by decide) (by decide) (by decide), tc 71 (by decide)]⟩, fun v hv => ⟨by rw [d72, if_neg hv, tc 72 (by decide)], by rw [d78, if_neg hv, tc 78 (by decide)]⟩⟩, d20, by rw [d78, if_pos rfl]⟩
    · rw [qc c (fun z => hc (by simp [z])) (fun z => hc (by simp [z])) (fun z => hc (by simp [z]))]
      exact tc c (fun z => hc (by simp [z]))
    · rw [q67 j h20 hj.2.2.2.2.2.2.2.1 hj.2.2.2.2.2.2.2.2.2.1 hj.2.2.2.2.2.2.2.2.2.2]; exact tj j hj
  have f2 : σ7 67 2 = 0 := by rw [q67 2 (by decide) (by decide) (by decide) (by decide), T0.2 2 (by decide) (by decide) (by decide) (by decide) (by decide)]; exact h0
  refine ⟨⟨rfl, f2, ⟨B0, _, M7 B0 p0 M0⟩, F0⟩, fun σ8 g8 => ⟨_, rfl, rfl, C7.gf g8.1, Or.inr ⟨rfl, rfl⟩, ?_⟩⟩
  rcases g8.2 with ⟨u1, u2, u3, u4, u5⟩ | ⟨u1, u2⟩
  · refine Or.inl ⟨u1, ?_, u3, ?_, fun B p M => ?_⟩
    · rw [u2, q67 3 (by decide) (by decide) (by decide) (by decide)]; exact T0.2 3 (by decide) (by decide) (by decide) (by decide) (by decide)
    · rw [u4, d24, q67 22 (by decide) (by decide) (by decide) (by decide), t22]; omega
    · obtain ⟨q, -, q2, q3⟩ := u5 B _ (M7 B p M)
      refine ⟨q, q2, ?_, fun z => absurd z (by decide)⟩
      have e : s0M σ7 (tN B p) = (0, tN B p, [], [], 0) := by rw [s0M, eS, eE, eu]
      rw [e] at q3
      exact q3
  · refine Or.inr ⟨u1, fun B p M => ?_⟩
    obtain ⟨q, S', E', u', q2, q3⟩ := u2 B _ (M7 B p M)
    have e : s0M σ7 (tN B p) = (0, tN B p, [], [], 0) := by rw [s0M, eS, eE, eu]
    rw [e] at q3
    exact ⟨q, S', E', u', q2, q3⟩
theorem V1.cl {σ0 σ : Hp} {P : Tp → Nat → Prop} (h : V1 σ0 σ P) : (EmM σ).length + nb (SkM σ) ≤ 270 := by
  have h1 := h.2.2.1.2.2.2.1
  have h2 := h.2.2.1.1.em.2
  omega
theorem Mo_formula_p50 : Mo_formula_vc50 := by
  intro k a σ0 hp0 n v2 σ hH hI
  obtain ⟨rfl, ha, h0, h22, hw, h4⟩ := hp0
  obtain ⟨hC, hn, hU⟩ := hI
  refine ⟨fun h => ?_, fun h => ?_⟩
  · refine ⟨ms σ 1, by have : n = ms σ 2 := by omega
                       rw [this]; exact ms_lt (by decide), rfl, rfl, hC, rfl, ?_⟩
    rcases hU with z | z
    · exact Or.inl (z.mp (fun B q _ y => y h))
    · exact Or.inr z
  · have hn' : n = ms σ 4 ∧ v2 = 1 := by omega
    obtain ⟨rfl, rfl⟩ := hn'
    refine ⟨fun h2 => ⟨ms σ 1, ms_lt (by decide), rfl, rfl, hC, rfl, ?_⟩, fun h2 => ⟨rfl, ?_⟩⟩
    · rcases hU with z | z
      · exact absurd z.1 h2
      · exact Or.inr z
    · have h2' := Classical.not_not.mp h2
      have hU : V1 σ0 σ (fun B q => True) := by
        rcases hU with z | z
        · exact z.mp (fun _ _ _ _ => trivial)
        · have := z.1; omega
      have hFI := hU.2.2.1
      rintro r2 σ1 ⟨rfl, rfl⟩
      -- behind the closing bracket
      have go : (∀ B q, MT σ1 B q → nCl σ1 B q) → ∀ σ3 : Hp, σ3 = σ1 → (sgV (σ3 67 6) (σ3 67 9) = 0 → ∃ n' : Nat, n' < ms σ3 4 ∧ (67 : Nat) = 67 ∧ a = a ∧ Mo_formula_I50 67 a σ0 n' 0 σ3) ∧ (¬ (sgV (σ3 67 6) (σ3 67 9) = 0) → Mo_tight_pre (sgV (σ3 67 6) (σ3 67 9)) σ3 ∧ ∀ (r4 : Int) (σ4 : Hp), Mo_tight_post (sgV (σ3 67 6) (σ3 67 9)) σ3 r4 σ4 → (¬ r4 = 4 → ∃ n' : Nat, n' < ms σ3 4 ∧ (67 : Nat) = 67 ∧ a = a ∧ Mo_formula_I133 67 a σ0 n' 1 (sgV (σ3 67 6) (σ3 67 9)) σ4) ∧ (¬ (¬ r4 = 4) → Mo_hasRelation_pre 67 σ4 ∧ ∀ (r6 : Int) (σ5 : Hp), Mo_hasRelation_post 67 σ4 r6 σ5 → (¬ r6 = 0 → ∃ n' : Nat, n' < ms σ3 4 ∧ (67 : Nat) = 67 ∧ a = a ∧ Mo_formula_I50 67 a σ0 n' 0 σ5) ∧ (¬ (¬ r6 = 0) → ∃ n' : Nat, n' < ms σ3 4 ∧ (67 : Nat) = 67 ∧ a = a ∧ Mo_formula_I133 67 a σ0 n' 1 (sgV (σ3 67 6) (σ3 67 9)) σ5))) := by
        rintro hcl σ3 rfl
        refine ⟨fun h5 => ⟨ms σ3 2, ms_lt (by decide), rfl, rfl, hC, Or.inl ⟨rfl, rfl⟩, Or.inl (hU.mp (fun B q M _ _ => ⟨hcl B q M, fun z => z.1 ?_⟩))⟩, fun h5 => ⟨trivial, ?_⟩⟩
        · rcases M.sign with y | y
          · exact y.2
          · exact absurd h5 y.2.2.2.1
        · obtain ⟨B0, p0, M0⟩ := hw
          obtain ⟨q0, N0, -, -⟩ := hU.2.2.2.2 B0 p0 M0
          have sg : ∀ B q, MT σ3 B q → vop (sgV (σ3 67 6) (σ3 67 9)) ∧ ¬ sgV (σ3 67 6) (σ3 67 9) = 20 ∧ ¬ sgV (σ3 67 6) (σ3 67 9) = 21 ∧ sop (sgV (σ3 67 6) (σ3 67 9)) = opA B q := fun B q M => by
            rcases M.sign with y | y
            · exact absurd y.1 h5
            · exact ⟨y.1, y.2.1, y.2.2.1, y.2.2.2.2⟩
          have s0 := sg B0 q0 N0
          have htg := (vop_all s0.1).2.2.1 s0.2.1
          rintro r4 σ4 ⟨rfl, rfl⟩
          refine ⟨fun h6 => ⟨ms σ4 3, ms_lt (by decide), rfl, rfl, hC, rfl, rfl, s0.1, s0.2.1, s0.2.2.1, hU.mp (fun B q M _ => ⟨hcl B q M, (sg B q M).2.2.2.symm, fun z => h6 ?_⟩)⟩, fun h6 => ⟨⟨rfl, hFI.1⟩, ?_⟩⟩
          · rw [htg, (sg B q M).2.2.2, z.1]; rfl
          · rintro r6 σ5 ⟨rfl, rfl⟩
            refine ⟨fun h7 => ⟨ms σ5 2, ms_lt (by decide), rfl, rfl, hC, Or.inl ⟨rfl, rfl⟩, Or.inl (hU.mp (fun B q M _ _ => ⟨hcl B q M, fun z => z.2 ⟨?_, ite1 h7⟩⟩))⟩, fun h7 => ⟨ms σ5 3, ms_lt (by decide), rfl, rfl, hC, rfl, rfl, s0.1, s0.2.1, s0.2.2.1, hU.mp (fun B q M _ => ⟨hcl B q M, (sg B q M).2.2.2.symm, fun z => ite0' h7 z.2⟩)⟩⟩
            have h6' := Classical.not_not.mp h6
            rw [htg, (sg B q M).2.2.2] at h6'
            omega
      refine ⟨fun h3 => go (fun B q M z => h3 ((M.sg (by decide)).mpr z.1)) σ1 rfl, fun h3 => ⟨⟨rfl, hFI.1⟩, ?_⟩⟩
      have hcb : ∀ B q, MT σ1 B q → tK B q = 3 ∧ tV B q = 41 := fun B q M => (M.sg (by decide)).mp (Classical.not_not.mp h3)
      rintro r8 σ7 ⟨rfl, rfl⟩
      refine ⟨fun h8 => go (fun B q M z => ite0 h8 z.2) σ7 rfl, fun h8 => ⟨⟨rfl, by decide, hFI.1, hFI.2.1, by have := hU.cl; omega⟩, ?_⟩⟩
      have hb := ite1 h8
      rintro σ13 ⟨d1, d2, d3, d4, d5, d6⟩
      obtain ⟨S', hS'⟩ := cls_br (SkM σ7) (EmM σ7) hb
      have e1 : SkM σ13 = 1 :: S' := by rw [← hS']; exact congrArg Prod.fst d4
      have e2 : EmM σ13 = (cls 0 (SkM σ7) (EmM σ7)).2 := congrArg Prod.snd d4
      obtain ⟨n1, n2, n3⟩ := cls_nb 0 (SkM σ7) (EmM σ7)
      have gs := cls_GS 0 (SkM σ7) (EmM σ7) hFI.2.2.1
      rw [hS'] at n1 n3 gs
      have hlen : (SkM σ13).length = (σ13 67 21).toNat := stk_len _ _
      rw [e1] at hlen
      have h21 := d2.2.1
      obtain ⟨m, hm⟩ : ∃ m : Nat, σ13 67 21 = ((m + 1 : Nat) : Int) := ⟨(σ13 67 21).toNat - 1, by simp at hlen; omega⟩
      have e1' := sk_cons hm
      rw [e1] at e1'
      injection e1' with e1a e1b
      have d25 : σ13 67 25 = (dpt (SkM σ13) : Int) := d3
      rw [e1] at d25
      have d25' : σ13 67 25 = (dpt S' : Int) + 1 := by rw [d25]; show ((dpt S' + 1 : Nat) : Int) = _; simp
      have hdl := dpt_len S'
      simp at hlen
      intro σ14 hs14 σ15 hs15
      have c25 : σ14 67 25 = σ13 67 25 := by rw [hs14, hp_r2 (by decide)]
      rw [hm, wr_id (by omega) (by omega)] at hs14
      rw [c25, d25', wr_id (by omega) (by omega)] at hs15
      have e15 : σ15 = hp (hp σ13 67 21 (m : Int)) 67 25 (dpt S' : Int) := by rw [hs15, hs14, show ((m + 1 : Nat) : Int) - 1 = (m : Int) by omega, show (dpt S' : Int) + 1 - 1 = (dpt S' : Int) by omega]
      have q67 : ∀ j, ¬ j = 21 → ¬ j = 25 → σ15 67 j = σ13 67 j := fun j j1 j2 => by rw [e15, hp_r2 (fun z => j2 z.2), hp_r2 (fun z => j1 z.2)]
      have qc : ∀ c, ¬ c = 67 → σ15 c = σ13 c := fun c hc => by rw [e15, hp_ne hc, hp_ne hc]
      have f21 : σ15 67 21 = (m : Int) := by rw [e15, hp_r2 (by decide), hp_r1]
      have f25 : σ15 67 25 = (dpt S' : Int) := by rw [e15, hp_r1]
      have ew : wM σ15 = wM σ13 := by unfold wM; rw [q67 20 (by decide) (by decide)]
      have eS : SkM σ15 = S' := by unfold SkM; rw [f21, Int.toNat_natCast, qc 76 (by decide)]; exact e1b.symm
      have eE : EmM σ15 = EmM σ13 := by unfold EmM; rw [ew, qc 70 (by decide), qc 71 (by decide), qc 72 (by decide)]
      obtain ⟨b1, b2, b3, b4, b5, b6, b7⟩ := d2
      have F15 : FIa σ15 := ⟨by rw [q67 20 (by decide) (by decide)]; exact b1, by rw [f21]; omega, by rw [f21, qc 76 (by decide)]; intro i hi; exact b3 i (by omega), by rw [ew, qc 72 (by decide)]; exact b4, by rw [ew, qc 70 (by decide), qc 71 (by decide), qc 72 (by decide)]; exact b5, by rw [q67 24 (by decide) (by decide)]; exact b6, by rw [q67 22 (by decide) (by decide), q67 24 (by decide) (by decide)]; exact b7⟩
      have G15 : GFm σ13 σ15 := GFm.of67 (fun x hx => qc x (fun z => hx (by simp [z]))) (fun j hj => q67 j hj.2.2.2.2.2.2.2.1 hj.2.2.2.2.2.2.2.2.2.2)
      have j9 : ∀ j, j ≤ 9 → σ15 67 j = σ7 67 j := fun j hj => by rw [q67 j (by omega) (by omega)]; exact d5 j (by omega) (by omega)
      have M15 : ∀ B q, MT σ7 B q → MT σ15 B q := fun B q M => M.keep (fun j _ j2 => j9 j j2) (by rw [qc 68 (by decide)]; exact d6)
      have k4 : ∀ B q, MT σ7 B q → ¬ tK B q = 4 := fun B q M => by have := (hcb B q M).1; omega
      obtain ⟨B0, p0, M0⟩ := hw
      obtain ⟨q0, N0, -, -⟩ := hU.2.2.2.2 B0 p0 M0
      refine ⟨((M15 _ _ N0).tok (k4 _ _ N0)).1, fun σ16 g16 => ?_⟩
      have T0 := ((M15 _ _ N0).tok (k4 _ _ N0)).2 σ16 g16
      have fe := T0.1.rq.fe
      have K := fe.keep
      have z2 : σ16 67 2 = 0 := by rw [T0.1.2 2 (by decide) (by decide) (by decide) (by decide) (by decide), j9 2 (by decide)]; exact h2'
      have u24 : σ15 67 24 = σ7 67 24 := by rw [q67 24 (by decide) (by decide)]; exact d5 24 (by decide) (by decide)
      have u22 : σ15 67 22 = σ7 67 22 := by rw [q67 22 (by decide) (by decide)]; exact d5 22 (by decide) (by decide)
      have eu : uM σ16 = uM σ7 := by show (σ16 67 24).toNat = _; rw [fe.2.2.2.2.2.2.2.1, u24]
      have nbS : nb (1 :: S') = nb S' := rfl
      have hdS : dpt (1 :: S') = dpt S' + 1 := rfl
      rw [nbS] at n1
      rw [hdS] at n3
      have hd7 := hFI.2.2.2.2.2
      have h9 := hFI.2.2.2.1
      have h1 := hFI.2.2.2.2.1
      refine ⟨ms σ16 4, ?_, rfl, rfl, ((hC.gf d1).gf G15).gf T0.1.rq.gf, Or.inr ⟨rfl, rfl⟩, Or.inl ⟨z2, ?_, ⟨K.2.2.1 F15, K.2.2.2 ?_, ?_, ?_, ?_, ?_⟩, ?_, fun B p M => ?_⟩⟩
      · have hb0 := N0.b
        have hup := tS_up hb0.1 hb0.2 (by have := (hcb B0 q0 N0).1; omega)
        have a7 : σ7 67 7 = (tS B0 q0 : Int) := N0.2.1
        have b7' : σ16 67 7 = (tS B0 (tN B0 q0) : Int) := T0.2.2.1
        unfold ms
        rw [a7, b7', z2, h2', if_pos rfl, if_pos rfl, Int.toNat_natCast, Int.toNat_natCast]
        omega
      · rw [T0.1.2 3 (by decide) (by decide) (by decide) (by decide) (by decide), j9 3 (by decide)]; exact hU.2.1
      · unfold DPm; rw [f25, eS]
      · rw [K.1, eS]; exact gs.1
      · rw [K.1, K.2.1, eS, eE, e2, eu]; omega
      · rw [K.2.1, eE, e2]; omega
      · rw [K.1, eS]; omega
      · rw [fe.2.2.2.2.2.2.1, fe.2.2.2.2.2.2.2.1, u22, u24]; exact hU.2.2.2.1
      · obtain ⟨q, q2, q3, -⟩ := hU.2.2.2.2 B p M
        refine ⟨tN B q, (((M15 _ _ q2).tok (k4 _ _ q2)).2 σ16 g16).2, ?_, fun z => absurd z (by decide)⟩
        have st : stM B (s1M σ7 q) = (1, tN B q, SkM σ16, EmM σ16, uM σ16) := by
          rw [stM1, if_pos ⟨hcb B q q2, hb⟩, hS', K.1, K.2.1, eS, eE, e2, eu]; rfl
        exact q3.on st
theorem Mo_formula_p133 : Mo_formula_vc133 := by
  intro k a σ0 hp0 n v2 v3 σ hH hI
  obtain ⟨rfl, ha, h0, h22, hw, h4⟩ := hp0
  obtain ⟨hC, rfl, rfl, hv, n20, n21, hU⟩ := hI
  have hFI := hU.2.2.1
  have h2' := hU.1
  have VA := vop_all hv
  have htg := VA.2.2.1 n20
  have hs := VA.2.2.2 n20 n21
  have hR := tg_R (sop v3)
  refine ⟨trivial, ?_⟩
  rintro r2 σ1 ⟨rfl, rfl⟩
  rw [htg]
  refine ⟨⟨rfl, by omega, hFI.1, hFI.2.1, by have := hU.cl; omega⟩, ?_⟩
  rintro σ3 ⟨d1, d2, d3, d4, d5, d6⟩
  rw [Int.toNat_natCast] at d4
  have e1 : SkM σ3 = (cls (tg (sop v3)) (SkM σ1) (EmM σ1)).1 := congrArg Prod.fst d4
  have e2 : EmM σ3 = (cls (tg (sop v3)) (SkM σ1) (EmM σ1)).2 := congrArg Prod.snd d4
  obtain ⟨n1, n2, n3⟩ := cls_nb (tg (sop v3)) (SkM σ1) (EmM σ1)
  have gs := cls_GS (tg (sop v3)) (SkM σ1) (EmM σ1) hFI.2.2.1
  have ct := cls_tt hR.1 (SkM σ1) (EmM σ1)
  rw [← e1, ← e2] at n1
  rw [← e2] at n2
  rw [← e1] at n3 gs ct
  have hd7 := hFI.2.2.2.2.2
  have hlen := d2.len gs (by omega)
  have h21 := d2.2.1
  refine ⟨⟨by omega, by omega⟩, ?_⟩
  intro σ4 hs4 σ5 hs5
  have a67 : σ4 67 = σ3 67 := by rw [hs4, hp_ne (by decide)]
  rw [a67, wr1 (by omega) (by omega)] at hs5
  have e5 : σ5 = hp (hp σ3 76 (σ3 67 21).toNat v3) 67 21 (σ3 67 21 + 1) := by rw [hs5, hs4]
  have q67 : ∀ j, ¬ j = 21 → σ5 67 j = σ3 67 j := fun j j1 => by rw [e5, hp_r2 (fun z => j1 z.2), hp_ne (by decide)]
  have qc : ∀ c, ¬ c = 67 → ¬ c = 76 → σ5 c = σ3 c := fun c hc hc2 => by rw [e5, hp_ne hc, hp_ne hc2]
  have c76 : ∀ j, σ5 76 j = if j = (σ3 67 21).toNat then v3 else σ3 76 j := fun j => by
    rw [e5, hp_ne (by decide)]
    by_cases z : j = (σ3 67 21).toNat
    · rw [if_pos z, z, hp_r1]
    · rw [if_neg z, hp_r2 (fun y => z y.2)]
  obtain ⟨F5, S5, E5⟩ := push_FI d2 (by omega) hv c76 (by rw [e5, hp_r1]) (q67 20 (by decide)) (q67 22 (by decide)) (q67 24 (by decide)) (qc 70 (by decide) (by decide)) (qc 71 (by decide) (by decide)) (qc 72 (by decide) (by decide))
  have dS5 : dpt (SkM σ5) = dpt (SkM σ3) := by rw [S5]; show dpt (SkM σ3) + (if sop v3 = 1 ∨ sop v3 = -6 then 1 else 0) = _; rw [if_neg (by omega)]; rfl
  have D5 : DPm σ5 := by unfold DPm; rw [q67 25 (by decide), dS5]; exact d3
  have G5 : GFm σ3 σ5 := ⟨fun x hx => qc x (fun z => hx (by simp [z])) (fun z => hx (by simp [z])), fun j hj => q67 j hj.2.2.2.2.2.2.2.1, fun j _ => ⟨by rw [qc 70 (by decide) (by decide)], by rw [qc 71 (by decide) (by decide)]⟩, fun v _ => by rw [qc 72 (by decide) (by decide)]⟩
  have j9 : ∀ j, j ≤ 9 → σ5 67 j = σ1 67 j := fun j hj => by rw [q67 j (by omega)]; exact d5 j (by omega) (by omega)
  have M5 : ∀ B q, MT σ1 B q → MT σ5 B q := fun B q M => M.keep (fun j _ j2 => j9 j j2) (by rw [qc 68 (by decide) (by decide)]; exact d6)
  have k4 : ∀ B q, opA B q = sop v3 → ¬ tK B q = 0 ∧ ¬ tK B q = 4 := fun B q z => opA_k (by omega)
  obtain ⟨B0, p0, M0⟩ := hw
  obtain ⟨q0, N0, -, -, w0, -⟩ := hU.2.2.2.2 B0 p0 M0
  refine ⟨((M5 _ _ N0).tok (k4 _ _ w0).2).1, fun σ6 g6 => ?_⟩
  have T0 := ((M5 _ _ N0).tok (k4 _ _ w0).2).2 σ6 g6
  have fe := T0.1.rq.fe
  have K := fe.keep
  have u24 : σ5 67 24 = σ1 67 24 := by rw [q67 24 (by decide)]; exact d5 24 (by decide) (by decide)
  have u22 : σ5 67 22 = σ1 67 22 := by rw [q67 22 (by decide)]; exact d5 22 (by decide) (by decide)
  have eu : uM σ6 = uM σ1 := by show (σ6 67 24).toNat = _; rw [fe.2.2.2.2.2.2.2.1, u24]
  have h9 := hFI.2.2.2.1
  have z2 : σ6 67 2 = 0 := by rw [T0.1.2 2 (by decide) (by decide) (by decide) (by decide) (by decide), j9 2 (by decide)]; exact h2'
  have z3 : σ6 67 3 = σ0 67 3 := by rw [T0.1.2 3 (by decide) (by decide) (by decide) (by decide) (by decide), j9 3 (by decide)]; exact hU.2.1
  have zb : σ6 67 22 - σ6 67 24 = σ0 67 22 := by rw [fe.2.2.2.2.2.2.1, fe.2.2.2.2.2.2.2.1, u22, u24]; exact hU.2.2.2.1
  have F6 : FI0 σ6 := by
    refine ⟨K.2.2.1 F5, K.2.2.2 D5, ?_, ?_, ?_⟩
    · rw [K.1, S5]; exact ⟨gs, Or.inr (Or.inr ct)⟩
    · rw [K.1, K.2.1, E5, eu, dS5, S5]
      show (EmM σ3).length + (nb (SkM σ3) + (if sop v3 = 1 then 0 else 1)) ≤ _
      rw [if_neg (by omega)]
      omega
    · rw [K.1, dS5]; omega
  have road : ∀ B p, MT σ0 B p → ∃ q, MT σ1 B q ∧ opA B q = sop v3 ∧ MT σ6 B (tN B q) ∧ Rch B (0, tN B p, [], [], 0) (s0M σ6 (tN B q)) := by
    intro B p M
    obtain ⟨q, q2, q3, y1, y2, y3⟩ := hU.2.2.2.2 B p M
    refine ⟨q, q2, y2, (((M5 _ _ q2).tok (k4 _ _ y2).2).2 σ6 g6).2, ?_⟩
    have st : stM B (s1M σ1 q) = s0M σ6 (tN B q) := by
      rw [stM1, if_neg y1, if_pos ⟨by omega, y3⟩, y2, s0M, K.1, K.2.1, S5, E5, e1, e2, eu]
    exact q3.on st
  refine ⟨⟨rfl, z2, ⟨B0, _, T0.2⟩, F6⟩, fun σ7 g7 => ?_⟩
  have C7 : CO a σ0 σ7 := (((hC.gf d1).gf G5).gf T0.1.rq.gf).gf g7.1
  rcases g7.2 with ⟨u1, u2, u3, u4, u5⟩ | ⟨u1, u2⟩
  · refine ⟨ms σ7 4, ?_, rfl, rfl, C7, Or.inr ⟨rfl, rfl⟩, Or.inl ⟨u1, u2.trans z3, u3, u4.trans zb, fun B p M => ?_⟩⟩
    · obtain ⟨q', a1, a2, -⟩ := u5 B0 _ T0.2
      have hb0 := N0.b
      have hN := tN_R hb0.1 hb0.2
      have ht' := tS_R hb0.1 a2.b.2
      have a7 : σ1 67 7 = (tS B0 q0 : Int) := N0.2.1
      have b7' : σ7 67 7 = (tS B0 q' : Int) := a2.2.1
      unfold ms
      rw [a7, b7', u1, h2', if_pos rfl, if_pos rfl, Int.toNat_natCast, Int.toNat_natCast]
      omega
    · obtain ⟨q, q2, y2, q3, q4⟩ := road B p M
      obtain ⟨q', a1, a2, a3⟩ := u5 B _ q3
      exact ⟨q', a2, q4.tr a3, fun z => absurd z (by decide)⟩
  · refine ⟨ms σ7 4, ms_bad h2' (by omega) (by decide), rfl, rfl, C7, Or.inr ⟨rfl, rfl⟩, Or.inr ⟨u1, fun B p M => ?_⟩⟩
    obtain ⟨q, q2, y2, q3, q4⟩ := road B p M
    obtain ⟨q', S', E', u', a2, a3⟩ := u2 B _ q3
    exact ⟨q', S', E', u', a2, q4.tr a3⟩
theorem Mo_formula_p177 : Mo_formula_vc177 := by
  intro k a σ0 hp0 n v2 σ hH hI
  obtain ⟨rfl, ha, h0, h22, hw, h4⟩ := hp0
  obtain ⟨hC, rfl, hU⟩ := hI
  refine ⟨fun h => ⟨fun _ => ?_, fun z => absurd h z⟩, fun h => ?_⟩
  · rcases hU with z | z
    · exact absurd z.1 h
    · exact ⟨hC, Or.inl z⟩
  · have h2' := Classical.not_not.mp h
    have hU : V1 σ0 σ (fun B q => nCl σ B q ∧ nOp σ B q) := by
      rcases hU with z | z
      · exact z
      · have := z.1; omega
    have hFI := hU.2.2.1
    refine ⟨⟨rfl, hFI.1⟩, ?_⟩
    rintro r3 σ2 ⟨rfl, rfl⟩
    refine ⟨fun h3 => ⟨fun z => absurd h2' z, fun _ => ⟨⟨rfl, by decide, hFI.1, hFI.2.1, by have := hU.cl; omega⟩, ?_⟩⟩, fun h3 => ⟨rfl, fun σ5 g => ?_⟩⟩
    · have hb := ite0 h3
      rintro σ4 ⟨d1, d2, d3, d4, d5, d6⟩
      have e1 : SkM σ4 = (cls 0 (SkM σ2) (EmM σ2)).1 := congrArg Prod.fst d4
      have e2 : EmM σ4 = (cls 0 (SkM σ2) (EmM σ2)).2 := congrArg Prod.snd d4
      obtain ⟨n1, n2, n3⟩ := cls_nb 0 (SkM σ2) (EmM σ2)
      rw [← e1, ← e2] at n1
      rw [← e2] at n2
      have hcl := hU.cl
      have h1 := hFI.2.2.2.2.1
      have eu : uM σ4 = uM σ2 := by show (σ4 67 24).toNat = _; rw [d5 24 (by decide) (by decide)]
      refine ⟨hC.gf d1, Or.inr ⟨by rw [d5 2 (by decide) (by decide)]; exact h2', by rw [d5 3 (by decide) (by decide)]; exact hU.2.1, d2, ⟨by omega, by omega⟩, ?_, fun B p M => ?_⟩⟩
      · rw [eu, d5 22 (by decide) (by decide)]
        have := hU.2.2.2.1
        have hu := hFI.1.2.2.2.2.2.1
        have : uM σ2 = (σ2 67 24).toNat := rfl
        omega
      · obtain ⟨q, q2, q3, y1, y2⟩ := hU.2.2.2.2 B p M
        refine ⟨q, q2.keep (fun j j1 j2 => d5 j (by omega) (by omega)) d6, ?_⟩
        have st : stM B (s1M σ2 q) = (2, q, SkM σ4, EmM σ4, uM σ4) := by
          rw [stM1, if_neg y1, if_neg y2, if_neg hb, e1, e2, eu]
        exact q3.on st
    · have hb := ite1 h3
      obtain ⟨B0, p0, M0⟩ := hw
      obtain ⟨q0, N0, -⟩ := hU.2.2.2.2 B0 p0 M0
      obtain ⟨w1, w2, w3⟩ := N0.wg h2' g
      have w5 : 0 < σ5 67 2 := by rw [w2]; split <;> omega
      refine ⟨fun z => ⟨hC.gf w1.gf, Or.inl ⟨w5, fun B p M => ?_⟩⟩, fun z => absurd (by omega) z⟩
      obtain ⟨q, q2, q3, y1, y2⟩ := hU.2.2.2.2 B p M
      obtain ⟨-, x2, x3⟩ := q2.wg h2' g
      refine ⟨q, SkM σ2, EmM σ2, uM σ2, ⟨x2, x3⟩, q3.on ?_⟩
      rw [stM1, if_neg y1, if_neg y2, if_pos hb]
def Mo_formula_I : List AV → Hp → Nat → Nat → List AV → List AV → Hp → Prop := fun as σ0 pc n st ls σ => (match as with
    | [.inr (.inr (.inl (k, 0, 9))), .inl a1] => (bif Nat.beq pc 50 then (match st, ls with
      | [], [.inr (.inr (.inl (k', 0, 9))), .inl a1', .inl v2, _] => k = k' ∧ a1 = a1' ∧ Mo_formula_I50 k a1 σ0 n v2 σ
      | _, _ => False) else (bif Nat.beq pc 133 then (match st, ls with
      | [], [.inr (.inr (.inl (k', 0, 9))), .inl a1', .inl v2, .inl v3] => k = k' ∧ a1 = a1' ∧ Mo_formula_I133 k a1 σ0 n v2 v3 σ
      | _, _ => False) else (bif Nat.beq pc 177 then (match st, ls with
      | [], [.inr (.inr (.inl (k', 0, 9))), .inl a1', .inl v2, _] => k = k' ∧ a1 = a1' ∧ Mo_formula_I177 k a1 σ0 n v2 σ
      | _, _ => False) else False)))
    | _ => False)
def Mo_formula_ct : Nat → Ct := fun n => match n with
  | 0 => Mo_token_cs
  | 1 => Mo_unit_cs
  | 2 => Mo_sign_cs
  | 3 => Mo_hasBracket_cs
  | 4 => Mo_close_cs
  | 5 => Mo_tight_cs
  | 6 => Mo_hasRelation_cs
  | 7 => Mo_wrong_cs
  | _ => Mo_formula_cs
set_option maxRecDepth 20000 in
set_option maxHeartbeats 4000000 in
theorem Mo_formula_met {l : Launch} {D : va_G} {ad : Nat → Nat} {ca : Nat → ClassId} {L : Nat} {fx : Nat → Int} : ax_MC l D ad ca L fx yX9_formula cX9_formula 4 none 5 Mo_formula_cs := by
  refine ax_met (oc := 9) (ct := Mo_formula_ct) (calls := Mo_formula_cl) (bs := Mo_formula_bk) (cut := fun pc => Nat.beq pc 50 || Nat.beq pc 133 || Nat.beq pc 177) (f := 10) (I := Mo_formula_I) (by decide) rfl rfl Mo_formula_ck (List.forall_mem_cons.mpr ⟨ax_cwV Mo_token_met (by decide) (by decide) rfl (by decide) rfl (ax_m6 145 (by decide +kernel) rfl) Mo_token_w rfl Mo_token_ds, List.forall_mem_cons.mpr ⟨ax_cwV Mo_unit_met (by decide) (by decide) rfl (by decide) rfl (ax_m6 231 (by decide +kernel) rfl) Mo_unit_w rfl Mo_unit_ds, List.forall_mem_cons.mpr ⟨ax_cwV Mo_sign_met (by decide) (by decide) rfl (by decide) rfl (ax_m7 22 (by decide +kernel) rfl) Mo_sign_w rfl Mo_sign_ds, List.forall_mem_cons.mpr ⟨ax_cwV Mo_hasBracket_met (by decide) (by decide) rfl (by decide) rfl (ax_m7 26 (by decide +kernel) rfl) Mo_hasBracket_w rfl Mo_hasBracket_ds, List.forall_mem_cons.mpr ⟨ax_cwV Mo_close_met (by decide) (by decide) rfl (by decide) rfl (ax_m7 30 (by decide +kernel) rfl) Mo_close_w rfl Mo_close_ds, List.forall_mem_cons.mpr ⟨ax_cwS Mo_tight_met (by decide) (by decide) (ax_m6 239 (by decide +kernel) rfl) Mo_tight_w rfl Mo_tight_ds, List.forall_mem_cons.mpr ⟨ax_cwV Mo_hasRelation_met (by decide) (by decide) rfl (by decide) rfl (ax_m7 34 (by decide +kernel) rfl) Mo_hasRelation_w rfl Mo_hasRelation_ds, List.forall_mem_cons.mpr ⟨ax_cwV Mo_wrong_met (by decide) (by decide) rfl (by decide) rfl (ax_m6 199 (by decide +kernel) rfl) Mo_wrong_w rfl Mo_wrong_ds, fun _ h => absurd h List.not_mem_nil⟩⟩⟩⟩⟩⟩⟩⟩) ?_ ?_
  · intro as σ0 hp hH
    match as, hp with
    | [.inr (.inr (.inl (k, 0, 9))), .inl a1], hp => exact ⟨rfl, Mo_formula_p k a1 σ0 hH hp⟩
  · intro as σ0 hp n pc st ls σ hH hI
    match as, hp, hI with
    | [.inr (.inr (.inl (k, 0, 9))), .inl a1], hp, hI =>
      rcases ax_bifE hI with ⟨hpc, hI⟩ | ⟨-, hI⟩
      · have := Nat.eq_of_beq_eq_true hpc
        subst this
        match st, ls, hI with
        | [], [.inr (.inr (.inl (k', 0, 9))), .inl a1', .inl v2, _], hI =>
          obtain ⟨rfl, rfl, hI⟩ := hI
          exact Mo_formula_p50 k a1 σ0 hp n v2 σ hH hI
      rcases ax_bifE hI with ⟨hpc, hI⟩ | ⟨-, hI⟩
      · have := Nat.eq_of_beq_eq_true hpc
        subst this
        match st, ls, hI with
        | [], [.inr (.inr (.inl (k', 0, 9))), .inl a1', .inl v2, .inl v3], hI =>
          obtain ⟨rfl, rfl, hI⟩ := hI
          exact Mo_formula_p133 k a1 σ0 hp n v2 v3 σ hH hI
      rcases ax_bifE hI with ⟨hpc, hI⟩ | ⟨-, hI⟩
      · have := Nat.eq_of_beq_eq_true hpc
        subst this
        match st, ls, hI with
        | [], [.inr (.inr (.inl (k', 0, 9))), .inl a1', .inl v2, _], hI =>
          obtain ⟨rfl, rfl, hI⟩ := hI
          exact Mo_formula_p177 k a1 σ0 hp n v2 σ hH hI
      exact False.elim hI
