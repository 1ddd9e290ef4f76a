-- THE MODEL'S READER: close, sign, brackets
theorem sk_cons {σ : Hp} {m : Nat} (h : σ 67 21 = ((m + 1 : Nat) : Int)) : SkM σ = sop (σ 76 m) :: stk (σ 76) m := by unfold SkM; rw [h, Int.toNat_natCast]; rfl
theorem dpt_len : ∀ S : List Int, dpt S ≤ S.length := by
  intro S
  induction S with
  | nil => exact Nat.le_refl 0
  | cons x S ih => show dpt S + (if x = 1 ∨ x = -6 then 1 else 0) ≤ S.length + 1; split <;> omega
def Mo_close_pre (k : Nat) (a : Int) (σ : Hp) : Prop := k = 67 ∧ 0 ≤ a ∧ FIa σ ∧ DPm σ ∧ (EmM σ).length + nb (SkM σ) ≤ 319
def clR (a : Int) (σ0 σ : Hp) : Prop := GFm σ0 σ ∧ FIa σ ∧ DPm σ ∧ (EmM σ).length + nb (SkM σ) ≤ 319 ∧ cls a.toNat (SkM σ) (EmM σ) = cls a.toNat (SkM σ0) (EmM σ0) ∧ (∀ j, ¬ j = 21 → ¬ j = 25 → σ 67 j = σ0 67 j) ∧ σ 68 = σ0 68
def Mo_close_post (_k : Nat) (a : Int) (σ σ' : Hp) : Prop := GFm σ σ' ∧ FIa σ' ∧ DPm σ' ∧ (SkM σ', EmM σ') = cls a.toNat (SkM σ) (EmM σ) ∧ (∀ j, ¬ j = 21 → ¬ j = 25 → σ' 67 j = σ 67 j) ∧ σ' 68 = σ 68
def Mo_close_I0 (_k : Nat) (a : Int) (σ0 : Hp) (n : Nat) (σ : Hp) : Prop := n = (σ 67 21).toNat ∧ clR a σ0 σ
def Mo_close_bk : List (Nat × List Item) := [(0, [(.aload_n 0, 1, [], []), (.getfield 251, 3, [9, 21, 0, 0, 0, 0], []), (.ifCond .le 97, 3, [101], []), (.aload_n 0, 1, [], []), (.getfield 39, 3, [9, 17, 4, 9, 1, 160], []), (.aload_n 0, 1, [], []), (.getfield 251, 3, [9, 21, 0, 0, 0, 0], []), (.iconst 1, 1, [], []), (.isub, 1, [], []), (.iaload, 1, [], []), (.bipush 20, 2, [], []), (.if_icmp .eq 81, 3, [101], []), (.aload_n 0, 1, [], []), (.getfield 39, 3, [9, 17, 4, 9, 1, 160], []), (.aload_n 0, 1, [], []), (.getfield 251, 3, [9, 21, 0, 0, 0, 0], []), (.iconst 1, 1, [], []), (.isub, 1, [], []), (.iaload, 1, [], []), (.invokestatic 254, 3, [0], []), (.iload_n 1, 1, [], []), (.if_icmp .lt 63, 3, [101], []), (.aload_n 0, 1, [], []), (.dup, 1, [], []), (.getfield 251, 3, [9, 21, 0, 0, 0, 0], []), (.iconst 1, 1, [], []), (.isub, 1, [], []), (.putfield 251, 3, [9, 21, 0, 0, 0, 0], []), (.aload_n 0, 1, [], []), (.getfield 39, 3, [9, 17, 4, 9, 1, 160], []), (.aload_n 0, 1, [], []), (.getfield 251, 3, [9, 21, 0, 0, 0, 0], []), (.iaload, 1, [], []), (.bipush 21, 2, [], []), (.if_icmp .ne 22, 3, [84], []), (.aload_n 0, 1, [], []), (.iconst 2, 1, [], []), (.iconst 0, 1, [], []), (.invokevirtual 257, 3, [1], []), (.aload_n 0, 1, [], []), (.dup, 1, [], []), (.getfield 261, 3, [9, 25, 0, 0, 0, 0], []), (.iconst 1, 1, [], []), (.isub, 1, [], []), (.putfield 261, 3, [9, 25, 0, 0, 0, 0], []), (.goto (-81), 3, [0], [])]),
  (84, [(.aload_n 0, 1, [], []), (.iconst 3, 1, [], []), (.aload_n 0, 1, [], []), (.getfield 39, 3, [9, 17, 4, 9, 1, 160], []), (.aload_n 0, 1, [], []), (.getfield 251, 3, [9, 21, 0, 0, 0, 0], []), (.iaload, 1, [], []), (.invokevirtual 257, 3, [1], []), (.goto (-98), 3, [0], [])]),
  (101, [(.return_, 1, [], [])])]
def Mo_close_cl : List (Instr × Nat) := [(.invokestatic 254, 0), (.invokevirtual 257, 1)]
set_option maxRecDepth 20000 in
theorem Mo_close_ck : Mo_close_bk.all (fun b => ax_chB 9 2 cX9_close Mo_close_cl b.1 b.2) = true := by decide +kernel
def Mo_close_cs : Ct := (2, 10, 0, (0, 0), fun as σ => (match as with
    | [.inr (.inr (.inl (k, 0, 9))), .inl a1] => Mo_close_pre k a1 σ
    | _ => False), fun as σ r σ' => (match as with
    | [.inr (.inr (.inl (k, 0, 9))), .inl a1] => Mo_close_post k a1 σ σ'
    | _ => False))
theorem Mo_close_w : ∀ w ∈ ([.instanceMethod yX9_close, .selects yX9_close.cls yX9_close yX9_close, .initialized yX9_close.cls, .code yX9_close cX9_close 2 none] : List Cond), w ∈ ax_tb := ax_w4 (ax_m7 32 (by decide +kernel) rfl) (ax_m0 32 (by decide +kernel) rfl) (ax_m1 10 (by decide +kernel) rfl) (ax_m7 33 (by decide +kernel) rfl)
theorem Mo_close_ds : yX9_close.cls ≠ "java/lang/invoke/MethodHandle" ∧ yX9_close.cls ≠ "java/lang/invoke/VarHandle" ∧ (parseMethodDescriptor yX9_close.desc).map (fun d => d.parameters.length) = some 1 := by decide +kernel
def Mo_close_vc : Prop := ∀ (k : Nat) (a1 : Int) (σ : Hp), ax_H σ → Mo_close_pre k a1 σ →
  (σ k 21 ≤ 0 →
    Mo_close_post k a1 σ σ) ∧
  (¬ (σ k 21 ≤ 0) →
    (0 ≤ wr ((σ k 21) - 1) ∧ wr ((σ k 21) - 1) < 160) ∧
    (σ (k + 9) (wr ((σ k 21) - 1)).toNat = 20 →
      Mo_close_post k a1 σ σ) ∧
    (¬ (σ (k + 9) (wr ((σ k 21) - 1)).toNat = 20) →
      (0 ≤ wr ((σ k 21) - 1) ∧ wr ((σ k 21) - 1) < 160) ∧
      Mo_tight_pre (σ (k + 9) (wr ((σ k 21) - 1)).toNat) σ ∧
      ∀ (r2 : Int) (σ1 : Hp), Mo_tight_post (σ (k + 9) (wr ((σ k 21) - 1)).toNat) σ r2 σ1 →
      (r2 < a1 →
        Mo_close_post k a1 σ σ1) ∧
      (¬ (r2 < a1) →
        ∀ σ3 : Hp, σ3 = hp σ1 k 21 (wr ((σ1 k 21) - 1)) →
        (0 ≤ σ3 k 21 ∧ σ3 k 21 < 160) ∧
        (¬ σ3 (k + 9) (σ3 k 21).toNat = 21 →
          (0 ≤ σ3 k 21 ∧ σ3 k 21 < 160) ∧
          Mo_add_pre k 3 (σ3 (k + 9) (σ3 k 21).toNat) σ3 ∧
          ∀ σ4 : Hp, Mo_add_post k 3 (σ3 (k + 9) (σ3 k 21).toNat) σ3 σ4 →
          ∃ n' : Nat, k = k ∧ a1 = a1 ∧ Mo_close_I0 k a1 σ n' σ4) ∧
        (¬ (¬ σ3 (k + 9) (σ3 k 21).toNat = 21) →
          Mo_add_pre k 2 0 σ3 ∧
          ∀ σ5 : Hp, Mo_add_post k 2 0 σ3 σ5 →
          ∀ σ6 : Hp, σ6 = hp σ5 k 25 (wr ((σ5 k 25) - 1)) →
          ∃ n' : Nat, k = k ∧ a1 = a1 ∧ Mo_close_I0 k a1 σ n' σ6))))
def Mo_close_vc0 : Prop := ∀ (k : Nat) (a1 : Int) (σ0 : Hp), Mo_close_pre k a1 σ0 → ∀ (n : Nat)  (σ : Hp), ax_H σ → Mo_close_I0 k a1 σ0 n σ →
  (σ k 21 ≤ 0 →
    Mo_close_post k a1 σ0 σ) ∧
  (¬ (σ k 21 ≤ 0) →
    (0 ≤ wr ((σ k 21) - 1) ∧ wr ((σ k 21) - 1) < 160) ∧
    (σ (k + 9) (wr ((σ k 21) - 1)).toNat = 20 →
      Mo_close_post k a1 σ0 σ) ∧
    (¬ (σ (k + 9) (wr ((σ k 21) - 1)).toNat = 20) →
      (0 ≤ wr ((σ k 21) - 1) ∧ wr ((σ k 21) - 1) < 160) ∧
      Mo_tight_pre (σ (k + 9) (wr ((σ k 21) - 1)).toNat) σ ∧
      ∀ (r2 : Int) (σ1 : Hp), Mo_tight_post (σ (k + 9) (wr ((σ k 21) - 1)).toNat) σ r2 σ1 →
      (r2 < a1 →
        Mo_close_post k a1 σ0 σ1) ∧
      (¬ (r2 < a1) →
        ∀ σ3 : Hp, σ3 = hp σ1 k 21 (wr ((σ1 k 21) - 1)) →
        (0 ≤ σ3 k 21 ∧ σ3 k 21 < 160) ∧
        (¬ σ3 (k + 9) (σ3 k 21).toNat = 21 →
          (0 ≤ σ3 k 21 ∧ σ3 k 21 < 160) ∧
          Mo_add_pre k 3 (σ3 (k + 9) (σ3 k 21).toNat) σ3 ∧
          ∀ σ4 : Hp, Mo_add_post k 3 (σ3 (k + 9) (σ3 k 21).toNat) σ3 σ4 →
          ∃ n' : Nat, n' < n ∧ k = k ∧ a1 = a1 ∧ Mo_close_I0 k a1 σ0 n' σ4) ∧
        (¬ (¬ σ3 (k + 9) (σ3 k 21).toNat = 21) →
          Mo_add_pre k 2 0 σ3 ∧
          ∀ σ5 : Hp, Mo_add_post k 2 0 σ3 σ5 →
          ∀ σ6 : Hp, σ6 = hp σ5 k 25 (wr ((σ5 k 25) - 1)) →
          ∃ n' : Nat, n' < n ∧ k = k ∧ a1 = a1 ∧ Mo_close_I0 k a1 σ0 n' σ6))))
theorem close_body {a1 : Int} {σ : Hp} (a0 : 0 ≤ a1) (hF : FIa σ) (hd : DPm σ) (hl : (EmM σ).length + nb (SkM σ) ≤ 319) (Ps K : Hp → Prop) (hPs : cls a1.toNat (SkM σ) (EmM σ) = (SkM σ, EmM σ) → Ps σ) (hK : ∀ σ', clR a1 σ σ' → (σ' 67 21).toNat < (σ 67 21).toNat → K σ') :
  (σ 67 21 ≤ 0 →
    Ps σ) ∧
  (¬ (σ 67 21 ≤ 0) →
    (0 ≤ wr ((σ 67 21) - 1) ∧ wr ((σ 67 21) - 1) < 160) ∧
    (σ (67 + 9) (wr ((σ 67 21) - 1)).toNat = 20 →
      Ps σ) ∧
    (¬ (σ (67 + 9) (wr ((σ 67 21) - 1)).toNat = 20) →
      (0 ≤ wr ((σ 67 21) - 1) ∧ wr ((σ 67 21) - 1) < 160) ∧
      Mo_tight_pre (σ (67 + 9) (wr ((σ 67 21) - 1)).toNat) σ ∧
      ∀ (r2 : Int) (σ1 : Hp), Mo_tight_post (σ (67 + 9) (wr ((σ 67 21) - 1)).toNat) σ r2 σ1 →
      (r2 < a1 →
        Ps σ1) ∧
      (¬ (r2 < a1) →
        ∀ σ3 : Hp, σ3 = hp σ1 67 21 (wr ((σ1 67 21) - 1)) →
        (0 ≤ σ3 67 21 ∧ σ3 67 21 < 160) ∧
        (¬ σ3 (67 + 9) (σ3 67 21).toNat = 21 →
          (0 ≤ σ3 67 21 ∧ σ3 67 21 < 160) ∧
          Mo_add_pre 67 3 (σ3 (67 + 9) (σ3 67 21).toNat) σ3 ∧
          ∀ σ4 : Hp, Mo_add_post 67 3 (σ3 (67 + 9) (σ3 67 21).toNat) σ3 σ4 →
          K σ4) ∧
        (¬ (¬ σ3 (67 + 9) (σ3 67 21).toNat = 21) →
          Mo_add_pre 67 2 0 σ3 ∧
          ∀ σ5 : Hp, Mo_add_post 67 2 0 σ3 σ5 →
          ∀ σ6 : Hp, σ6 = hp σ5 67 25 (wr ((σ5 67 25) - 1)) →
          K σ6)))) := by
  have h21 := hF.2.1
  refine ⟨fun h => hPs ?_, fun h => ?_⟩
  · have e : SkM σ = [] := by unfold SkM; rw [show (σ 67 21).toNat = 0 by omega]; rfl
    rw [e]; rfl
  · obtain ⟨m, hm⟩ : ∃ m : Nat, σ 67 21 = ((m + 1 : Nat) : Int) := ⟨(σ 67 21).toNat - 1, by omega⟩
    have ei : wr ((σ 67 21) - 1) = (m : Int) := by rw [wr_id (by omega) (by omega)]; omega
    rw [ei, Int.toNat_natCast]
    have hv := vop_all (hF.2.2.1 m (by omega))
    have eS := sk_cons hm
    refine ⟨⟨by omega, by omega⟩, fun h2 => hPs ?_, fun h2 => ⟨⟨by omega, by omega⟩, trivial, ?_⟩⟩
    · have h2' : σ 76 m = 20 := h2
      rw [eS]
      unfold cls
      rw [if_pos (Or.inl (hv.1.mpr h2'))]
    · have h2' : ¬ σ 76 m = 20 := h2
      have ht := hv.2.2.1 h2'
      have ns1 : ¬ sop (σ 76 m) = 1 := fun z => h2' (hv.1.mp z)
      rintro r2 σ1 ⟨rfl, hr2⟩
      have hr2 : r2 = tgM (σ1 76 m) := hr2
      refine ⟨fun h3 => hPs ?_, fun h3 => ?_⟩
      · rw [eS]
        unfold cls
        rw [if_pos (Or.inr (by omega))]
      · intro σ3 hs3
        rw [ei] at hs3
        have c21 : σ3 67 21 = (m : Int) := by rw [hs3, hp_r1]
        have q67 : ∀ j, ¬ j = 21 → σ3 67 j = σ1 67 j := fun j hj => by rw [hs3, hp_r2 (fun z => hj z.2)]
        have qc : ∀ c, ¬ c = 67 → σ3 c = σ1 c := fun c hc => by rw [hs3, hp_ne hc]
        have c76 : σ3 (67 + 9) = σ1 76 := qc 76 (by decide)
        rw [c21, Int.toNat_natCast, c76]
        obtain ⟨f1, f2, f3, f4, f5, f6, f7⟩ := hF
        have ew : wM σ3 = wM σ1 := by unfold wM; rw [q67 20 (by decide)]
        have F3 : FIa σ3 := ⟨by rw [q67 20 (by decide)]; exact f1, by rw [c21]; omega, by rw [c21]; intro i hi; rw [qc 76 (by decide)]; exact f3 i (by omega), by rw [ew, qc 72 (by decide)]; exact f4, by rw [ew, qc 70 (by decide), qc 71 (by decide), qc 72 (by decide)]; exact f5, by rw [q67 24 (by decide)]; exact f6, by rw [q67 22 (by decide), q67 24 (by decide)]; exact f7⟩
        have S3 : SkM σ3 = stk (σ1 76) m := by unfold SkM; rw [c21, Int.toNat_natCast, qc 76 (by decide)]
        have E3 : EmM σ3 = EmM σ1 := by unfold EmM; rw [ew, qc 70 (by decide), qc 71 (by decide), qc 72 (by decide)]
        have G3 : GFm σ1 σ3 := GFm.of67 (fun x hx => qc x (fun z => hx (by simp [z]))) (fun j hj => q67 j hj.2.2.2.2.2.2.2.1)
        have m3 : σ3 72 (wM σ3) < 320 := by
          have := F3.em.1
          rw [E3] at this
          omega
        have nbS : nb (SkM σ1) = nb (stk (σ1 76) m) + 1 := by rw [eS]; show nb _ + (if _ then 0 else 1) = _; rw [if_neg ns1]
        have step : ∀ σ4 : Hp, EmM σ4 = EmM σ1 ++ [sop (σ1 76 m)] → SkM σ4 = stk (σ1 76) m → cls a1.toNat (SkM σ4) (EmM σ4) = cls a1.toNat (SkM σ1) (EmM σ1) ∧ (EmM σ4).length + nb (SkM σ4) ≤ 319 := by
          intro σ4 hE hS
          rw [hE, hS]
          refine ⟨?_, by rw [List.length_append]; simp; omega⟩
          rw [eS]
          conv => rhs; unfold cls
          rw [if_neg (by omega)]
        have dS : dpt (SkM σ1) = dpt (stk (σ1 76) m) + (if sop (σ1 76 m) = 1 ∨ sop (σ1 76 m) = -6 then 1 else 0) := by rw [eS]; rfl
        have hd' : σ1 67 25 = (dpt (SkM σ1) : Int) := hd
        refine ⟨⟨by omega, by omega⟩, fun h4 => ⟨⟨by omega, by omega⟩, ⟨rfl, F3.1, F3.2.2.2.1, m3⟩, fun σ4 g => ?_⟩, fun h4 => ⟨⟨rfl, F3.1, F3.2.2.2.1, m3⟩, fun σ5 g σ6 hs6 => ?_⟩⟩
        · obtain ⟨a1', a2, a3, a4, a5, a6⟩ := add_FI F3 m3 (Or.inr (Or.inr (Or.inr rfl))) g
          have hc := hv.2.2.2 h2' h4
          have eE : EmM σ4 = EmM σ1 ++ [sop (σ1 76 m)] := by rw [a3, E3, hc.1]
          have eS4 : SkM σ4 = stk (σ1 76) m := by rw [a2, S3]
          obtain ⟨s1, s2⟩ := step σ4 eE eS4
          refine hK σ4 ⟨G3.tr a4, a1', ?_, s2, s1, fun j j1 _ => by rw [a5]; exact q67 j j1, by rw [a6, qc 68 (by decide)]⟩ (by rw [a5, c21]; omega)
          unfold DPm
          rw [a5, q67 25 (by decide), eS4, hd', dS, if_neg (by omega)]
          simp
        · have h4' := Classical.not_not.mp h4
          obtain ⟨a1', a2, a3, a4, a5, a6⟩ := add_FI F3 m3 (Or.inr (Or.inr (Or.inl rfl))) g
          have hc := hv.2.1.mpr h4'
          have hd1 : σ5 67 25 = (dpt (SkM σ1) : Int) := by rw [a5, q67 25 (by decide)]; exact hd'
          rw [hc, if_pos (Or.inr rfl)] at dS
          have hdl := dpt_len (SkM σ1)
          have hln : (SkM σ1).length = (σ1 67 21).toNat := stk_len _ _
          rw [hd1, wr_id (by omega) (by omega)] at hs6
          have p67 : ∀ j, ¬ j = 25 → σ6 67 j = σ5 67 j := fun j hj => by rw [hs6, hp_r2 (fun z => hj z.2)]
          have pc : ∀ c, ¬ c = 67 → σ6 c = σ5 c := fun c hc => by rw [hs6, hp_ne hc]
          have ew6 : wM σ6 = wM σ5 := by unfold wM; rw [p67 20 (by decide)]
          have eE : EmM σ6 = EmM σ1 ++ [sop (σ1 76 m)] := by
            rw [hc]
            have : EmM σ6 = EmM σ5 := by unfold EmM; rw [ew6, pc 70 (by decide), pc 71 (by decide), pc 72 (by decide)]
            rw [this, a3, E3]; rfl
          have eS6 : SkM σ6 = stk (σ1 76) m := by
            have : SkM σ6 = SkM σ5 := by unfold SkM; rw [p67 21 (by decide), pc 76 (by decide)]
            rw [this, a2, S3]
          obtain ⟨s1, s2⟩ := step σ6 eE eS6
          obtain ⟨b1, b2, b3, b4, b5, b6, b7⟩ := a1'
          have F6 : FIa σ6 := ⟨by rw [p67 20 (by decide)]; exact b1, by rw [p67 21 (by decide)]; exact b2, by rw [p67 21 (by decide), pc 76 (by decide)]; exact b3, by rw [ew6, pc 72 (by decide)]; exact b4, by rw [ew6, pc 70 (by decide), pc 71 (by decide), pc 72 (by decide)]; exact b5, by rw [p67 24 (by decide)]; exact b6, by rw [p67 22 (by decide), p67 24 (by decide)]; exact b7⟩
          have G6 : GFm σ5 σ6 := GFm.of67 (fun x hx => pc x (fun z => hx (by simp [z]))) (fun j hj => p67 j hj.2.2.2.2.2.2.2.2.2.2)
          refine hK σ6 ⟨(G3.tr a4).tr G6, F6, ?_, s2, s1, fun j j1 j2 => by rw [p67 j j2, a5]; exact q67 j j1, by rw [pc 68 (by decide), a6, qc 68 (by decide)]⟩ (by rw [p67 21 (by decide), a5, c21]; omega)
          unfold DPm
          rw [hs6, hp_r1, ← hs6, eS6]
          omega
theorem clR.post {a : Int} {σ0 σ : Hp} (h : clR a σ0 σ) (e : cls a.toNat (SkM σ) (EmM σ) = (SkM σ, EmM σ)) : Mo_close_post 67 a σ0 σ := by
  obtain ⟨h1, h2, h3, h4, h5, h6, h7⟩ := h
  exact ⟨h1, h2, h3, by rw [← h5, e], h6, h7⟩
theorem clR.tr {a : Int} {σ0 σ σ' : Hp} (h : clR a σ0 σ) (g : clR a σ σ') : clR a σ0 σ' := by
  obtain ⟨h1, h2, h3, h4, h5, h6, h7⟩ := h
  obtain ⟨g1, g2, g3, g4, g5, g6, g7⟩ := g
  exact ⟨h1.tr g1, g2, g3, g4, g5.trans h5, fun j a b => (g6 j a b).trans (h6 j a b), g7.trans h7⟩
theorem Mo_close_p : Mo_close_vc := by
  intro k a σ hH hp0
  obtain ⟨rfl, a0, hF, hd, hl⟩ := hp0
  have rf : clR a σ σ := ⟨GFm.rf, hF, hd, hl, rfl, fun _ _ _ => rfl, rfl⟩
  exact close_body a0 hF hd hl (fun σ' => Mo_close_post 67 a σ σ') (fun σ' => ∃ n' : Nat, (67 : Nat) = 67 ∧ a = a ∧ Mo_close_I0 67 a σ n' σ') (fun e => rf.post e) (fun σ' h _ => ⟨_, rfl, rfl, rfl, h⟩)
theorem Mo_close_p0 : Mo_close_vc0 := by
  intro k a σ0 hp0 n σ hH hI
  obtain ⟨rfl, a0, -, -, -⟩ := hp0
  obtain ⟨rfl, h⟩ := hI
  exact close_body a0 h.2.1 h.2.2.1 h.2.2.2.1 (fun σ' => Mo_close_post 67 a σ0 σ') (fun σ' => ∃ n' : Nat, n' < (σ 67 21).toNat ∧ (67 : Nat) = 67 ∧ a = a ∧ Mo_close_I0 67 a σ0 n' σ') (fun e => h.post e) (fun σ' g hlt => ⟨_, hlt, rfl, rfl, rfl, h.tr g⟩)
def Mo_close_I : List AV → Hp → Nat → Nat → List AV → List AV → Hp → Prop := fun as σ0 pc n st ls σ => (match as with
    | [.inr (.inr (.inl (k, 0, 9))), .inl a1] => (bif Nat.beq pc 0 then (match st, ls with
      | [], [.inr (.inr (.inl (k', 0, 9))), .inl a1'] => k = k' ∧ a1 = a1' ∧ Mo_close_I0 k a1 σ0 n σ
      | _, _ => False) else False)
    | _ => False)
def Mo_close_ct : Nat → Ct := fun n => match n with
  | 0 => Mo_tight_cs
  | 1 => Mo_add_cs
  | _ => Mo_close_cs
set_option maxRecDepth 20000 in
set_option maxHeartbeats 4000000 in
theorem Mo_close_met {l : Launch} {D : va_G} {ad : Nat → Nat} {ca : Nat → ClassId} {L : Nat} {fx : Nat → Int} : ax_MC l D ad ca L fx yX9_close cX9_close 2 none 2 Mo_close_cs := by
  refine ax_met (oc := 9) (ct := Mo_close_ct) (calls := Mo_close_cl) (bs := Mo_close_bk) (cut := fun pc => Nat.beq pc 0) (f := 4) (I := Mo_close_I) (by decide) rfl rfl Mo_close_ck (List.forall_mem_cons.mpr ⟨ax_cwS Mo_tight_met (by decide) (by decide) (ax_m6 239 (by decide +kernel) rfl) Mo_tight_w rfl Mo_tight_ds, List.forall_mem_cons.mpr ⟨ax_cwV Mo_add_met (by decide) (by decide) rfl (by decide) rfl (ax_m7 18 (by decide +kernel) rfl) Mo_add_w rfl Mo_add_ds, fun _ h => absurd h List.not_mem_nil⟩⟩) ?_ ?_
  · intro as σ0 hp hH
    match as, hp with
    | [.inr (.inr (.inl (k, 0, 9))), .inl a1], hp => exact ⟨rfl, Mo_close_p k a1 σ0 hH hp⟩
  · intro as σ0 hp n pc st ls σ hH hI
    match as, hp, hI with
    | [.inr (.inr (.inl (k, 0, 9))), .inl a1], hp, hI =>
      rcases ax_bifE hI with ⟨hpc, hI⟩ | ⟨-, hI⟩
      · have := Nat.eq_of_beq_eq_true hpc
        subst this
        match st, ls, hI with
        | [], [.inr (.inr (.inl (k', 0, 9))), .inl a1'], hI =>
          obtain ⟨rfl, rfl, hI⟩ := hI
          exact Mo_close_p0 k a1 σ0 hp n σ hH hI
      exact False.elim hI
theorem hbr_stk {f : Nat → Int} : ∀ n, (∀ i, i < n → vop (f i)) → (hbr (stk f n) = true ↔ ∃ j, j < n ∧ f j = 20) := by
  intro n
  induction n with
  | zero => intro _; exact ⟨fun h => absurd (of_decide_eq_true h) List.not_mem_nil, fun ⟨j, hj, _⟩ => absurd hj (Nat.not_lt_zero j)⟩
  | succ n ih =>
    intro h
    have i := ih (fun i hi => h i (by omega))
    have hv := vop_all (h n (by omega))
    refine ⟨fun z => ?_, fun z => decide_eq_true ?_⟩
    · rcases List.mem_cons.mp (of_decide_eq_true z) with y | y
      · exact ⟨n, by omega, hv.1.mp y.symm⟩
      · obtain ⟨j, hj, e⟩ := i.mp (decide_eq_true y)
        exact ⟨j, by omega, e⟩
    · obtain ⟨j, hj, e⟩ := z
      by_cases y : j = n
      · rw [y] at e; exact List.mem_cons.mpr (Or.inl (hv.1.mpr e).symm)
      · exact List.mem_cons_of_mem _ (of_decide_eq_true (i.mpr ⟨j, by omega, e⟩))
def HBx (f : Nat → Int) (i : Nat) : Prop := ∃ j, j < i ∧ f j = 20
def Mo_hasBracket_pre (k : Nat) (σ : Hp) : Prop := k = 67 ∧ FIa σ
def Mo_hasBracket_post (_k : Nat) (σ : Hp) (r : Int) (σ' : Hp) : Prop := σ' = σ ∧ r = if hbr (SkM σ) = true then 1 else 0
def Mo_hasBracket_I4 (_k : Nat) (σ0 : Hp) (n : Nat) (v1 v2 : Int) (σ : Hp) : Prop := σ = σ0 ∧ ∃ i : Nat, v2 = i ∧ i ≤ (σ0 67 21).toNat ∧ n = 200 - i ∧ ((v1 = 1 ∧ HBx (σ0 76) i) ∨ (v1 = 0 ∧ ∀ j, j < i → ¬ σ0 76 j = 20))
def Mo_hasBracket_bk : List (Nat × List Item) := [(0, [(.iconst 0, 1, [], []), (.istore_n 1, 1, [], []), (.iconst 0, 1, [], []), (.istore_n 2, 1, [], [])]),
  (4, [(.iload_n 2, 1, [], []), (.aload_n 0, 1, [], []), (.getfield 251, 3, [9, 21, 0, 0, 0, 0], []), (.if_icmp .ge 30, 3, [39], []), (.iload_n 1, 1, [], []), (.ifCond .ne 14, 3, [27], []), (.aload_n 0, 1, [], []), (.getfield 39, 3, [9, 17, 4, 9, 1, 160], []), (.iload_n 2, 1, [], []), (.iaload, 1, [], []), (.bipush 20, 2, [], []), (.if_icmp .ne 7, 3, [31], [])]),
  (27, [(.iconst 1, 1, [], []), (.goto 4, 3, [32], [])]),
  (31, [(.iconst 0, 1, [], [])]),
  (32, [(.istore_n 1, 1, [], []), (.iinc 2 1, 3, [], []), (.goto (-32), 3, [4], [])]),
  (39, [(.iload_n 1, 1, [], []), (.ireturn, 1, [], [])])]
def Mo_hasBracket_cl : List (Instr × Nat) := []
set_option maxRecDepth 20000 in
theorem Mo_hasBracket_ck : Mo_hasBracket_bk.all (fun b => ax_chB 9 3 cX9_hasBracket Mo_hasBracket_cl b.1 b.2) = true := by decide +kernel
def Mo_hasBracket_cs : Ct := (1, 10, 2, (0, 0), fun as σ => (match as with
    | [.inr (.inr (.inl (k, 0, 9)))] => Mo_hasBracket_pre k σ
    | _ => False), fun as σ r σ' => (match as with
    | [.inr (.inr (.inl (k, 0, 9)))] => Mo_hasBracket_post k σ r σ'
    | _ => False))
theorem Mo_hasBracket_w : ∀ w ∈ ([.instanceMethod yX9_hasBracket, .selects yX9_hasBracket.cls yX9_hasBracket yX9_hasBracket, .initialized yX9_hasBracket.cls, .code yX9_hasBracket cX9_hasBracket 3 (some .boolean)] : List Cond), w ∈ ax_tb := ax_w4 (ax_m7 28 (by decide +kernel) rfl) (ax_m0 31 (by decide +kernel) rfl) (ax_m1 10 (by decide +kernel) rfl) (ax_m7 29 (by decide +kernel) rfl)
theorem Mo_hasBracket_ds : yX9_hasBracket.cls ≠ "java/lang/invoke/MethodHandle" ∧ yX9_hasBracket.cls ≠ "java/lang/invoke/VarHandle" ∧ (parseMethodDescriptor yX9_hasBracket.desc).map (fun d => d.parameters.length) = some 0 := by decide +kernel
def Mo_hasBracket_vc : Prop := ∀ (k : Nat) (σ : Hp), ax_H σ → Mo_hasBracket_pre k σ →
  ∃ n' : Nat, k = k ∧ Mo_hasBracket_I4 k σ n' 0 0 σ
def Mo_hasBracket_vc4 : Prop := ∀ (k : Nat) (σ0 : Hp), Mo_hasBracket_pre k σ0 → ∀ (n : Nat) (v1 : Int) (v2 : Int) (σ : Hp), ax_H σ → Mo_hasBracket_I4 k σ0 n v1 v2 σ →
  (σ k 21 ≤ v2 →
    (v1 = 0 ∨ v1 = 1) ∧ Mo_hasBracket_post k σ0 v1 σ) ∧
  (¬ (σ k 21 ≤ v2) →
    (¬ v1 = 0 →
      ∃ n' : Nat, n' < n ∧ k = k ∧ Mo_hasBracket_I4 k σ0 n' 1 (wr (v2 + 1)) σ) ∧
    (¬ (¬ v1 = 0) →
      (0 ≤ v2 ∧ v2 < 160) ∧
      (¬ σ (k + 9) v2.toNat = 20 →
        ∃ n' : Nat, n' < n ∧ k = k ∧ Mo_hasBracket_I4 k σ0 n' 0 (wr (v2 + 1)) σ) ∧
      (¬ (¬ σ (k + 9) v2.toNat = 20) →
        ∃ n' : Nat, n' < n ∧ k = k ∧ Mo_hasBracket_I4 k σ0 n' 1 (wr (v2 + 1)) σ)))
theorem Mo_hasBracket_p : Mo_hasBracket_vc := by
  intro k σ hH hp
  obtain ⟨rfl, hF⟩ := hp
  exact ⟨200, rfl, rfl, 0, rfl, Nat.zero_le _, rfl, Or.inr ⟨rfl, fun j hj => absurd hj (Nat.not_lt_zero j)⟩⟩
theorem Mo_hasBracket_p4 : Mo_hasBracket_vc4 := by
  intro k σ0 hp n v1 v2 σ hH hI
  obtain ⟨rfl, hF⟩ := hp
  obtain ⟨rfl, i, rfl, hi, rfl, hv⟩ := hI
  have h21 := hF.2.1
  have hb : hbr (SkM σ) = true ↔ HBx (σ 76) (σ 67 21).toNat := hbr_stk (f := σ 76) (σ 67 21).toNat (fun i hi => hF.2.2.1 i (by omega))
  rw [wr1 (by omega) (by omega), Int.toNat_natCast]
  refine ⟨fun h => ⟨by omega, rfl, ?_⟩, fun h => ⟨fun h1 => ⟨200 - (i + 1), by omega, rfl, rfl, i + 1, by simp, by omega, rfl, Or.inl ⟨rfl, ?_⟩⟩, fun h1 => ⟨⟨by omega, by omega⟩, fun h2 => ⟨200 - (i + 1), by omega, rfl, rfl, i + 1, by simp, by omega, rfl, Or.inr ⟨rfl, ?_⟩⟩, fun h2 => ⟨200 - (i + 1), by omega, rfl, rfl, i + 1, by simp, by omega, rfl, Or.inl ⟨rfl, i, by omega, Classical.not_not.mp h2⟩⟩⟩⟩⟩
  · rcases hv with ⟨z, j, hj, e⟩ | ⟨z, y⟩
    · rw [if_pos (hb.mpr ⟨j, by omega, e⟩)]; exact z
    · rw [if_neg (fun x => by obtain ⟨j, hj, e⟩ := hb.mp x; exact y j (by omega) e)]; exact z
  · rcases hv with ⟨-, j, hj, e⟩ | ⟨z, -⟩
    · exact ⟨j, by omega, e⟩
    · exact absurd z h1
  · rcases hv with ⟨z, -⟩ | ⟨-, y⟩
    · omega
    · intro j hj
      by_cases e : j = i
      · rw [e]; exact h2
      · exact y j (by omega)
def Mo_hasBracket_I : List AV → Hp → Nat → Nat → List AV → List AV → Hp → Prop := fun as σ0 pc n st ls σ => (match as with
    | [.inr (.inr (.inl (k, 0, 9)))] => (bif Nat.beq pc 4 then (match st, ls with
      | [], [.inr (.inr (.inl (k', 0, 9))), .inl v1, .inl v2] => k = k' ∧ Mo_hasBracket_I4 k σ0 n v1 v2 σ
      | _, _ => False) else False)
    | _ => False)
def Mo_hasBracket_ct : Nat → Ct := fun n => match n with
  | _ => Mo_hasBracket_cs
set_option maxRecDepth 20000 in
set_option maxHeartbeats 4000000 in
theorem Mo_hasBracket_met {l : Launch} {D : va_G} {ad : Nat → Nat} {ca : Nat → ClassId} {L : Nat} {fx : Nat → Int} : ax_MC l D ad ca L fx yX9_hasBracket cX9_hasBracket 3 (some .boolean) 1 Mo_hasBracket_cs := by
  refine ax_met (oc := 9) (ct := Mo_hasBracket_ct) (calls := Mo_hasBracket_cl) (bs := Mo_hasBracket_bk) (cut := fun pc => Nat.beq pc 4) (f := 7) (I := Mo_hasBracket_I) (by decide) rfl rfl Mo_hasBracket_ck (fun _ h => absurd h List.not_mem_nil) ?_ ?_
  · intro as σ0 hp hH
    match as, hp with
    | [.inr (.inr (.inl (k, 0, 9)))], hp => exact ⟨rfl, Mo_hasBracket_p k σ0 hH hp⟩
  · intro as σ0 hp n pc st ls σ hH hI
    match as, hp, hI with
    | [.inr (.inr (.inl (k, 0, 9)))], hp, hI =>
      rcases ax_bifE hI with ⟨hpc, hI⟩ | ⟨-, hI⟩
      · have := Nat.eq_of_beq_eq_true hpc
        subst this
        match st, ls, hI with
        | [], [.inr (.inr (.inl (k', 0, 9))), .inl v1, .inl v2], hI =>
          obtain ⟨rfl, hI⟩ := hI
          exact Mo_hasBracket_p4 k σ0 hp n v1 v2 σ hH hI
      exact False.elim hI
def sgV (K W : Int) : Int := if K = 1 ∧ W = 6385252 then 38 else if K = 1 ∧ W = 28530 then 124 else if K = 60 ∨ K = 62 ∨ K = 61 ∨ K = 43 ∨ K = 45 ∨ K = 42 ∨ K = 47 ∨ K = 37 then K else 0
def Mo_sign_pre (k : Nat) (_σ : Hp) : Prop := k = 67
def Mo_sign_post (_k : Nat) (σ : Hp) (r : Int) (σ' : Hp) : Prop := σ' = σ ∧ r = sgV (σ 67 6) (σ 67 9)
def Mo_sign_bk : List (Nat × List Item) := [(0, [(.aload_n 0, 1, [], []), (.ldc2_w 210, 3, [], [(6385252, 0)]), (.invokevirtual 220, 3, [0], []), (.ifCond .eq 6, 3, [13], []), (.bipush 38, 2, [], []), (.ireturn, 1, [], [])]),
  (13, [(.aload_n 0, 1, [], []), (.ldc2_w 212, 3, [], [(28530, 0)]), (.invokevirtual 220, 3, [0], []), (.ifCond .eq 6, 3, [26], []), (.bipush 124, 2, [], []), (.ireturn, 1, [], [])]),
  (26, [(.aload_n 0, 1, [], []), (.getfield 166, 3, [9, 6, 0, 0, 0, 0], []), (.bipush 60, 2, [], []), (.if_icmp .eq 66, 3, [98], []), (.aload_n 0, 1, [], []), (.getfield 166, 3, [9, 6, 0, 0, 0, 0], []), (.bipush 62, 2, [], []), (.if_icmp .eq 57, 3, [98], []), (.aload_n 0, 1, [], []), (.getfield 166, 3, [9, 6, 0, 0, 0, 0], []), (.bipush 61, 2, [], []), (.if_icmp .eq 48, 3, [98], []), (.aload_n 0, 1, [], []), (.getfield 166, 3, [9, 6, 0, 0, 0, 0], []), (.bipush 43, 2, [], []), (.if_icmp .eq 39, 3, [98], []), (.aload_n 0, 1, [], []), (.getfield 166, 3, [9, 6, 0, 0, 0, 0], []), (.bipush 45, 2, [], []), (.if_icmp .eq 30, 3, [98], []), (.aload_n 0, 1, [], []), (.getfield 166, 3, [9, 6, 0, 0, 0, 0], []), (.bipush 42, 2, [], []), (.if_icmp .eq 21, 3, [98], []), (.aload_n 0, 1, [], []), (.getfield 166, 3, [9, 6, 0, 0, 0, 0], []), (.bipush 47, 2, [], []), (.if_icmp .eq 12, 3, [98], []), (.aload_n 0, 1, [], []), (.getfield 166, 3, [9, 6, 0, 0, 0, 0], []), (.bipush 37, 2, [], []), (.if_icmp .ne 10, 3, [105], [])]),
  (98, [(.aload_n 0, 1, [], []), (.getfield 166, 3, [9, 6, 0, 0, 0, 0], []), (.goto 4, 3, [106], [])]),
  (105, [(.iconst 0, 1, [], [])]),
  (106, [(.ireturn, 1, [], [])])]
def Mo_sign_cl : List (Instr × Nat) := [(.invokevirtual 220, 0)]
set_option maxRecDepth 20000 in
theorem Mo_sign_ck : Mo_sign_bk.all (fun b => ax_chB 9 1 cX9_sign Mo_sign_cl b.1 b.2) = true := by decide +kernel
def Mo_sign_cs : Ct := (1, 10, 1, (0, 0), fun as σ => (match as with
    | [.inr (.inr (.inl (k, 0, 9)))] => Mo_sign_pre k σ
    | _ => False), fun as σ r σ' => (match as with
    | [.inr (.inr (.inl (k, 0, 9)))] => Mo_sign_post k σ r σ'
    | _ => False))
theorem Mo_sign_w : ∀ w ∈ ([.instanceMethod yX9_sign, .selects yX9_sign.cls yX9_sign yX9_sign, .initialized yX9_sign.cls, .code yX9_sign cX9_sign 1 (some .int)] : List Cond), w ∈ ax_tb := ax_w4 (ax_m7 24 (by decide +kernel) rfl) (ax_m0 30 (by decide +kernel) rfl) (ax_m1 10 (by decide +kernel) rfl) (ax_m7 25 (by decide +kernel) rfl)
theorem Mo_sign_ds : yX9_sign.cls ≠ "java/lang/invoke/MethodHandle" ∧ yX9_sign.cls ≠ "java/lang/invoke/VarHandle" ∧ (parseMethodDescriptor yX9_sign.desc).map (fun d => d.parameters.length) = some 0 := by decide +kernel
def Mo_sign_vc : Prop := ∀ (k : Nat) (σ : Hp), ax_H σ → Mo_sign_pre k σ →
  Mo_isWord_pre k 6385252 σ ∧
  ∀ (r2 : Int) (σ1 : Hp), Mo_isWord_post k 6385252 σ r2 σ1 →
  (r2 = 0 →
    Mo_isWord_pre k 28530 σ1 ∧
    ∀ (r4 : Int) (σ3 : Hp), Mo_isWord_post k 28530 σ1 r4 σ3 →
    (r4 = 0 →
      (σ3 k 6 = 60 →
        Mo_sign_post k σ (σ3 k 6) σ3) ∧
      (¬ (σ3 k 6 = 60) →
        (σ3 k 6 = 62 →
          Mo_sign_post k σ (σ3 k 6) σ3) ∧
        (¬ (σ3 k 6 = 62) →
          (σ3 k 6 = 61 →
            Mo_sign_post k σ (σ3 k 6) σ3) ∧
          (¬ (σ3 k 6 = 61) →
            (σ3 k 6 = 43 →
              Mo_sign_post k σ (σ3 k 6) σ3) ∧
            (¬ (σ3 k 6 = 43) →
              (σ3 k 6 = 45 →
                Mo_sign_post k σ (σ3 k 6) σ3) ∧
              (¬ (σ3 k 6 = 45) →
                (σ3 k 6 = 42 →
                  Mo_sign_post k σ (σ3 k 6) σ3) ∧
                (¬ (σ3 k 6 = 42) →
                  (σ3 k 6 = 47 →
                    Mo_sign_post k σ (σ3 k 6) σ3) ∧
                  (¬ (σ3 k 6 = 47) →
                    (¬ σ3 k 6 = 37 →
                      Mo_sign_post k σ 0 σ3) ∧
                    (¬ (¬ σ3 k 6 = 37) →
                      Mo_sign_post k σ (σ3 k 6) σ3))))))))) ∧
    (¬ (r4 = 0) →
      Mo_sign_post k σ 124 σ3)) ∧
  (¬ (r2 = 0) →
    Mo_sign_post k σ 38 σ1)
theorem Mo_sign_p : Mo_sign_vc := by
  intro k σ hH hp
  obtain rfl : k = 67 := hp
  refine ⟨rfl, ?_⟩
  rintro r2 σ1 ⟨rfl, rfl⟩
  refine ⟨fun h => ⟨rfl, ?_⟩, fun h => ⟨rfl, by unfold sgV; rw [if_pos (ite1 h)]⟩⟩
  rintro r4 σ3 ⟨rfl, rfl⟩
  have h1 := ite0 h
  refine ⟨fun h2 => ?_, fun h2 => ⟨rfl, by unfold sgV; rw [if_neg h1, if_pos (ite1 h2)]⟩⟩
  have h3 := ite0 h2
  have y : (σ3 67 6 = 60 ∨ σ3 67 6 = 62 ∨ σ3 67 6 = 61 ∨ σ3 67 6 = 43 ∨ σ3 67 6 = 45 ∨ σ3 67 6 = 42 ∨ σ3 67 6 = 47 ∨ σ3 67 6 = 37) → Mo_sign_post 67 σ3 (σ3 67 6) σ3 := fun z => ⟨rfl, by unfold sgV; rw [if_neg h1, if_neg h3, if_pos z]⟩
  have no : ¬ (σ3 67 6 = 60 ∨ σ3 67 6 = 62 ∨ σ3 67 6 = 61 ∨ σ3 67 6 = 43 ∨ σ3 67 6 = 45 ∨ σ3 67 6 = 42 ∨ σ3 67 6 = 47 ∨ σ3 67 6 = 37) → Mo_sign_post 67 σ3 0 σ3 := fun z => ⟨rfl, by unfold sgV; rw [if_neg h1, if_neg h3, if_neg z]⟩
  exact ⟨fun h => y (by omega), fun a1 => ⟨fun h => y (by omega), fun a2 => ⟨fun h => y (by omega), fun a3 => ⟨fun h => y (by omega), fun a4 => ⟨fun h => y (by omega), fun a5 => ⟨fun h => y (by omega), fun a6 => ⟨fun h => y (by omega), fun a7 => ⟨fun h => no (by omega), fun h => y (by omega)⟩⟩⟩⟩⟩⟩⟩⟩
def Mo_sign_I : List AV → Hp → Nat → Nat → List AV → List AV → Hp → Prop := fun as σ0 pc n st ls σ => (match as with
    | [.inr (.inr (.inl (k, 0, 9)))] => False
    | _ => False)
def Mo_sign_ct : Nat → Ct := fun n => match n with
  | 0 => Mo_isWord_cs
  | _ => Mo_sign_cs
set_option maxRecDepth 20000 in
set_option maxHeartbeats 4000000 in
theorem Mo_sign_met {l : Launch} {D : va_G} {ad : Nat → Nat} {ca : Nat → ClassId} {L : Nat} {fx : Nat → Int} : ax_MC l D ad ca L fx yX9_sign cX9_sign 1 (some .int) 2 Mo_sign_cs := by
  refine ax_met (oc := 9) (ct := Mo_sign_ct) (calls := Mo_sign_cl) (bs := Mo_sign_bk) (cut := fun pc => false) (f := 7) (I := Mo_sign_I) (by decide) rfl rfl Mo_sign_ck (List.forall_mem_cons.mpr ⟨ax_cwV Mo_isWord_met (by decide) (by decide) rfl (by decide) rfl (ax_m6 167 (by decide +kernel) rfl) Mo_isWord_w rfl Mo_isWord_ds, fun _ h => absurd h List.not_mem_nil⟩) ?_ ?_
  · intro as σ0 hp hH
    match as, hp with
    | [.inr (.inr (.inl (k, 0, 9)))], hp => exact ⟨rfl, Mo_sign_p k σ0 hH hp⟩
  · intro as σ0 hp n pc st ls σ hH hI
    match as, hp, hI with
    | [.inr (.inr (.inl (k, 0, 9)))], hp, hI => exact False.elim hI
theorem MT.sign {σ : Hp} {B : Tp} {p : Nat} (h : MT σ B p) : (sgV (σ 67 6) (σ 67 9) = 0 ∧ opA B p = 0) ∨ (vop (sgV (σ 67 6) (σ 67 9)) ∧ ¬ sgV (σ 67 6) (σ 67 9) = 20 ∧ ¬ sgV (σ 67 6) (σ 67 9) = 21 ∧ ¬ sgV (σ 67 6) (σ 67 9) = 0 ∧ sop (sgV (σ 67 6) (σ 67 9)) = opA B p) := by
  by_cases k1 : tK B p = 1
  · have e6 : σ 67 6 = 1 := by rw [h.2.2.1]; exact srt_1.mpr k1
    have e9 := h.2.2.2.1 k1
    have eA : opA B p = if tV B p = 28530 then -7 else if tV B p = 6385252 then -8 else 0 := by unfold opA opC; rw [k1]; rfl
    rw [e6, e9, eA]
    unfold sgV
    by_cases z : tV B p = 6385252
    · rw [if_pos ⟨rfl, z⟩, z]; exact Or.inr ⟨by unfold vop; decide, by decide, by decide, by decide, by decide⟩
    · rw [if_neg (fun y => z y.2)]
      by_cases z2 : tV B p = 28530
      · rw [if_pos ⟨rfl, z2⟩, if_pos z2]; exact Or.inr ⟨by unfold vop; decide, by decide, by decide, by decide, by decide⟩
      · rw [if_neg (fun y => z2 y.2), if_neg (by decide), if_neg z2, if_neg z]; exact Or.inl ⟨rfl, rfl⟩
  · have n6 : ¬ σ 67 6 = 1 := fun z => k1 (srt_1.mp (by rw [← h.2.2.1]; exact z))
    by_cases k3 : tK B p = 3
    · have e6 : σ 67 6 = tV B p := by rw [h.2.2.1]; unfold srt; rw [if_pos k3]
      have eA : opA B p = opC 3 (tV B p) := by unfold opA; rw [k3]; rfl
      rw [eA, e6]
      rw [e6] at n6
      have hs := (sgL_iff _).mp (tV_sg k3).1
      unfold sgV
      rw [if_neg (fun y => n6 y.1), if_neg (fun y => n6 y.1)]
      rcases hs with y | y | y | y | y | y | y | y | y | y | y <;> rw [y]
      · exact Or.inl (by decide)
      · exact Or.inl (by decide)
      · exact Or.inl (by decide)
      all_goals exact Or.inr ⟨by unfold vop; decide, by decide, by decide, by decide, by decide⟩
    · have eA : opA B p = 0 := by
        unfold opA opC
        rw [if_neg (by omega), if_neg (by omega)]
      have e6 : σ 67 6 = 0 ∨ σ 67 6 = 2 ∨ σ 67 6 = 3 := by
        rw [h.2.2.1]
        unfold srt
        rw [if_neg k3]
        have := tK_le B p
        split <;> omega
      rw [eA]
      unfold sgV
      rw [if_neg (fun y => n6 y.1), if_neg (fun y => n6 y.1), if_neg (by omega)]
      exact Or.inl ⟨rfl, rfl⟩
