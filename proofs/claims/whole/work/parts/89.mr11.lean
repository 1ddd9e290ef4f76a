-- THE MODEL'S READER: all lines
def RFr (σ σ' : Hp) : Prop := Fr rcs σ σ' ∧ ∀ j, j = 23 ∨ (42 ≤ j ∧ ¬ j = 44 ∧ ¬ j = 45) → σ' 67 j = σ 67 j
def Mo_readAll_pre (k : Nat) (σ : Hp) : Prop := k = 67 ∧ (0 ≤ σ 67 1 ∧ σ 67 1 ≤ 1600) ∧ ∀ i, i < 1600 → 0 ≤ σ 68 i ∧ σ 68 i ≤ 255
def raO (σ σ' : Hp) (o : Oc (PS × Nat)) : Prop := match o with
  | .inl x => 0 < σ' 67 2 ∧ σ' 67 2 = x.1 ∧ σ' 67 3 = (tS (tpM σ) x.2 : Int)
  | .inr x => σ' 67 2 = 0 ∧ σ' 67 3 = -1 ∧ PM σ' x.1
def Mo_readAll_post (_k : Nat) (σ σ' : Hp) : Prop := RFr σ σ' ∧ σ' 67 1 = 0 ∧ ∃ o, RdA (tpM σ) o ∧ raO σ σ' o
def Mo_readAll_I86 (_k : Nat) (σ0 : Hp) (n : Nat) (σ : Hp) : Prop := RFr σ0 σ ∧ σ 67 1 = 0 ∧ n = (if σ 67 2 = 0 then 2000 - plM σ else 0) ∧ ((∃ k x, itl (tpM σ0) k (.inr (ps0, 0)) = .inl x ∧ 0 < σ 67 2 ∧ σ 67 2 = x.1 ∧ σ 67 3 = (tS (tpM σ0) x.2 : Int)) ∨ (σ 67 2 = 0 ∧ σ 67 3 = -1 ∧ ∃ k p q, MT σ (tpM σ0) p ∧ PM σ q ∧ itl (tpM σ0) k (.inr (ps0, 0)) = .inr (q, p)))
def Mo_readAll_bk : List (Nat × List Item) := [(0, [(.aload_n 0, 1, [], []), (.aload_n 0, 1, [], []), (.getfield 139, 3, [9, 1, 0, 0, 0, 0], []), (.putfield 149, 3, [9, 5, 0, 0, 0, 0], []), (.aload_n 0, 1, [], []), (.iconst 0, 1, [], []), (.putfield 139, 3, [9, 1, 0, 0, 0, 0], []), (.aload_n 0, 1, [], []), (.iconst 0, 1, [], []), (.putfield 146, 3, [9, 4, 0, 0, 0, 0], []), (.aload_n 0, 1, [], []), (.iconst 0, 1, [], []), (.putfield 179, 3, [9, 2, 0, 0, 0, 0], []), (.aload_n 0, 1, [], []), (.iconst (-1), 1, [], []), (.putfield 13, 3, [9, 3, 0, 0, 0, 0], []), (.aload_n 0, 1, [], []), (.iconst 0, 1, [], []), (.putfield 238, 3, [9, 37, 0, 0, 0, 0], []), (.aload_n 0, 1, [], []), (.iconst 0, 1, [], []), (.putfield 324, 3, [9, 38, 0, 0, 0, 0], []), (.aload_n 0, 1, [], []), (.iconst 0, 1, [], []), (.putfield 318, 3, [9, 41, 0, 0, 0, 0], []), (.aload_n 0, 1, [], []), (.iconst 1, 1, [], []), (.putfield 340, 3, [9, 39, 0, 0, 0, 0], []), (.aload_n 0, 1, [], []), (.iconst 0, 1, [], []), (.putfield 346, 3, [9, 40, 0, 0, 0, 0], []), (.aload_n 0, 1, [], []), (.iconst 0, 1, [], []), (.putfield 336, 3, [9, 44, 1, 0, 0, 0], []), (.aload_n 0, 1, [], []), (.iconst 0, 1, [], []), (.putfield 343, 3, [9, 45, 1, 0, 0, 0], []), (.aload_n 0, 1, [], []), (.getfield 45, 3, [9, 19, 4, 11, 3, 2], []), (.iconst 0, 1, [], []), (.iconst 0, 1, [], []), (.bastore, 1, [], []), (.aload_n 0, 1, [], []), (.getfield 45, 3, [9, 19, 4, 11, 3, 2], []), (.iconst 1, 1, [], []), (.iconst 0, 1, [], []), (.bastore, 1, [], []), (.aload_n 0, 1, [], []), (.iconst 0, 1, [], []), (.putfield 264, 3, [9, 22, 0, 0, 0, 0], []), (.aload_n 0, 1, [], []), (.invokevirtual 227, 3, [0], [])]),
  (86, [(.aload_n 0, 1, [], []), (.getfield 179, 3, [9, 2, 0, 0, 0, 0], []), (.ifCond .ne 17, 3, [107], []), (.aload_n 0, 1, [], []), (.getfield 166, 3, [9, 6, 0, 0, 0, 0], []), (.ifCond .eq 10, 3, [107], []), (.aload_n 0, 1, [], []), (.invokevirtual 349, 3, [1], []), (.goto (-18), 3, [86], [])]),
  (107, [(.return_, 1, [], [])])]
def Mo_readAll_cl : List (Instr × Nat) := [(.invokevirtual 227, 0), (.invokevirtual 349, 1)]
set_option maxRecDepth 20000 in
theorem Mo_readAll_ck : Mo_readAll_bk.all (fun b => ax_chB 9 1 cX9_readAll Mo_readAll_cl b.1 b.2) = true := by decide +kernel
def Mo_readAll_cs : Ct := (1, 10, 0, (0, 0), fun as σ => (match as with
    | [.inr (.inr (.inl (k, 0, 9)))] => Mo_readAll_pre k σ
    | _ => False), fun as σ r σ' => (match as with
    | [.inr (.inr (.inl (k, 0, 9)))] => Mo_readAll_post k σ σ'
    | _ => False))
theorem Mo_readAll_w : ∀ w ∈ ([.instanceMethod yX9_readAll, .selects yX9_readAll.cls yX9_readAll yX9_readAll, .initialized yX9_readAll.cls, .code yX9_readAll cX9_readAll 1 none] : List Cond), w ∈ ax_tb := ax_w4 (ax_m6 143 (by decide +kernel) rfl) (ax_m0 7 (by decide +kernel) rfl) (ax_m1 10 (by decide +kernel) rfl) (ax_m6 144 (by decide +kernel) rfl)
theorem Mo_readAll_ds : yX9_readAll.cls ≠ "java/lang/invoke/MethodHandle" ∧ yX9_readAll.cls ≠ "java/lang/invoke/VarHandle" ∧ (parseMethodDescriptor yX9_readAll.desc).map (fun d => d.parameters.length) = some 0 := by decide +kernel
def Mo_readAll_vc : Prop := ∀ (k : Nat) (σ : Hp), ax_H σ → Mo_readAll_pre k σ →
  ∀ σ1 : Hp, σ1 = hp σ k 5 (σ k 1) →
  ∀ σ2 : Hp, σ2 = hp σ1 k 1 0 →
  ∀ σ3 : Hp, σ3 = hp σ2 k 4 0 →
  ∀ σ4 : Hp, σ4 = hp σ3 k 2 0 →
  ∀ σ5 : Hp, σ5 = hp σ4 k 3 (-1) →
  ∀ σ6 : Hp, σ6 = hp σ5 k 37 0 →
  ∀ σ7 : Hp, σ7 = hp σ6 k 38 0 →
  ∀ σ8 : Hp, σ8 = hp σ7 k 41 0 →
  ∀ σ9 : Hp, σ9 = hp σ8 k 39 1 →
  ∀ σ10 : Hp, σ10 = hp σ9 k 40 0 →
  ((0 : Int) = 0 ∨ (0 : Int) = 1) ∧
  ∀ σ11 : Hp, σ11 = hp σ10 k 44 0 →
  ((0 : Int) = 0 ∨ (0 : Int) = 1) ∧
  ∀ σ12 : Hp, σ12 = hp σ11 k 45 0 →
  (0 ≤ (0 : Int) ∧ (0 : Int) < 2) ∧
  ((0 : Int) = 0 ∨ (0 : Int) = 1) ∧ ∀ σ13 : Hp, σ13 = hp σ12 (k + 11) 0 0 →
  (0 ≤ (1 : Int) ∧ (1 : Int) < 2) ∧
  ((0 : Int) = 0 ∨ (0 : Int) = 1) ∧ ∀ σ14 : Hp, σ14 = hp σ13 (k + 11) 1 0 →
  ∀ σ15 : Hp, σ15 = hp σ14 k 22 0 →
  Mo_token_pre k σ15 ∧
  ∀ σ16 : Hp, Mo_token_post k σ15 σ16 →
  ∃ n' : Nat, k = k ∧ Mo_readAll_I86 k σ n' σ16
def Mo_readAll_vc86 : Prop := ∀ (k : Nat) (σ0 : Hp), Mo_readAll_pre k σ0 → ∀ (n : Nat)  (σ : Hp), ax_H σ → Mo_readAll_I86 k σ0 n σ →
  (¬ σ k 2 = 0 →
    Mo_readAll_post k σ0 σ) ∧
  (¬ (¬ σ k 2 = 0) →
    (σ k 6 = 0 →
      Mo_readAll_post k σ0 σ) ∧
    (¬ (σ k 6 = 0) →
      Mo_readLine_pre k σ ∧
      ∀ σ1 : Hp, Mo_readLine_post k σ σ1 →
      ∃ n' : Nat, n' < n ∧ k = k ∧ Mo_readAll_I86 k σ0 n' σ1))
theorem Mo_readAll_p : Mo_readAll_vc := by
  intro k σ hH hp0
  obtain ⟨rfl, h1, h68⟩ := hp0
  intro σ1 e1 σ2 e2 σ3 e3 σ4 e4 σ5 e5 σ6 e6 σ7 e7 σ8 e8 σ9 e9 σ10 e10
  refine ⟨Or.inl rfl, ?_⟩
  intro σ11 e11
  refine ⟨Or.inl rfl, ?_⟩
  intro σ12 e12
  refine ⟨⟨by decide, by decide⟩, Or.inl rfl, ?_⟩
  intro σ13 e13
  refine ⟨⟨by decide, by decide⟩, Or.inl rfl, ?_⟩
  intro σ14 e14 σ15 e15
  have E : σ15 = hp (hp (hp (hp (hp (hp (hp (hp (hp (hp (hp (hp (hp (hp (hp σ 67 5 (σ 67 1)) 67 1 0) 67 4 0) 67 2 0) 67 3 (-1)) 67 37 0) 67 38 0) 67 41 0) 67 39 1) 67 40 0) 67 44 0) 67 45 0) 78 0 0) 78 1 0) 67 22 0 := by
    rw [e15, e14, e13, e12, e11, e10, e9, e8, e7, e6, e5, e4, e3, e2, e1]
  clear e1 e2 e3 e4 e5 e6 e7 e8 e9 e10 e11 e12 e13 e14 e15
  have rd : ∀ c j, σ15 c j = if c = 67 ∧ j = 22 then 0 else if c = 78 ∧ j = 1 then 0 else if c = 78 ∧ j = 0 then 0 else if c = 67 ∧ j = 45 then 0 else if c = 67 ∧ j = 44 then 0 else if c = 67 ∧ j = 40 then 0 else if c = 67 ∧ j = 39 then 1 else if c = 67 ∧ j = 41 then 0 else if c = 67 ∧ j = 38 then 0 else if c = 67 ∧ j = 37 then 0 else if c = 67 ∧ j = 3 then -1 else if c = 67 ∧ j = 2 then 0 else if c = 67 ∧ j = 4 then 0 else if c = 67 ∧ j = 1 then 0 else if c = 67 ∧ j = 5 then σ 67 1 else σ c j := fun c j => by
    rw [E]; simp only [hp_rd]
  have c68 : σ15 68 = σ 68 := by funext j; rw [rd]; simp
  have k5 : σ15 67 5 = σ 67 1 := by rw [rd]; simp
  have k4 : σ15 67 4 = 0 := by rw [rd]; simp
  have k2 : σ15 67 2 = 0 := by rw [rd]; simp
  have k3 : σ15 67 3 = -1 := by rw [rd]; simp
  have k1 : σ15 67 1 = 0 := by rw [rd]; simp
  have TB : TBm σ15 := ⟨by rw [k5]; exact h1, by rw [c68]; exact h68⟩
  have eB : tpR σ15 = tpM σ := by unfold tpR tpM; rw [k5, c68]
  have R15 : RFr σ σ15 := by
    refine ⟨fun c hc => ?_, fun j hj => ?_⟩
    · have n67 : ¬ c = 67 := fun z => hc (by simp [rcs, z])
      have n78 : ¬ c = 78 := fun z => hc (by simp [rcs, z])
      funext j
      rw [rd]
      simp [n67, n78]
    · rw [rd]
      rw [if_neg (by omega), if_neg (by omega), if_neg (by omega), if_neg (by omega), if_neg (by omega), if_neg (by omega), if_neg (by omega), if_neg (by omega), if_neg (by omega), if_neg (by omega), if_neg (by omega), if_neg (by omega), if_neg (by omega), if_neg (by omega), if_neg (by omega)]
  refine ⟨⟨rfl, TB, by rw [k4]; decide, by rw [k4, k5]; exact h1.1⟩, fun σ16 g => ?_⟩
  obtain ⟨T, M⟩ := g
  rw [eB, k4] at M
  have P15 : PM σ15 ps0 := by
    refine ⟨ok_ps0, ⟨by rw [rd]; simp; rfl, fun j hj => absurd hj (Nat.not_lt_zero j), by rw [rd]; simp; rfl, by rw [rd]; simp; rfl⟩, ⟨by rw [rd]; simp; rfl, by rw [rd]; simp; rfl, by rw [rd]; simp; rfl, by rw [rd]; simp; rfl⟩, ?_, ?_, ?_⟩
    · show σ15 78 0 = 0; rw [rd]; simp
    · show σ15 78 1 = 0; rw [rd]; simp
    · rw [rd]; simp; rfl
  refine ⟨_, rfl, ⟨R15.1.tr (T.1.mono (by simp [rcs])), fun j hj => by rw [T.2 j (by omega) (by omega) (by omega) (by omega) (by omega)]; exact R15.2 j hj⟩, by rw [T.2 1 (by decide) (by decide) (by decide) (by decide) (by decide)]; exact k1, rfl, Or.inr ⟨by rw [T.2 2 (by decide) (by decide) (by decide) (by decide) (by decide)]; exact k2, by rw [T.2 3 (by decide) (by decide) (by decide) (by decide) (by decide)]; exact k3, 0, 0, ps0, M, P15.rq T.rq, rfl⟩⟩
theorem Mo_readAll_p86 : Mo_readAll_vc86 := by
  intro k σ0 hp0 n σ hH hI
  obtain ⟨rfl, h1, h68⟩ := hp0
  obtain ⟨hF, h10, rfl, hU⟩ := hI
  refine ⟨fun h => ?_, fun h => ?_⟩
  · rcases hU with ⟨m, x, z1, z2⟩ | z
    · exact ⟨hF, h10, .inl x, ⟨trivial, m, z1⟩, z2⟩
    · exact absurd z.1 h
  · have h2 := Classical.not_not.mp h
    obtain ⟨-, h3, m, p, q, M, hP, hit⟩ : σ 67 2 = 0 ∧ σ 67 3 = -1 ∧ ∃ k p q, MT σ (tpM σ0) p ∧ PM σ q ∧ itl (tpM σ0) k (.inr (ps0, 0)) = .inr (q, p) := by
      rcases hU with ⟨m, x, z1, z2, -⟩ | z
      · omega
      · exact z
    refine ⟨fun h6 => ⟨hF, h10, .inr (q, p), ⟨srt_0.mp (by rw [← M.2.2.1]; exact h6), m, hit⟩, h2, h3, hP⟩, fun h6 => ?_⟩
    have hk : ¬ tK (tpM σ0) p = 0 := fun z => h6 (by rw [M.2.2.1]; exact srt_0.mpr z)
    obtain ⟨Mc, eB, ep⟩ := M.can
    refine ⟨⟨rfl, h2, Mc, q, hP⟩, fun σ1 g => ?_⟩
    obtain ⟨L1, hO⟩ := g
    have hO := hO q hP
    rw [eB, ep] at hO
    unfold LOm at hO
    rw [eB] at hO
    have step : lnS (tpM σ0) (.inr (q, p)) = ln (tpM σ0) (tS (tpM σ0) p) q := if_neg hk
    have F1 : RFr σ0 σ1 := ⟨hF.1.tr L1.1, fun j hj => by rw [L1.2 j (by unfold rfx; omega)]; exact hF.2 j hj⟩
    have e1 : σ1 67 1 = 0 := by rw [L1.2 1 (Or.inl rfl)]; exact h10
    have hb := M.b
    have hpl : plM σ ≤ 1600 := by rw [ep]; have := tS_R hb.1 hb.2; omega
    rw [if_pos h2]
    have hO' := hO
    unfold outM at hO'
    cases hln : ln (tpM σ0) (tS (tpM σ0) p) q with
    | inl x =>
      rw [hln] at hO'
      have : ¬ σ1 67 2 = 0 := by rw [hO'.2.2.1]; exact hO'.1
      refine ⟨0, by omega, rfl, F1, e1, by rw [if_neg this], Or.inl ⟨m + 1, x, itl_one hit (step.trans hln), ?_, hO'.2.2.1, hO'.2.2.2⟩⟩
      have h0 := hO'.2.1
      rw [hO'.2.2.1]
      have := hO'.1
      omega
    | inr x =>
      rw [hln] at hO'
      obtain ⟨⟨g1, g2, g3⟩, g4⟩ := hO'
      have adv := ln_adv hb.1 (tS_R hb.1 hb.2).2 hln
      have hb3 := g3.b
      have e7 : plM σ1 = tS (tpM σ0) x.2 := g3.can.2.2
      have := tS_R hb3.1 hb3.2
      refine ⟨2000 - plM σ1, by omega, rfl, F1, e1, by rw [if_pos g1], Or.inr ⟨g1, by rw [g2]; exact h3, m + 1, x.2, x.1, g3, g4, itl_one hit (step.trans hln)⟩⟩
def Mo_readAll_I : List AV → Hp → Nat → Nat → List AV → List AV → Hp → Prop := fun as σ0 pc n st ls σ => (match as with
    | [.inr (.inr (.inl (k, 0, 9)))] => (bif Nat.beq pc 86 then (match st, ls with
      | [], [.inr (.inr (.inl (k', 0, 9)))] => k = k' ∧ Mo_readAll_I86 k σ0 n σ
      | _, _ => False) else False)
    | _ => False)
def Mo_readAll_ct : Nat → Ct := fun n => match n with
  | 0 => Mo_token_cs
  | 1 => Mo_readLine_cs
  | _ => Mo_readAll_cs
set_option maxRecDepth 20000 in
set_option maxHeartbeats 4000000 in
theorem Mo_readAll_met {l : Launch} {D : va_G} {ad : Nat → Nat} {ca : Nat → ClassId} {L : Nat} {fx : Nat → Int} : ax_MC l D ad ca L fx yX9_readAll cX9_readAll 1 none 7 Mo_readAll_cs := by
  refine ax_met (oc := 9) (ct := Mo_readAll_ct) (calls := Mo_readAll_cl) (bs := Mo_readAll_bk) (cut := fun pc => Nat.beq pc 86) (f := 4) (I := Mo_readAll_I) (by decide) rfl rfl Mo_readAll_ck (List.forall_mem_cons.mpr ⟨ax_cwV Mo_token_met (by decide) (by decide) rfl (by decide) rfl (ax_m6 145 (by decide +kernel) rfl) Mo_token_w rfl Mo_token_ds, List.forall_mem_cons.mpr ⟨ax_cwV Mo_readLine_met (by decide) (by decide) rfl (by decide) rfl (ax_m6 162 (by decide +kernel) rfl) Mo_readLine_w rfl Mo_readLine_ds, fun _ h => absurd h List.not_mem_nil⟩⟩) ?_ ?_
  · intro as σ0 hp hH
    match as, hp with
    | [.inr (.inr (.inl (k, 0, 9)))], hp => exact ⟨rfl, Mo_readAll_p k σ0 hH hp⟩
  · intro as σ0 hp n pc st ls σ hH hI
    match as, hp, hI with
    | [.inr (.inr (.inl (k, 0, 9)))], hp, hI =>
      rcases ax_bifE hI with ⟨hpc, hI⟩ | ⟨-, hI⟩
      · have := Nat.eq_of_beq_eq_true hpc
        subst this
        match st, ls, hI with
        | [], [.inr (.inr (.inl (k', 0, 9)))], hI =>
          obtain ⟨rfl, hI⟩ := hI
          exact Mo_readAll_p86 k σ0 hp n σ hH hI
      exact False.elim hI
