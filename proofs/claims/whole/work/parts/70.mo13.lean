-- THE MODEL: sure, ask, silence
def Mo_sure_pre (k : Nat) (_a _b : Int) (σ : Hp) : Prop := k = 67 ∧ MP σ
def Mo_sure_post (_k : Nat) (a b : Int) (σ : Hp) (r : Int) (σ' : Hp) : Prop := MQo σ σ' ∧ ∀ d, s_sure (mA d σ) a b r (mA d σ')
def Mo_sure_I24 (_k : Nat) (a b : Int) (σ0 : Hp) (n : Nat) (v3 v4 : Int) (σ : Hp) : Prop := ∃ c : Nat, v4 = c ∧ c ≤ 100 ∧ n = 100 - c ∧ o01 a ∧ Fr fs σ0 σ ∧ (∀ d, ∀ c, c < 100 → σ 105 c = if fts (famM d σ0) (sgM σ0) b c = true then 1 else 0) ∧ ∀ d, (a = 0 → Lst (fun c => fts (famM d σ0) (sgM σ0) b c = true) c v3) ∧ (a = 1 → Gst (fun c => fts (famM d σ0) (sgM σ0) b c = true) c v3)
def Mo_sure_bk : List (Nat × List Item) := [(0, [(.iload_n 1, 1, [], []), (.iconst 0, 1, [], []), (.iconst 1, 1, [], []), (.invokestatic 379, 3, [0], []), (.ifCond .eq 11, 3, [17], []), (.aload_n 0, 1, [], []), (.iload_n 2, 1, [], []), (.invokevirtual 481, 3, [1], []), (.ifCond .ne 5, 3, [19], [])]),
  (17, [(.iconst (-1), 1, [], []), (.ireturn, 1, [], [])]),
  (19, [(.iconst (-1), 1, [], []), (.istore_n 3, 1, [], []), (.iconst 0, 1, [], []), (.istore 4, 2, [], [])]),
  (24, [(.iload 4, 2, [], []), (.bipush 99, 2, [], []), (.if_icmp .gt 31, 3, [59], []), (.aload_n 0, 1, [], []), (.getfield 130, 3, [9, 67, 4, 38, 3, 100], []), (.iload 4, 2, [], []), (.baload, 1, [], []), (.ifCond .eq 15, 3, [53], []), (.iload_n 3, 1, [], []), (.ifCond .lt 8, 3, [50], []), (.iload_n 1, 1, [], []), (.iconst 1, 1, [], []), (.if_icmp .ne 6, 3, [53], [])]),
  (50, [(.iload 4, 2, [], []), (.istore_n 3, 1, [], [])]),
  (53, [(.iinc 4 1, 3, [], []), (.goto (-32), 3, [24], [])]),
  (59, [(.iload_n 3, 1, [], []), (.ireturn, 1, [], [])])]
def Mo_sure_cl : List (Instr × Nat) := [(.invokestatic 379, 0), (.invokevirtual 481, 1)]
set_option maxRecDepth 20000 in
theorem Mo_sure_ck : Mo_sure_bk.all (fun b => ax_chB 9 5 cX9_sure Mo_sure_cl b.1 b.2) = true := by decide +kernel
def Mo_sure_cs : Ct := (3, 10, 1, (0, 0), fun as σ => (match as with
    | [.inr (.inr (.inl (k, 0, 9))), .inl a1, .inl a2] => Mo_sure_pre k a1 a2 σ
    | _ => False), fun as σ r σ' => (match as with
    | [.inr (.inr (.inl (k, 0, 9))), .inl a1, .inl a2] => Mo_sure_post k a1 a2 σ r σ'
    | _ => False))
theorem Mo_sure_w : ∀ w ∈ ([.instanceMethod yX9_sure, .selects yX9_sure.cls yX9_sure yX9_sure, .initialized yX9_sure.cls, .code yX9_sure cX9_sure 5 (some .int)] : List Cond), w ∈ ax_tb := ax_w4 (ax_m8 94 (by decide +kernel) rfl) (ax_m8 95 (by decide +kernel) rfl) (ax_m1 10 (by decide +kernel) rfl) (ax_m8 96 (by decide +kernel) rfl)
theorem Mo_sure_ds : yX9_sure.cls ≠ "java/lang/invoke/MethodHandle" ∧ yX9_sure.cls ≠ "java/lang/invoke/VarHandle" ∧ (parseMethodDescriptor yX9_sure.desc).map (fun d => d.parameters.length) = some 2 := by decide +kernel
def Mo_sure_vc : Prop := ∀ (k : Nat) (a1 : Int) (a2 : Int) (σ : Hp), ax_H σ → Mo_sure_pre k a1 a2 σ →
  Mo_isIn_pre a1 0 1 σ ∧
  ∀ (r2 : Int) (σ1 : Hp), Mo_isIn_post a1 0 1 σ r2 σ1 →
  (r2 = 0 →
    Mo_sure_post k a1 a2 σ (-1) σ1) ∧
  (¬ (r2 = 0) →
    Mo_layFits_pre k a2 σ1 ∧
    ∀ (r4 : Int) (σ3 : Hp), Mo_layFits_post k a2 σ1 r4 σ3 →
    (¬ r4 = 0 →
      ∃ n' : Nat, k = k ∧ a1 = a1 ∧ a2 = a2 ∧ Mo_sure_I24 k a1 a2 σ n' (-1) 0 σ3) ∧
    (¬ (¬ r4 = 0) →
      Mo_sure_post k a1 a2 σ (-1) σ3))
def Mo_sure_vc24 : Prop := ∀ (k : Nat) (a1 : Int) (a2 : Int) (σ0 : Hp), Mo_sure_pre k a1 a2 σ0 → ∀ (n : Nat) (v3 : Int) (v4 : Int) (σ : Hp), ax_H σ → Mo_sure_I24 k a1 a2 σ0 n v3 v4 σ →
  (99 < v4 →
    Mo_sure_post k a1 a2 σ0 v3 σ) ∧
  (¬ (99 < v4) →
    (0 ≤ v4 ∧ v4 < 100) ∧
    (σ (k + 38) v4.toNat = 0 →
      ∃ n' : Nat, n' < n ∧ k = k ∧ a1 = a1 ∧ a2 = a2 ∧ Mo_sure_I24 k a1 a2 σ0 n' v3 (wr (v4 + 1)) σ) ∧
    (¬ (σ (k + 38) v4.toNat = 0) →
      (v3 < 0 →
        ∃ n' : Nat, n' < n ∧ k = k ∧ a1 = a1 ∧ a2 = a2 ∧ Mo_sure_I24 k a1 a2 σ0 n' v4 (wr (v4 + 1)) σ) ∧
      (¬ (v3 < 0) →
        (¬ a1 = 1 →
          ∃ n' : Nat, n' < n ∧ k = k ∧ a1 = a1 ∧ a2 = a2 ∧ Mo_sure_I24 k a1 a2 σ0 n' v3 (wr (v4 + 1)) σ) ∧
        (¬ (¬ a1 = 1) →
          ∃ n' : Nat, n' < n ∧ k = k ∧ a1 = a1 ∧ a2 = a2 ∧ Mo_sure_I24 k a1 a2 σ0 n' v4 (wr (v4 + 1)) σ))))
theorem nfit_none {F : Fam} {G : Sgt} {k : Int} : ∀ m, nfit F G k m = 0 → ∀ j, j < m → ¬ fts F G k j = true := by
  intro m
  induction m with
  | zero => intro _ j hj; exact absurd hj (Nat.not_lt_zero j)
  | succ m ih =>
    intro h j hj z
    rw [nfit_s] at h
    by_cases e : j = m
    · subst e; rw [if_pos z] at h; omega
    · exact ih (by omega) j (by omega) z
theorem Mo_sure_p : Mo_sure_vc := by
  intro k a b σ hH hp
  obtain ⟨rfl, hP⟩ := hp
  refine ⟨trivial, ?_⟩
  rintro r2 σ1 ⟨rfl, rfl⟩
  refine ⟨fun h => om0 hP.1 (fun d => ?_), fun h => ⟨⟨rfl, hP⟩, ?_⟩⟩
  · have h' := ite0 h
    show if _ then _ else if _ then _ else _
    rw [if_neg (by omega), if_neg (by omega)]
  · have h' := ite1 h
    rintro r4 σ3 ⟨g1, g2, g3⟩
    refine ⟨fun h2 => ?_, fun h2 => om1 hP.1 g1 scm_fs (fun d => ?_)⟩
    · have hpos : 0 < (σ1 67 42).toNat := by
        by_cases z : 0 < (σ1 67 42).toNat
        · exact z
        · have en : fN (famM 0 σ1) = 0 := by show (σ1 67 42).toNat = 0; omega
          have := g2 0
          rw [nfit_n0 en] at this
          exact absurd this h2
      exact ⟨100, rfl, rfl, rfl, 0, rfl, by omega, rfl, by omega, g1, (g3 hpos).2, fun d => ⟨fun _ => Or.inr ⟨rfl, fun j hj => absurd hj (Nat.not_lt_zero j)⟩, fun _ => Or.inr ⟨rfl, fun j hj => absurd hj (Nat.not_lt_zero j)⟩⟩⟩
    · have h2' : r4 = 0 := Classical.not_not.mp h2
      have hz := nfit_none (F := famM d σ1) (G := sgM σ1) (k := b) 100 (by have := g2 d; omega)
      show if _ then _ else if _ then _ else _
      split
      · exact Or.inr ⟨rfl, hz⟩
      · split
        · exact Or.inr ⟨rfl, hz⟩
        · rfl
theorem Mo_sure_p24 : Mo_sure_vc24 := by
  intro k a b σ0 hp n v3 v4 σ hH hI
  obtain ⟨rfl, hP⟩ := hp
  obtain ⟨c, rfl, hc, rfl, ha, hf, hF, hL⟩ := hI
  refine ⟨fun h => om1 hP.1 hf scm_fs (fun d => ?_), fun h => ?_⟩
  · have ec : c = 100 := by omega
    subst ec
    show if _ then _ else if _ then _ else _
    by_cases z : a = 0
    · rw [if_pos z]; exact (hL d).1 z
    · rw [if_neg z, if_pos (by omega)]; exact (hL d).2 (by omega)
  · rw [Int.toNat_natCast, wr1 (by omega) (by omega), show (67 + 38 : Nat) = 105 from rfl]
    have keep : (∀ d, ¬ fts (famM d σ0) (sgM σ0) b c = true) → ∃ n' : Nat, n' < 100 - c ∧ (67 : Nat) = 67 ∧ a = a ∧ b = b ∧ Mo_sure_I24 67 a b σ0 n' v3 ((c : Int) + 1) σ := by
      intro hno
      refine ⟨100 - (c + 1), by omega, rfl, rfl, rfl, c + 1, by simp, by omega, rfl, ha, hf, hF, fun d => ⟨fun z => ?_, fun z => ?_⟩⟩
      · rcases (hL d).1 z with ⟨i, h1, h2, h3, h4⟩ | ⟨h1, h2⟩
        · exact Or.inl ⟨i, by omega, h2, h3, h4⟩
        · refine Or.inr ⟨h1, fun j hj => ?_⟩
          by_cases e : j = c
          · rw [e]; exact hno d
          · exact h2 j (by omega)
      · rcases (hL d).2 z with ⟨i, h1, h2, h3, h4⟩ | ⟨h1, h2⟩
        · refine Or.inl ⟨i, by omega, h2, h3, fun j h5 h6 => ?_⟩
          by_cases e : j = c
          · rw [e]; exact hno d
          · exact h4 j h5 (by omega)
        · refine Or.inr ⟨h1, fun j hj => ?_⟩
          by_cases e : j = c
          · rw [e]; exact hno d
          · exact h2 j (by omega)
    refine ⟨⟨by omega, by omega⟩, fun h2 => keep (fun d z => ?_), fun h2 => ?_⟩
    · rw [hF d c (by omega), if_pos z] at h2; omega
    · have hy : ∀ d, fts (famM d σ0) (sgM σ0) b c = true := fun d => Classical.byContradiction fun z => h2 (by rw [hF d c (by omega), if_neg z])
      have gst : ∀ d, Gst (fun c => fts (famM d σ0) (sgM σ0) b c = true) (c + 1) (c : Int) := fun d => Or.inl ⟨c, by omega, rfl, hy d, fun j h5 h6 => absurd h6 (by omega)⟩
      refine ⟨fun h3 => ⟨100 - (c + 1), by omega, rfl, rfl, rfl, c + 1, by simp, by omega, rfl, ha, hf, hF, fun d => ⟨fun z => ?_, fun _ => gst d⟩⟩, fun h3 => ⟨fun h4 => ⟨100 - (c + 1), by omega, rfl, rfl, rfl, c + 1, by simp, by omega, rfl, ha, hf, hF, fun d => ⟨fun z => ?_, fun z => absurd z h4⟩⟩, fun h4 => ⟨100 - (c + 1), by omega, rfl, rfl, rfl, c + 1, by simp, by omega, rfl, ha, hf, hF, fun d => ⟨fun z => absurd z (by omega), fun _ => gst d⟩⟩⟩⟩
      · rcases (hL d).1 z with ⟨i, h1, h2, h3', h4⟩ | ⟨h1, h2⟩
        · omega
        · exact Or.inl ⟨c, by omega, rfl, hy d, fun j hj => h2 j hj⟩
      · rcases (hL d).1 z with ⟨i, h1, h2, h3', h4⟩ | ⟨h1, h2⟩
        · exact Or.inl ⟨i, by omega, h2, h3', h4⟩
        · omega
def Mo_sure_I : List AV → Hp → Nat → Nat → List AV → List AV → Hp → Prop := fun as σ0 pc n st ls σ => (match as with
    | [.inr (.inr (.inl (k, 0, 9))), .inl a1, .inl a2] => (bif Nat.beq pc 24 then (match st, ls with
      | [], [.inr (.inr (.inl (k', 0, 9))), .inl a1', .inl a2', .inl v3, .inl v4] => k = k' ∧ a1 = a1' ∧ a2 = a2' ∧ Mo_sure_I24 k a1 a2 σ0 n v3 v4 σ
      | _, _ => False) else False)
    | _ => False)
def Mo_sure_ct : Nat → Ct := fun n => match n with
  | 0 => Mo_isIn_cs
  | 1 => Mo_layFits_cs
  | _ => Mo_sure_cs
set_option maxRecDepth 20000 in
set_option maxHeartbeats 4000000 in
theorem Mo_sure_met {l : Launch} {D : va_G} {ad : Nat → Nat} {ca : Nat → ClassId} {L : Nat} {fx : Nat → Int} : ax_MC l D ad ca L fx yX9_sure cX9_sure 5 (some .int) 9 Mo_sure_cs := by
  refine ax_met (oc := 9) (ct := Mo_sure_ct) (calls := Mo_sure_cl) (bs := Mo_sure_bk) (cut := fun pc => Nat.beq pc 24) (f := 8) (I := Mo_sure_I) (by decide) rfl rfl Mo_sure_ck (List.forall_mem_cons.mpr ⟨ax_cwS Mo_isIn_met (by decide) (by decide) (ax_m7 83 (by decide +kernel) rfl) Mo_isIn_w rfl Mo_isIn_ds, List.forall_mem_cons.mpr ⟨ax_cwV Mo_layFits_met (by decide) (by decide) rfl (by decide) rfl (ax_m8 85 (by decide +kernel) rfl) Mo_layFits_w rfl Mo_layFits_ds, fun _ h => absurd h List.not_mem_nil⟩⟩) ?_ ?_
  · intro as σ0 hp hH
    match as, hp with
    | [.inr (.inr (.inl (k, 0, 9))), .inl a1, .inl a2], hp => exact ⟨rfl, Mo_sure_p k a1 a2 σ0 hH hp⟩
  · intro as σ0 hp n pc st ls σ hH hI
    match as, hp, hI with
    | [.inr (.inr (.inl (k, 0, 9))), .inl a1, .inl a2], hp, hI =>
      rcases ax_bifE hI with ⟨hpc, hI⟩ | ⟨-, hI⟩
      · have := Nat.eq_of_beq_eq_true hpc
        subst this
        match st, ls, hI with
        | [], [.inr (.inr (.inl (k', 0, 9))), .inl a1', .inl a2', .inl v3, .inl v4], hI =>
          obtain ⟨rfl, rfl, rfl, hI⟩ := hI
          exact Mo_sure_p24 k a1 a2 σ0 hp n v3 v4 σ hH hI
      exact False.elim hI
def Mo_leftBy_pre (k : Nat) (a : Int) (σ : Hp) : Prop := k = 67 ∧ 0 ≤ a ∧ a < 10 ∧ 0 ≤ σ 67 42 ∧ σ 67 42 ≤ 6
def Mo_leftBy_post (_k : Nat) (a : Int) (σ : Hp) (r : Int) (σ' : Hp) : Prop := σ' = σ ∧ r = (mx (fun n => lc (σ 105) (σ 104) a.toNat ((n : Int) - 1) 100) ((σ 67 42).toNat + 1) : Nat)
def Mo_leftBy_I4 (_k : Nat) (a : Int) (σ0 : Hp) (m : Nat) (v2 v3 : Int) (σ : Hp) : Prop := ∃ n : Nat, v3 = (n : Int) - 1 ∧ n ≤ (σ0 67 42).toNat + 1 ∧ m = 200 * (8 - n) ∧ σ = σ0 ∧ v2 = (mx (fun n => lc (σ0 105) (σ0 104) a.toNat ((n : Int) - 1) 100) n : Nat)
def Mo_leftBy_I18 (_k : Nat) (a : Int) (σ0 : Hp) (m : Nat) (v2 v3 v4 v5 : Int) (σ : Hp) : Prop := ∃ n c : Nat, v3 = (n : Int) - 1 ∧ v5 = c ∧ n ≤ (σ0 67 42).toNat ∧ c ≤ 100 ∧ m = 200 * (7 - n) + (150 - c) ∧ σ = σ0 ∧ v2 = (mx (fun n => lc (σ0 105) (σ0 104) a.toNat ((n : Int) - 1) 100) n : Nat) ∧ v4 = (lc (σ0 105) (σ0 104) a.toNat ((n : Int) - 1) c : Nat)
def Mo_leftBy_bk : List (Nat × List Item) := [(0, [(.iconst 0, 1, [], []), (.istore_n 2, 1, [], []), (.iconst (-1), 1, [], []), (.istore_n 3, 1, [], [])]),
  (4, [(.iload_n 3, 1, [], []), (.aload_n 0, 1, [], []), (.getfield 304, 3, [9, 42, 0, 0, 0, 0], []), (.if_icmp .ge 80, 3, [89], []), (.iconst 0, 1, [], []), (.istore 4, 2, [], []), (.iconst 0, 1, [], []), (.istore 5, 2, [], [])]),
  (18, [(.iload 5, 2, [], []), (.bipush 99, 2, [], []), (.if_icmp .gt 48, 3, [70], []), (.iload 4, 2, [], []), (.aload_n 0, 1, [], []), (.getfield 130, 3, [9, 67, 4, 38, 3, 100], []), (.iload 5, 2, [], []), (.baload, 1, [], []), (.ifCond .eq 23, 3, [57], []), (.aload_n 0, 1, [], []), (.getfield 127, 3, [9, 66, 4, 37, 1, 1000], []), (.bipush 10, 2, [], []), (.iload 5, 2, [], []), (.imul, 1, [], []), (.iload_n 1, 1, [], []), (.iadd, 1, [], []), (.iaload, 1, [], []), (.iload_n 3, 1, [], []), (.if_icmp .ne 7, 3, [57], []), (.iconst 1, 1, [], []), (.goto 4, 3, [58], [])]),
  (57, [(.iconst 0, 1, [], [])]),
  (58, [(.invokestatic 300, 3, [0], []), (.iadd, 1, [], []), (.istore 4, 2, [], []), (.iinc 5 1, 3, [], []), (.goto (-49), 3, [18], [])]),
  (70, [(.iload 4, 2, [], []), (.iload_n 2, 1, [], []), (.if_icmp .le 8, 3, [81], []), (.iload 4, 2, [], []), (.goto 4, 3, [82], [])]),
  (81, [(.iload_n 2, 1, [], [])]),
  (82, [(.istore_n 2, 1, [], []), (.iinc 3 1, 3, [], []), (.goto (-82), 3, [4], [])]),
  (89, [(.iload_n 2, 1, [], []), (.ireturn, 1, [], [])])]
def Mo_leftBy_cl : List (Instr × Nat) := [(.invokestatic 300, 0)]
set_option maxRecDepth 20000 in
theorem Mo_leftBy_ck : Mo_leftBy_bk.all (fun b => ax_chB 9 6 cX9_leftBy Mo_leftBy_cl b.1 b.2) = true := by decide +kernel
def Mo_leftBy_cs : Ct := (2, 10, 1, (0, 0), fun as σ => (match as with
    | [.inr (.inr (.inl (k, 0, 9))), .inl a1] => Mo_leftBy_pre k a1 σ
    | _ => False), fun as σ r σ' => (match as with
    | [.inr (.inr (.inl (k, 0, 9))), .inl a1] => Mo_leftBy_post k a1 σ r σ'
    | _ => False))
theorem Mo_leftBy_w : ∀ w ∈ ([.instanceMethod yX9_leftBy, .selects yX9_leftBy.cls yX9_leftBy yX9_leftBy, .initialized yX9_leftBy.cls, .code yX9_leftBy cX9_leftBy 6 (some .int)] : List Cond), w ∈ ax_tb := ax_w4 (ax_m8 103 (by decide +kernel) rfl) (ax_m0 62 (by decide +kernel) rfl) (ax_m1 10 (by decide +kernel) rfl) (ax_m8 104 (by decide +kernel) rfl)
theorem Mo_leftBy_ds : yX9_leftBy.cls ≠ "java/lang/invoke/MethodHandle" ∧ yX9_leftBy.cls ≠ "java/lang/invoke/VarHandle" ∧ (parseMethodDescriptor yX9_leftBy.desc).map (fun d => d.parameters.length) = some 1 := by decide +kernel
def Mo_leftBy_vc : Prop := ∀ (k : Nat) (a1 : Int) (σ : Hp), ax_H σ → Mo_leftBy_pre k a1 σ →
  ∃ n' : Nat, k = k ∧ a1 = a1 ∧ Mo_leftBy_I4 k a1 σ n' 0 (-1) σ
def Mo_leftBy_vc4 : Prop := ∀ (k : Nat) (a1 : Int) (σ0 : Hp), Mo_leftBy_pre k a1 σ0 → ∀ (n : Nat) (v2 : Int) (v3 : Int) (σ : Hp), ax_H σ → Mo_leftBy_I4 k a1 σ0 n v2 v3 σ →
  (σ k 42 ≤ v3 →
    Mo_leftBy_post k a1 σ0 v2 σ) ∧
  (¬ (σ k 42 ≤ v3) →
    ∃ n' : Nat, n' < n ∧ k = k ∧ a1 = a1 ∧ Mo_leftBy_I18 k a1 σ0 n' v2 v3 0 0 σ)
def Mo_leftBy_vc18 : Prop := ∀ (k : Nat) (a1 : Int) (σ0 : Hp), Mo_leftBy_pre k a1 σ0 → ∀ (n : Nat) (v2 : Int) (v3 : Int) (v4 : Int) (v5 : Int) (σ : Hp), ax_H σ → Mo_leftBy_I18 k a1 σ0 n v2 v3 v4 v5 σ →
  (99 < v5 →
    (v4 ≤ v2 →
      ∃ n' : Nat, n' < n ∧ k = k ∧ a1 = a1 ∧ Mo_leftBy_I4 k a1 σ0 n' v2 (wr (v3 + 1)) σ) ∧
    (¬ (v4 ≤ v2) →
      ∃ n' : Nat, n' < n ∧ k = k ∧ a1 = a1 ∧ Mo_leftBy_I4 k a1 σ0 n' v4 (wr (v3 + 1)) σ)) ∧
  (¬ (99 < v5) →
    (0 ≤ v5 ∧ v5 < 100) ∧
    (σ (k + 38) v5.toNat = 0 →
      Mo_truth_pre 0 σ ∧
      ∀ (r2 : Int) (σ1 : Hp), Mo_truth_post 0 σ r2 σ1 →
      ∃ n' : Nat, n' < n ∧ k = k ∧ a1 = a1 ∧ Mo_leftBy_I18 k a1 σ0 n' v2 v3 (wr (v4 + r2)) (wr (v5 + 1)) σ1) ∧
    (¬ (σ (k + 38) v5.toNat = 0) →
      (0 ≤ wr ((wr (10 * v5)) + a1) ∧ wr ((wr (10 * v5)) + a1) < 1000) ∧
      (¬ σ (k + 37) (wr ((wr (10 * v5)) + a1)).toNat = v3 →
        Mo_truth_pre 0 σ ∧
        ∀ (r4 : Int) (σ3 : Hp), Mo_truth_post 0 σ r4 σ3 →
        ∃ n' : Nat, n' < n ∧ k = k ∧ a1 = a1 ∧ Mo_leftBy_I18 k a1 σ0 n' v2 v3 (wr (v4 + r4)) (wr (v5 + 1)) σ3) ∧
      (¬ (¬ σ (k + 37) (wr ((wr (10 * v5)) + a1)).toNat = v3) →
        Mo_truth_pre 1 σ ∧
        ∀ (r6 : Int) (σ5 : Hp), Mo_truth_post 1 σ r6 σ5 →
        ∃ n' : Nat, n' < n ∧ k = k ∧ a1 = a1 ∧ Mo_leftBy_I18 k a1 σ0 n' v2 v3 (wr (v4 + r6)) (wr (v5 + 1)) σ5)))
theorem mx_le {g : Nat → Nat} {b : Nat} (h : ∀ i, g i ≤ b) : ∀ n, mx g n ≤ b := by
  intro n
  induction n with
  | zero => exact Nat.zero_le _
  | succ n ih => rw [mx_s]; have := h n; omega
theorem Mo_leftBy_p : Mo_leftBy_vc := by
  intro k a σ hH hp
  exact ⟨1600, rfl, rfl, 0, rfl, Nat.zero_le _, rfl, rfl, rfl⟩
theorem Mo_leftBy_p4 : Mo_leftBy_vc4 := by
  intro k a σ0 hp m v2 v3 σ hH hI
  obtain ⟨rfl, a0, a9, hn⟩ := hp
  obtain ⟨n, rfl, h1, rfl, rfl, rfl⟩ := hI
  exact ⟨fun h => ⟨rfl, by rw [show n = (σ 67 42).toNat + 1 by omega]⟩, fun h => ⟨200 * (7 - n) + 150, by omega, rfl, rfl, n, 0, rfl, rfl, by omega, by omega, rfl, rfl, rfl, rfl⟩⟩
theorem Mo_leftBy_p18 : Mo_leftBy_vc18 := by
  intro k a σ0 hp m v2 v3 v4 v5 σ hH hI
  obtain ⟨rfl, a0, a9, hn⟩ := hp
  obtain ⟨n, c, rfl, rfl, h1, h2, rfl, rfl, rfl, rfl⟩ := hI
  have hl := lc_le (σ 105) (σ 104) a.toNat ((n : Int) - 1) c
  have eN : wr ((n : Int) - 1 + 1) = ((n + 1 : Nat) : Int) - 1 := by rw [wr_id (by omega) (by omega)]; omega
  refine ⟨fun h => ?_, fun h => ?_⟩
  · have ec : c = 100 := by omega
    subst ec
    rw [eN]
    refine ⟨fun h3 => ⟨200 * (8 - (n + 1)), by omega, rfl, rfl, n + 1, rfl, by omega, rfl, rfl, ?_⟩, fun h3 => ⟨200 * (8 - (n + 1)), by omega, rfl, rfl, n + 1, rfl, by omega, rfl, rfl, ?_⟩⟩
    · rw [mx_s]; omega
    · rw [mx_s]; omega
  · rw [wr_id (x := 10 * (c : Int)) (by omega) (by omega), wr_id (x := 10 * (c : Int) + a) (by omega) (by omega), wr1 (by omega) (by omega), Int.toNat_natCast, show (10 * (c : Int) + a).toNat = c * 10 + a.toNat by omega, show (67 + 38 : Nat) = 105 from rfl, show (67 + 37 : Nat) = 104 from rfl]
    have go : ∀ (w : Int), w = ((lc (σ 105) (σ 104) a.toNat ((n : Int) - 1) (c + 1) : Nat) : Int) → ∃ n' : Nat, n' < 200 * (7 - n) + (150 - c) ∧ (67 : Nat) = 67 ∧ a = a ∧ Mo_leftBy_I18 67 a σ n' ((mx (fun n => lc (σ 105) (σ 104) a.toNat ((n : Int) - 1) 100) n : Nat) : Int) ((n : Int) - 1) w ((c : Int) + 1) σ := fun w hw => ⟨200 * (7 - n) + (150 - (c + 1)), by omega, rfl, rfl, n, c + 1, rfl, by simp, h1, by omega, rfl, rfl, rfl, hw⟩
    refine ⟨⟨by omega, by omega⟩, fun h3 => ⟨trivial, ?_⟩, fun h3 => ⟨⟨by omega, by omega⟩, fun h4 => ⟨trivial, ?_⟩, fun h4 => ⟨trivial, ?_⟩⟩⟩
    · rintro r2 σ1 ⟨rfl, rfl⟩
      rw [tr0, wr_id (by omega) (by omega)]
      exact go _ (by rw [lc_s, if_neg (fun z => z.1 h3)]; omega)
    · rintro r2 σ1 ⟨rfl, rfl⟩
      rw [tr0, wr_id (by omega) (by omega)]
      exact go _ (by rw [lc_s, if_neg (fun z => h4 z.2)]; omega)
    · rintro r2 σ1 ⟨rfl, rfl⟩
      rw [tr1, wr_id (by omega) (by omega)]
      exact go _ (by rw [lc_s, if_pos ⟨h3, Classical.not_not.mp h4⟩]; omega)
def Mo_leftBy_I : List AV → Hp → Nat → Nat → List AV → List AV → Hp → Prop := fun as σ0 pc n st ls σ => (match as with
    | [.inr (.inr (.inl (k, 0, 9))), .inl a1] => (bif Nat.beq pc 4 then (match st, ls with
      | [], [.inr (.inr (.inl (k', 0, 9))), .inl a1', .inl v2, .inl v3, _, _] => k = k' ∧ a1 = a1' ∧ Mo_leftBy_I4 k a1 σ0 n v2 v3 σ
      | _, _ => False) else (bif Nat.beq pc 18 then (match st, ls with
      | [], [.inr (.inr (.inl (k', 0, 9))), .inl a1', .inl v2, .inl v3, .inl v4, .inl v5] => k = k' ∧ a1 = a1' ∧ Mo_leftBy_I18 k a1 σ0 n v2 v3 v4 v5 σ
      | _, _ => False) else False))
    | _ => False)
def Mo_leftBy_ct : Nat → Ct := fun n => match n with
  | 0 => Mo_truth_cs
  | _ => Mo_leftBy_cs
set_option maxRecDepth 20000 in
set_option maxHeartbeats 4000000 in
theorem Mo_leftBy_met {l : Launch} {D : va_G} {ad : Nat → Nat} {ca : Nat → ClassId} {L : Nat} {fx : Nat → Int} : ax_MC l D ad ca L fx yX9_leftBy cX9_leftBy 6 (some .int) 2 Mo_leftBy_cs := by
  refine ax_met (oc := 9) (ct := Mo_leftBy_ct) (calls := Mo_leftBy_cl) (bs := Mo_leftBy_bk) (cut := fun pc => Nat.beq pc 4 || Nat.beq pc 18) (f := 10) (I := Mo_leftBy_I) (by decide) rfl rfl Mo_leftBy_ck (List.forall_mem_cons.mpr ⟨ax_cwS Mo_truth_met (by decide) (by decide) (ax_m7 58 (by decide +kernel) rfl) Mo_truth_w rfl Mo_truth_ds, fun _ h => absurd h List.not_mem_nil⟩) ?_ ?_
  · intro as σ0 hp hH
    match as, hp with
    | [.inr (.inr (.inl (k, 0, 9))), .inl a1], hp => exact ⟨rfl, Mo_leftBy_p k a1 σ0 hH hp⟩
  · intro as σ0 hp n pc st ls σ hH hI
    match as, hp, hI with
    | [.inr (.inr (.inl (k, 0, 9))), .inl a1], hp, hI =>
      rcases ax_bifE hI with ⟨hpc, hI⟩ | ⟨-, hI⟩
      · have := Nat.eq_of_beq_eq_true hpc
        subst this
        match st, ls, hI with
        | [], [.inr (.inr (.inl (k', 0, 9))), .inl a1', .inl v2, .inl v3, _, _], hI =>
          obtain ⟨rfl, rfl, hI⟩ := hI
          exact Mo_leftBy_p4 k a1 σ0 hp n v2 v3 σ hH hI
      rcases ax_bifE hI with ⟨hpc, hI⟩ | ⟨-, hI⟩
      · have := Nat.eq_of_beq_eq_true hpc
        subst this
        match st, ls, hI with
        | [], [.inr (.inr (.inl (k', 0, 9))), .inl a1', .inl v2, .inl v3, .inl v4, .inl v5], hI =>
          obtain ⟨rfl, rfl, hI⟩ := hI
          exact Mo_leftBy_p18 k a1 σ0 hp n v2 v3 v4 v5 σ hH hI
      exact False.elim hI
theorem lcx {f f' h h' : Nat → Int} {d : Nat} {v : Int} : ∀ m, (∀ c, c < m → f c = f' c ∧ h (c * 10 + d) = h' (c * 10 + d)) → lc f h d v m = lc f' h' d v m := by
  intro m
  induction m with
  | zero => intro _; rfl
  | succ m ih => intro e; rw [lc_s, lc_s, ih (fun c hc => e c (by omega)), (e m (by omega)).1, (e m (by omega)).2]
theorem lc_none {f h : Nat → Int} {d : Nat} {v : Int} : ∀ m, (∀ c, c < m → ¬ h (c * 10 + d) = v) → lc f h d v m = 0 := by
  intro m
  induction m with
  | zero => intro _; rfl
  | succ m ih => intro e; rw [lc_s, ih (fun c hc => e c (by omega)), if_neg (fun z => e m (by omega) z.2)]
theorem mx_N {g : Nat → Nat} {n : Nat} (h : ∀ i, n ≤ i → i < 7 → g i = 0) : ∀ e, n + e ≤ 7 → mx g (n + e) = mx g n := by
  intro e
  induction e with
  | zero => intro _; rfl
  | succ e ih => intro he; rw [← Nat.add_assoc, mx_s, ih (by omega), h (n + e) (by omega) (by omega)]; omega
theorem left_lmP {σ0 σ : Hp} {b : Int} {x : Nat} (d : Int) (hn : (σ0 67 42).toNat ≤ 6) (hx : x < 10) (hr : rw0 σ0 σ 100) (hF : ∀ d, ∀ c, c < 100 → σ 105 c = if fts (famM d σ0) (sgM σ0) b c = true then 1 else 0) : mx (fun n => lc (σ 105) (σ 104) x ((n : Int) - 1) 100) ((σ0 67 42).toNat + 1) = lmP (famM d σ0) (sgM σ0) b x := by
  unfold lmP lmx
  have e1 : ∀ c, c < 100 → wsn (famM d σ0) ((c * 10 + x) / 10) ((c * 10 + x) % 10) = wsn (famM d σ0) c x := fun c hc => by
    rw [show (c * 10 + x) / 10 = c by omega, show (c * 10 + x) % 10 = x by omega]
  have e2 := mx_N (g := fun n => lc (fun c => if fts (famM d σ0) (sgM σ0) b c = true then 1 else 0) (fun i => wsn (famM d σ0) (i / 10) (i % 10)) x ((n : Int) - 1) 100) (n := (σ0 67 42).toNat + 1) (fun i h1 h2 => lc_none 100 (fun c hc z => by
    rw [e1 c hc] at z
    have := (wsn_R (famM d σ0) c x).2
    have eN : fN (famM d σ0) = (σ0 67 42).toNat := rfl
    omega)) (6 - (σ0 67 42).toNat) (by omega)
  rw [show (σ0 67 42).toNat + 1 + (6 - (σ0 67 42).toNat) = 7 by omega] at e2
  rw [e2]
  refine mx_ext _ (fun n _ => lcx 100 (fun c hc => ⟨hF d c hc, ?_⟩))
  rw [e1 c hc, show c * 10 + x = 10 * c + x by omega]
  exact hr d c hc x hx
def Mo_ask_pre (k : Nat) (_a _b : Int) (σ : Hp) : Prop := k = 67 ∧ MP σ
def Mo_ask_post (_k : Nat) (a b : Int) (σ : Hp) (r : Int) (σ' : Hp) : Prop := MQo σ σ' ∧ ∀ d, s_ask (mA d σ) a b r (mA d σ')
def Mo_ask_I24 (_k : Nat) (a b : Int) (σ0 : Hp) (n : Nat) (v3 v4 : Int) (σ : Hp) : Prop := ∃ i : Nat, v4 = (i : Int) + 1 ∧ i ≤ 9 ∧ n = 9 - i ∧ o01 a ∧ (∀ d, ¬ nfit (famM d σ0) (sgM σ0) b 100 = 0) ∧ Fr fs σ0 σ ∧ rw0 σ0 σ 100 ∧ (∀ d, ∀ c, c < 100 → σ 105 c = if fts (famM d σ0) (sgM σ0) b c = true then 1 else 0) ∧ ∀ d, v3 = (bdy (lmP (famM d σ0) (sgM σ0) b) i : Nat)
def Mo_ask_bk : List (Nat × List Item) := [(0, [(.iload_n 1, 1, [], []), (.iconst 0, 1, [], []), (.iconst 1, 1, [], []), (.invokestatic 379, 3, [0], []), (.ifCond .eq 11, 3, [17], []), (.aload_n 0, 1, [], []), (.iload_n 2, 1, [], []), (.invokevirtual 481, 3, [1], []), (.ifCond .ne 5, 3, [19], [])]),
  (17, [(.iconst (-1), 1, [], []), (.ireturn, 1, [], [])]),
  (19, [(.iconst 0, 1, [], []), (.istore_n 3, 1, [], []), (.iconst 1, 1, [], []), (.istore 4, 2, [], [])]),
  (24, [(.iload 4, 2, [], []), (.bipush 10, 2, [], []), (.if_icmp .ge 30, 3, [58], []), (.aload_n 0, 1, [], []), (.iload 4, 2, [], []), (.invokevirtual 484, 3, [2], []), (.aload_n 0, 1, [], []), (.iload_n 3, 1, [], []), (.invokevirtual 484, 3, [2], []), (.if_icmp .ge 8, 3, [50], []), (.iload 4, 2, [], []), (.goto 4, 3, [51], [])]),
  (50, [(.iload_n 3, 1, [], [])]),
  (51, [(.istore_n 3, 1, [], []), (.iinc 4 1, 3, [], []), (.goto (-31), 3, [24], [])]),
  (58, [(.iload_n 1, 1, [], []), (.ifCond .ne 7, 3, [66], []), (.iload_n 3, 1, [], []), (.goto 8, 3, [71], [])]),
  (66, [(.aload_n 0, 1, [], []), (.iload_n 3, 1, [], []), (.invokevirtual 484, 3, [2], [])]),
  (71, [(.ireturn, 1, [], [])])]
def Mo_ask_cl : List (Instr × Nat) := [(.invokestatic 379, 0), (.invokevirtual 481, 1), (.invokevirtual 484, 2)]
set_option maxRecDepth 20000 in
theorem Mo_ask_ck : Mo_ask_bk.all (fun b => ax_chB 9 5 cX9_ask Mo_ask_cl b.1 b.2) = true := by decide +kernel
def Mo_ask_cs : Ct := (3, 10, 1, (0, 0), fun as σ => (match as with
    | [.inr (.inr (.inl (k, 0, 9))), .inl a1, .inl a2] => Mo_ask_pre k a1 a2 σ
    | _ => False), fun as σ r σ' => (match as with
    | [.inr (.inr (.inl (k, 0, 9))), .inl a1, .inl a2] => Mo_ask_post k a1 a2 σ r σ'
    | _ => False))
theorem Mo_ask_w : ∀ w ∈ ([.instanceMethod yX9_ask, .selects yX9_ask.cls yX9_ask yX9_ask, .initialized yX9_ask.cls, .code yX9_ask cX9_ask 5 (some .int)] : List Cond), w ∈ ax_tb := ax_w4 (ax_m8 98 (by decide +kernel) rfl) (ax_m8 99 (by decide +kernel) rfl) (ax_m1 10 (by decide +kernel) rfl) (ax_m8 100 (by decide +kernel) rfl)
theorem Mo_ask_ds : yX9_ask.cls ≠ "java/lang/invoke/MethodHandle" ∧ yX9_ask.cls ≠ "java/lang/invoke/VarHandle" ∧ (parseMethodDescriptor yX9_ask.desc).map (fun d => d.parameters.length) = some 2 := by decide +kernel
def Mo_ask_vc : Prop := ∀ (k : Nat) (a1 : Int) (a2 : Int) (σ : Hp), ax_H σ → Mo_ask_pre k a1 a2 σ →
  Mo_isIn_pre a1 0 1 σ ∧
  ∀ (r2 : Int) (σ1 : Hp), Mo_isIn_post a1 0 1 σ r2 σ1 →
  (r2 = 0 →
    Mo_ask_post k a1 a2 σ (-1) σ1) ∧
  (¬ (r2 = 0) →
    Mo_layFits_pre k a2 σ1 ∧
    ∀ (r4 : Int) (σ3 : Hp), Mo_layFits_post k a2 σ1 r4 σ3 →
    (¬ r4 = 0 →
      ∃ n' : Nat, k = k ∧ a1 = a1 ∧ a2 = a2 ∧ Mo_ask_I24 k a1 a2 σ n' 0 1 σ3) ∧
    (¬ (¬ r4 = 0) →
      Mo_ask_post k a1 a2 σ (-1) σ3))
def Mo_ask_vc24 : Prop := ∀ (k : Nat) (a1 : Int) (a2 : Int) (σ0 : Hp), Mo_ask_pre k a1 a2 σ0 → ∀ (n : Nat) (v3 : Int) (v4 : Int) (σ : Hp), ax_H σ → Mo_ask_I24 k a1 a2 σ0 n v3 v4 σ →
  (10 ≤ v4 →
    (¬ a1 = 0 →
      Mo_leftBy_pre k v3 σ ∧
      ∀ (r2 : Int) (σ1 : Hp), Mo_leftBy_post k v3 σ r2 σ1 →
      Mo_ask_post k a1 a2 σ0 r2 σ1) ∧
    (¬ (¬ a1 = 0) →
      Mo_ask_post k a1 a2 σ0 v3 σ)) ∧
  (¬ (10 ≤ v4) →
    Mo_leftBy_pre k v4 σ ∧
    ∀ (r4 : Int) (σ3 : Hp), Mo_leftBy_post k v4 σ r4 σ3 →
    Mo_leftBy_pre k v3 σ3 ∧
    ∀ (r6 : Int) (σ5 : Hp), Mo_leftBy_post k v3 σ3 r6 σ5 →
    (r6 ≤ r4 →
      ∃ n' : Nat, n' < n ∧ k = k ∧ a1 = a1 ∧ a2 = a2 ∧ Mo_ask_I24 k a1 a2 σ0 n' v3 (wr (v4 + 1)) σ5) ∧
    (¬ (r6 ≤ r4) →
      ∃ n' : Nat, n' < n ∧ k = k ∧ a1 = a1 ∧ a2 = a2 ∧ Mo_ask_I24 k a1 a2 σ0 n' v4 (wr (v4 + 1)) σ5))
theorem Mo_ask_p : Mo_ask_vc := by
  intro k a b σ hH hp
  obtain ⟨rfl, hP⟩ := hp
  refine ⟨trivial, ?_⟩
  rintro r2 σ1 ⟨rfl, rfl⟩
  refine ⟨fun h => om0 hP.1 (fun d => ?_), fun h => ⟨⟨rfl, hP⟩, ?_⟩⟩
  · have h' := ite0 h
    show _ = _
    rw [if_neg (fun z => h' (by have := z.1; omega))]
  · have h' := ite1 h
    rintro r4 σ3 ⟨g1, g2, g3⟩
    refine ⟨fun h2 => ?_, fun h2 => om1 hP.1 g1 scm_fs (fun d => ?_)⟩
    · have hpos : 0 < (σ1 67 42).toNat := by
        by_cases z : 0 < (σ1 67 42).toNat
        · exact z
        · have en : fN (famM 0 σ1) = 0 := by show (σ1 67 42).toNat = 0; omega
          have := g2 0
          rw [nfit_n0 en] at this
          exact absurd this h2
      exact ⟨9, rfl, rfl, rfl, 0, rfl, by omega, rfl, by omega, fun d => by have := g2 d; omega, g1, (g3 hpos).1, (g3 hpos).2, fun d => rfl⟩
    · have h2' : r4 = 0 := Classical.not_not.mp h2
      show _ = _
      rw [if_neg (fun z => z.2 (by have := g2 d; show nfit (famM d σ1) (sgM σ1) b 100 = 0; omega))]
theorem Mo_ask_p24 : Mo_ask_vc24 := by
  intro k a b σ0 hp n v3 v4 σ hH hI
  obtain ⟨rfl, hP⟩ := hp
  obtain ⟨i, rfl, hi, rfl, ha, hnz, hf, hr, hF, hv⟩ := hI
  have hn := hP.n6
  have e67 : σ 67 = σ0 67 := hf 67 (by decide)
  have hb := bdy_le (lmP (famM 0 σ0) (sgM σ0) b) i
  have hv0 := hv 0
  have L : ∀ d x, x < 10 → mx (fun n => lc (σ 105) (σ 104) x ((n : Int) - 1) 100) ((σ 67 42).toNat + 1) = lmP (famM d σ0) (sgM σ0) b x := fun d x hx => by
    rw [e67]; exact left_lmP d (by omega) hx hr hF
  have pre : ∀ v : Int, 0 ≤ v → v < 10 → Mo_leftBy_pre 67 v σ := fun v a b => ⟨rfl, a, b, by rw [e67]; exact hn⟩
  have cond : ∀ d, o01 a ∧ ¬ nfit (aF (mA d σ0)) (aG (mA d σ0)) b 100 = 0 := fun d => ⟨ha, hnz d⟩
  refine ⟨fun h => ⟨fun h2 => ⟨pre v3 (by omega) (by omega), ?_⟩, fun h2 => om1 hP.1 hf scm_fs (fun d => ?_)⟩, fun h => ⟨pre _ (by omega) (by omega), ?_⟩⟩
  · rintro r2 σ1 ⟨rfl, rfl⟩
    refine om1 hP.1 hf scm_fs (fun d => ?_)
    have ei : i = 9 := by omega
    subst ei
    have hbd := bdy_le (lmP (famM d σ0) (sgM σ0) b) 9
    have hvd := hv d
    show _ = _
    rw [if_pos (cond d), if_neg h2, show v3.toNat = bdy (lmP (famM d σ0) (sgM σ0) b) 9 by omega, L d _ (by omega)]
    rfl
  · have ei : i = 9 := by omega
    subst ei
    show _ = _
    rw [if_pos (cond d), if_pos (Classical.not_not.mp h2), hv d]; rfl
  · rintro r4 σ3 ⟨rfl, rfl⟩
    refine ⟨pre v3 (by omega) (by omega), ?_⟩
    rintro r6 σ5 ⟨rfl, rfl⟩
    rw [wr1 (by omega) (by omega), show ((i : Int) + 1).toNat = i + 1 by omega]
    refine ⟨fun h3 => ⟨9 - (i + 1), by omega, rfl, rfl, rfl, i + 1, by simp, by omega, rfl, ha, hnz, hf, hr, hF, fun d => ?_⟩, fun h3 => ⟨9 - (i + 1), by omega, rfl, rfl, rfl, i + 1, by simp, by omega, rfl, ha, hnz, hf, hr, hF, fun d => ?_⟩⟩
    · have hbd := bdy_le (lmP (famM d σ0) (sgM σ0) b) i
      have hvd := hv d
      rw [show v3.toNat = bdy (lmP (famM d σ0) (sgM σ0) b) i by omega, L d _ (by omega), L d _ (by omega)] at h3
      rw [bdy_s, if_neg (by omega)]; exact hvd
    · have hbd := bdy_le (lmP (famM d σ0) (sgM σ0) b) i
      have hvd := hv d
      rw [show v3.toNat = bdy (lmP (famM d σ0) (sgM σ0) b) i by omega, L d _ (by omega), L d _ (by omega)] at h3
      rw [bdy_s, if_pos (by omega)]; simp
def Mo_ask_I : List AV → Hp → Nat → Nat → List AV → List AV → Hp → Prop := fun as σ0 pc n st ls σ => (match as with
    | [.inr (.inr (.inl (k, 0, 9))), .inl a1, .inl a2] => (bif Nat.beq pc 24 then (match st, ls with
      | [], [.inr (.inr (.inl (k', 0, 9))), .inl a1', .inl a2', .inl v3, .inl v4] => k = k' ∧ a1 = a1' ∧ a2 = a2' ∧ Mo_ask_I24 k a1 a2 σ0 n v3 v4 σ
      | _, _ => False) else False)
    | _ => False)
def Mo_ask_ct : Nat → Ct := fun n => match n with
  | 0 => Mo_isIn_cs
  | 1 => Mo_layFits_cs
  | 2 => Mo_leftBy_cs
  | _ => Mo_ask_cs
set_option maxRecDepth 20000 in
set_option maxHeartbeats 4000000 in
theorem Mo_ask_met {l : Launch} {D : va_G} {ad : Nat → Nat} {ca : Nat → ClassId} {L : Nat} {fx : Nat → Int} : ax_MC l D ad ca L fx yX9_ask cX9_ask 5 (some .int) 9 Mo_ask_cs := by
  refine ax_met (oc := 9) (ct := Mo_ask_ct) (calls := Mo_ask_cl) (bs := Mo_ask_bk) (cut := fun pc => Nat.beq pc 24) (f := 10) (I := Mo_ask_I) (by decide) rfl rfl Mo_ask_ck (List.forall_mem_cons.mpr ⟨ax_cwS Mo_isIn_met (by decide) (by decide) (ax_m7 83 (by decide +kernel) rfl) Mo_isIn_w rfl Mo_isIn_ds, List.forall_mem_cons.mpr ⟨ax_cwV Mo_layFits_met (by decide) (by decide) rfl (by decide) rfl (ax_m8 85 (by decide +kernel) rfl) Mo_layFits_w rfl Mo_layFits_ds, List.forall_mem_cons.mpr ⟨ax_cwV Mo_leftBy_met (by decide) (by decide) rfl (by decide) rfl (ax_m8 101 (by decide +kernel) rfl) Mo_leftBy_w rfl Mo_leftBy_ds, fun _ h => absurd h List.not_mem_nil⟩⟩⟩) ?_ ?_
  · intro as σ0 hp hH
    match as, hp with
    | [.inr (.inr (.inl (k, 0, 9))), .inl a1, .inl a2], hp => exact ⟨rfl, Mo_ask_p k a1 a2 σ0 hH hp⟩
  · intro as σ0 hp n pc st ls σ hH hI
    match as, hp, hI with
    | [.inr (.inr (.inl (k, 0, 9))), .inl a1, .inl a2], hp, hI =>
      rcases ax_bifE hI with ⟨hpc, hI⟩ | ⟨-, hI⟩
      · have := Nat.eq_of_beq_eq_true hpc
        subst this
        match st, ls, hI with
        | [], [.inr (.inr (.inl (k', 0, 9))), .inl a1', .inl a2', .inl v3, .inl v4], hI =>
          obtain ⟨rfl, rfl, rfl, hI⟩ := hI
          exact Mo_ask_p24 k a1 a2 σ0 hp n v3 v4 σ hH hI
      exact False.elim hI
/-- one more set is looked at -/
theorem Bst.no {P : Nat → Prop} {n : Nat} {r : Int} (h : Bst P n r) (g : ¬ P n) : Bst P (n + 1) r := by
  rcases h with ⟨x, h1, h2, h3, h4⟩ | ⟨h1, h2⟩
  · refine Or.inl ⟨x, by omega, h2, h3, fun y hy py => ?_⟩
    by_cases e : y = n
    · rw [e] at py; exact absurd py g
    · exact h4 y (by omega) py
  · refine Or.inr ⟨h1, fun y hy => ?_⟩
    by_cases e : y = n
    · rw [e]; exact g
    · exact h2 y (by omega)
theorem Bst.old {P : Nat → Prop} {n : Nat} {r : Int} (h : Bst P n r) (h0 : 0 ≤ r) (g : ¬ pc n < pc r.toNat) : Bst P (n + 1) r := by
  rcases h with ⟨x, h1, h2, h3, h4⟩ | ⟨h1, h2⟩
  · refine Or.inl ⟨x, by omega, h2, h3, fun y hy py => ?_⟩
    by_cases e : y = n
    · rw [show r.toNat = x by omega] at g
      rw [e]; omega
    · exact h4 y (by omega) py
  · omega
theorem Bst.new {P : Nat → Prop} {n : Nat} {r : Int} (h : Bst P n r) (g : P n) (hb : r < 0 ∨ pc n < pc r.toNat) : Bst P (n + 1) (n : Int) := by
  refine Or.inl ⟨n, by omega, rfl, g, fun y hy py => ?_⟩
  by_cases e : y = n
  · rw [e]; omega
  · rcases h with ⟨x, h1, h2, h3, h4⟩ | ⟨h1, h2⟩
    · have := h4 y (by omega) py
      rw [show r.toNat = x by omega] at hb
      omega
    · exact absurd py (h2 y (by omega))
theorem Bst.wide {P : Nat → Prop} {n m : Nat} {r : Int} (h : Bst P n r) (hm : n ≤ m) (g : ∀ y, P y → y < n) : Bst P m r := by
  rcases h with ⟨x, h1, h2, h3, h4⟩ | ⟨h1, h2⟩
  · exact Or.inl ⟨x, by omega, h2, h3, fun y _ py => h4 y (g y py) py⟩
  · exact Or.inr ⟨h1, fun y _ py => h2 y (g y py) py⟩
theorem ndf_le {x m : Nat} (h : ndf x m = 0) : x ≤ m := by
  have : x = x &&& m := by
    apply Nat.eq_of_testBit_eq
    intro j
    have h2 := congrArg (fun z => z.testBit j) h
    simp only [ndf_t, Nat.zero_testBit] at h2
    rw [Nat.testBit_and]
    cases hx : x.testBit j <;> cases hm : m.testBit j <;> simp_all
  rw [this]
  exact Nat.and_le_right
def Mo_silence_pre (k : Nat) (_a _b : Int) (σ : Hp) : Prop := k = 67 ∧ MP σ
def Mo_silence_post (_k : Nat) (a b : Int) (σ : Hp) (r : Int) (σ' : Hp) : Prop := MQo σ σ' ∧ ∀ d, s_silence (mA d σ) a b r (mA d σ')
def Mo_silence_I35 (_k : Nat) (a b : Int) (σ0 : Hp) (n : Nat) (v3 v4 v5 : Int) (σ : Hp) : Prop := ∃ x : Nat, v5 = x ∧ v4 = (nowM σ0).2.1 a.toNat ∧ (x : Int) ≤ v4 + 1 ∧ n = 65 - x ∧ (0 ≤ a ∧ a < (((σ0 67 42).toNat : Nat) : Int)) ∧ o01 b ∧ Fr af σ0 σ ∧ ∀ d, Bst (silP (famM d σ0) (nowM σ0) a.toNat) x v3
def Mo_silence_bk : List (Nat × List Item) := [(0, [(.aload_n 0, 1, [], []), (.iload_n 1, 1, [], []), (.invokevirtual 398, 3, [0], []), (.ifCond .eq 12, 3, [17], []), (.iload_n 2, 1, [], []), (.iconst 0, 1, [], []), (.iconst 1, 1, [], []), (.invokestatic 379, 3, [1], []), (.ifCond .ne 5, 3, [19], [])]),
  (17, [(.iconst (-1), 1, [], []), (.ireturn, 1, [], [])]),
  (19, [(.iconst (-1), 1, [], []), (.istore_n 3, 1, [], []), (.aload_n 0, 1, [], []), (.getfield 85, 3, [9, 46, 4, 23, 1, 16], []), (.bipush 6, 2, [], []), (.iload_n 1, 1, [], []), (.iadd, 1, [], []), (.iaload, 1, [], []), (.istore 4, 2, [], []), (.iconst 0, 1, [], []), (.istore 5, 2, [], [])]),
  (35, [(.iload 5, 2, [], []), (.iload 4, 2, [], []), (.if_icmp .gt 70, 3, [109], []), (.iload 5, 2, [], []), (.iload 4, 2, [], []), (.iconst (-1), 1, [], []), (.ixor, 1, [], []), (.iand, 1, [], []), (.ifCond .ne 54, 3, [103], []), (.iload_n 3, 1, [], []), (.ifCond .lt 18, 3, [71], []), (.iload 5, 2, [], []), (.invokestatic 416, 3, [2], []), (.iload_n 3, 1, [], []), (.invokestatic 416, 3, [2], []), (.if_icmp .lt 6, 3, [71], []), (.goto 35, 3, [103], [])]),
  (71, [(.aload_n 0, 1, [], []), (.invokevirtual 401, 3, [3], []), (.aload_n 0, 1, [], []), (.getfield 88, 3, [9, 47, 4, 24, 1, 16], []), (.bipush 6, 2, [], []), (.iload_n 1, 1, [], []), (.iadd, 1, [], []), (.dup2, 1, [], []), (.iaload, 1, [], []), (.iload 5, 2, [], []), (.iconst (-1), 1, [], []), (.ixor, 1, [], []), (.iand, 1, [], []), (.iastore, 1, [], []), (.aload_n 0, 1, [], []), (.iload_n 1, 1, [], []), (.iconst 1, 1, [], []), (.invokevirtual 441, 3, [4], []), (.ifCond .eq 6, 3, [103], []), (.iload 5, 2, [], []), (.istore_n 3, 1, [], [])]),
  (103, [(.iinc 5 1, 3, [], []), (.goto (-71), 3, [35], [])]),
  (109, [(.iload_n 3, 1, [], []), (.ifCond .ge 7, 3, [117], []), (.iconst (-1), 1, [], []), (.goto 15, 3, [129], [])]),
  (117, [(.iload_n 2, 1, [], []), (.ifCond .ne 10, 3, [128], []), (.iload_n 3, 1, [], []), (.invokestatic 416, 3, [2], []), (.goto 4, 3, [129], [])]),
  (128, [(.iload_n 3, 1, [], [])]),
  (129, [(.ireturn, 1, [], [])])]
def Mo_silence_cl : List (Instr × Nat) := [(.invokevirtual 398, 0), (.invokestatic 379, 1), (.invokestatic 416, 2), (.invokevirtual 401, 3), (.invokevirtual 441, 4)]
set_option maxRecDepth 20000 in
theorem Mo_silence_ck : Mo_silence_bk.all (fun b => ax_chB 9 6 cX9_silence Mo_silence_cl b.1 b.2) = true := by decide +kernel
def Mo_silence_cs : Ct := (3, 10, 1, (0, 0), fun as σ => (match as with
    | [.inr (.inr (.inl (k, 0, 9))), .inl a1, .inl a2] => Mo_silence_pre k a1 a2 σ
    | _ => False), fun as σ r σ' => (match as with
    | [.inr (.inr (.inl (k, 0, 9))), .inl a1, .inl a2] => Mo_silence_post k a1 a2 σ r σ'
    | _ => False))
theorem Mo_silence_w : ∀ w ∈ ([.instanceMethod yX9_silence, .selects yX9_silence.cls yX9_silence yX9_silence, .initialized yX9_silence.cls, .code yX9_silence cX9_silence 6 (some .int)] : List Cond), w ∈ ax_tb := ax_w4 (ax_m8 53 (by decide +kernel) rfl) (ax_m8 54 (by decide +kernel) rfl) (ax_m1 10 (by decide +kernel) rfl) (ax_m8 55 (by decide +kernel) rfl)
theorem Mo_silence_ds : yX9_silence.cls ≠ "java/lang/invoke/MethodHandle" ∧ yX9_silence.cls ≠ "java/lang/invoke/VarHandle" ∧ (parseMethodDescriptor yX9_silence.desc).map (fun d => d.parameters.length) = some 2 := by decide +kernel
def Mo_silence_vc : Prop := ∀ (k : Nat) (a1 : Int) (a2 : Int) (σ : Hp), ax_H σ → Mo_silence_pre k a1 a2 σ →
  Mo_isPerson_pre k a1 σ ∧
  ∀ (r2 : Int) (σ1 : Hp), Mo_isPerson_post k a1 σ r2 σ1 →
  (r2 = 0 →
    Mo_silence_post k a1 a2 σ (-1) σ1) ∧
  (¬ (r2 = 0) →
    Mo_isIn_pre a2 0 1 σ1 ∧
    ∀ (r4 : Int) (σ3 : Hp), Mo_isIn_post a2 0 1 σ1 r4 σ3 →
    (¬ r4 = 0 →
      (0 ≤ wr (6 + a1) ∧ wr (6 + a1) < 16) ∧
      ∃ n' : Nat, k = k ∧ a1 = a1 ∧ a2 = a2 ∧ Mo_silence_I35 k a1 a2 σ n' (-1) (σ3 (k + 23) (wr (6 + a1)).toNat) 0 σ3) ∧
    (¬ (¬ r4 = 0) →
      Mo_silence_post k a1 a2 σ (-1) σ3))
def Mo_silence_vc35 : Prop := ∀ (k : Nat) (a1 : Int) (a2 : Int) (σ0 : Hp), Mo_silence_pre k a1 a2 σ0 → ∀ (n : Nat) (v3 : Int) (v4 : Int) (v5 : Int) (σ : Hp), ax_H σ → Mo_silence_I35 k a1 a2 σ0 n v3 v4 v5 σ →
  (v4 < v5 →
    (0 ≤ v3 →
      (¬ a2 = 0 →
        Mo_silence_post k a1 a2 σ0 v3 σ) ∧
      (¬ (¬ a2 = 0) →
        Mo_members_pre v3 σ ∧
        ∀ (r2 : Int) (σ1 : Hp), Mo_members_post v3 σ r2 σ1 →
        Mo_silence_post k a1 a2 σ0 r2 σ1)) ∧
    (¬ (0 ≤ v3) →
      Mo_silence_post k a1 a2 σ0 (-1) σ)) ∧
  (¬ (v4 < v5) →
    (¬ iAnd v5 (iXor v4 (-1)) = 0 →
      ∃ n' : Nat, n' < n ∧ k = k ∧ a1 = a1 ∧ a2 = a2 ∧ Mo_silence_I35 k a1 a2 σ0 n' v3 v4 (wr (v5 + 1)) σ) ∧
    (¬ (¬ iAnd v5 (iXor v4 (-1)) = 0) →
      (v3 < 0 →
        Mo_load_pre k σ ∧
        ∀ σ3 : Hp, Mo_load_post k σ σ3 →
        (0 ≤ wr (6 + a1) ∧ wr (6 + a1) < 16) ∧
        (0 ≤ wr (6 + a1) ∧ wr (6 + a1) < 16) ∧
        ∀ σ4 : Hp, σ4 = hp σ3 (k + 24) (wr (6 + a1)).toNat (iAnd (σ3 (k + 24) (wr (6 + a1)).toNat) (iXor v5 (-1))) →
        Mo_isSpared_pre k a1 1 σ4 ∧
        ∀ (r6 : Int) (σ5 : Hp), Mo_isSpared_post k a1 1 σ4 r6 σ5 →
        (r6 = 0 →
          ∃ n' : Nat, n' < n ∧ k = k ∧ a1 = a1 ∧ a2 = a2 ∧ Mo_silence_I35 k a1 a2 σ0 n' v3 v4 (wr (v5 + 1)) σ5) ∧
        (¬ (r6 = 0) →
          ∃ n' : Nat, n' < n ∧ k = k ∧ a1 = a1 ∧ a2 = a2 ∧ Mo_silence_I35 k a1 a2 σ0 n' v5 v4 (wr (v5 + 1)) σ5)) ∧
      (¬ (v3 < 0) →
        Mo_members_pre v5 σ ∧
        ∀ (r8 : Int) (σ7 : Hp), Mo_members_post v5 σ r8 σ7 →
        Mo_members_pre v3 σ7 ∧
        ∀ (r10 : Int) (σ9 : Hp), Mo_members_post v3 σ7 r10 σ9 →
        (r8 < r10 →
          Mo_load_pre k σ9 ∧
          ∀ σ11 : Hp, Mo_load_post k σ9 σ11 →
          (0 ≤ wr (6 + a1) ∧ wr (6 + a1) < 16) ∧
          (0 ≤ wr (6 + a1) ∧ wr (6 + a1) < 16) ∧
          ∀ σ12 : Hp, σ12 = hp σ11 (k + 24) (wr (6 + a1)).toNat (iAnd (σ11 (k + 24) (wr (6 + a1)).toNat) (iXor v5 (-1))) →
          Mo_isSpared_pre k a1 1 σ12 ∧
          ∀ (r14 : Int) (σ13 : Hp), Mo_isSpared_post k a1 1 σ12 r14 σ13 →
          (r14 = 0 →
            ∃ n' : Nat, n' < n ∧ k = k ∧ a1 = a1 ∧ a2 = a2 ∧ Mo_silence_I35 k a1 a2 σ0 n' v3 v4 (wr (v5 + 1)) σ13) ∧
          (¬ (r14 = 0) →
            ∃ n' : Nat, n' < n ∧ k = k ∧ a1 = a1 ∧ a2 = a2 ∧ Mo_silence_I35 k a1 a2 σ0 n' v5 v4 (wr (v5 + 1)) σ13)) ∧
        (¬ (r8 < r10) →
          ∃ n' : Nat, n' < n ∧ k = k ∧ a1 = a1 ∧ a2 = a2 ∧ Mo_silence_I35 k a1 a2 σ0 n' v3 v4 (wr (v5 + 1)) σ9))))
theorem Mo_silence_p : Mo_silence_vc := by
  intro k a b σ hH hp
  obtain ⟨rfl, hP⟩ := hp
  have hn := hP.n6
  have hN := hP.np
  refine ⟨⟨rfl, hn⟩, ?_⟩
  rintro r2 σ1 ⟨rfl, rfl⟩
  refine ⟨fun h => om0 hP.1 (fun d => ?_), fun h => ⟨trivial, ?_⟩⟩
  · show if _ then _ else _; rw [if_neg (fun z => ite0 h z.1)]
  · have h1 := ite1 h
    rintro r4 σ3 ⟨rfl, rfl⟩
    refine ⟨fun h2 => ?_, fun h2 => om0 hP.1 (fun d => ?_)⟩
    · have h2' := ite1 h2
      have hkR := hN.2.1.2.1 a.toNat
      rw [wr_id (x := 6 + a) (by omega) (by omega), show ((6 : Int) + a).toNat = 6 + a.toNat by omega]
      have ek : σ3 (67 + 23) (6 + a.toNat) = (nowM σ3).2.1 a.toNat := (now_k (by omega)).symm
      rw [ek]
      exact ⟨⟨by omega, by omega⟩, 65, rfl, rfl, rfl, 0, rfl, rfl, by omega, rfl, h1, by omega, Fr.rf, fun d => Or.inr ⟨rfl, fun y hy => absurd hy (Nat.not_lt_zero y)⟩⟩
    · have h2' := ite0' h2
      show if _ then _ else _; rw [if_neg (fun z => h2' (by have := z.2; omega))]
theorem Mo_silence_p35 : Mo_silence_vc35 := by
  intro k a b σ0 hp n v3 v4 v5 σ hH hI
  obtain ⟨rfl, hP⟩ := hp
  obtain ⟨x, rfl, rfl, hx, rfl, ha, hb, hf, hB⟩ := hI
  have hn := hP.n6
  have hN := hP.np
  have hkR := hN.2.1.2.1 a.toNat
  obtain ⟨m, hm⟩ := Int.eq_ofNat_of_zero_le hkR.1
  have hmN : ((nowM σ0).2.1 a.toNat).toNat = m := by omega
  have hv3 : v3 = -1 ∨ (0 ≤ v3 ∧ v3 < (x : Int)) := Bst_R (hB 0)
  have done : (x : Int) = (nowM σ0).2.1 a.toNat + 1 → ∀ d, Bst (silP (famM d σ0) (nowM σ0) a.toNat) 64 v3 := fun h d => (hB d).wide (by omega) (fun y py => by
    have := ndf_le py.1
    omega)
  have ans : ∀ (r : Int) (σ1 : Hp), Fr af σ0 σ1 → (x : Int) = (nowM σ0).2.1 a.toNat + 1 → r = cos v3 b → Mo_silence_post 67 a b σ0 r σ1 := by
    intro r σ1 f1 h hr
    refine om1 hP.1 f1 scm_af (fun d => ?_)
    show if _ then _ else _
    rw [if_pos (show isP (mA d σ0) a ∧ o01 b from ⟨ha, hb⟩)]
    exact ⟨v3, done h d, hr⟩
  rw [wr1 (by omega) (by omega)]
  refine ⟨fun h => ⟨fun h2 => ⟨fun h3 => ans _ _ hf (by omega) ?_, fun h3 => ⟨⟨h2, by omega⟩, ?_⟩⟩, fun h2 => ans _ _ hf (by omega) ?_⟩, fun h => ?_⟩
  · unfold cos; rw [if_pos (Or.inr (by omega))]
  · rintro r2 σ1 ⟨rfl, rfl⟩
    refine ans _ _ hf (by omega) ?_
    unfold cos; rw [if_neg (by omega)]
  · unfold cos; rw [if_pos (Or.inl (by omega))]; omega
  have go : ∀ (w : Int) (σ2 : Hp), Fr af σ0 σ2 → (∀ d, Bst (silP (famM d σ0) (nowM σ0) a.toNat) (x + 1) w) → ∃ n' : Nat, n' < 65 - x ∧ (67 : Nat) = 67 ∧ a = a ∧ b = b ∧ Mo_silence_I35 67 a b σ0 n' w ((nowM σ0).2.1 a.toNat) ((x : Int) + 1) σ2 := fun w σ2 f2 h2 => ⟨65 - (x + 1), by omega, rfl, rfl, rfl, x + 1, by simp, rfl, by omega, rfl, ha, hb, f2, h2⟩
  have eN : iAnd (x : Int) (iXor ((nowM σ0).2.1 a.toNat) (-1)) = ((ndf x m : Nat) : Int) := by rw [hm]; exact iAndN_n (by omega) (by omega)
  rw [eN]
  have try1 : ndf x m = 0 → (v3 < 0 ∨ pc x < pc v3.toNat) → Mo_load_pre 67 σ ∧
        ∀ σ3 : Hp, Mo_load_post 67 σ σ3 →
        (0 ≤ wr (6 + a) ∧ wr (6 + a) < 16) ∧
        (0 ≤ wr (6 + a) ∧ wr (6 + a) < 16) ∧
        ∀ σ4 : Hp, σ4 = hp σ3 (67 + 24) (wr (6 + a)).toNat (iAnd (σ3 (67 + 24) (wr (6 + a)).toNat) (iXor (x : Int) (-1))) →
        Mo_isSpared_pre 67 a 1 σ4 ∧
        ∀ (r6 : Int) (σ5 : Hp), Mo_isSpared_post 67 a 1 σ4 r6 σ5 →
        (r6 = 0 → ∃ n' : Nat, n' < 65 - x ∧ (67 : Nat) = 67 ∧ a = a ∧ b = b ∧ Mo_silence_I35 67 a b σ0 n' v3 ((nowM σ0).2.1 a.toNat) ((x : Int) + 1) σ5) ∧
        (¬ (r6 = 0) → ∃ n' : Nat, n' < 65 - x ∧ (67 : Nat) = 67 ∧ a = a ∧ b = b ∧ Mo_silence_I35 67 a b σ0 n' x ((nowM σ0).2.1 a.toNat) ((x : Int) + 1) σ5) := by
    intro hsub hbest
    refine ⟨rfl, fun σ3 g => ?_⟩
    obtain ⟨L1, L2, L3, L4, L5⟩ := hN.load2 hf g
    have ek : σ3 (67 + 24) (6 + a.toNat) = (nowM σ0).2.1 a.toNat := by rw [← L3]; exact (air_k (by omega)).symm
    have hnd : ndf m x < 2 ^ 6 := ndf_lt (by omega)
    rw [wr_id (x := 6 + a) (by omega) (by omega), show ((6 : Int) + a).toNat = 6 + a.toNat by omega, ek, show iAnd ((nowM σ0).2.1 a.toNat) (iXor (x : Int) (-1)) = ((ndf m x : Nat) : Int) by rw [hm]; exact iAndN_n (by omega) (by omega)]
    refine ⟨⟨by omega, by omega⟩, ⟨by omega, by omega⟩, ?_⟩
    intro σ4 hs
    have W := L1.wk (b := a.toNat) (v := ((ndf m x : Nat) : Int)) (by omega) ⟨by omega, by omega⟩ (fun o ho => by
      rw [L4 67 (by decide)]
      rw [bt_n, ndf_t, Bool.and_eq_true] at ho
      exact hN.2.2.2.1 a.toNat o (by rw [hm, bt_n]; exact ho.1))
    rw [show hp σ3 91 (6 + a.toNat) ((ndf m x : Nat) : Int) = σ4 from hs.symm] at W
    have ea : airM σ4 = wkn (nowM σ0) a.toNat ((ndf m x : Nat) : Int) := by
      rw [hs]; exact (air_wk (by omega)).trans (by rw [L3])
    have hd : σ4 91 14 ≤ 999 := by
      rw [hs]
      show hp σ3 91 (6 + a.toNat) _ 91 14 ≤ 999
      rw [hp_r2 (fun z => by omega), L5 14 (by decide)]
      exact hN.2.1.2.2.1.2
    refine ⟨⟨rfl, by decide, by decide, W.1, hd⟩, ?_⟩
    rintro r6 σ5 ⟨g1, g2⟩
    have f5 : Fr af σ0 σ5 := by
      have f4 : Fr af σ0 σ4 := by rw [hs]; exact Fr.hp L4 (by simp [af])
      exact f4.tr g1
    have cv : ∀ d, Spd (famM d σ4) (airM σ4) a (1 : Int).toNat ↔ silP (famM d σ0) (nowM σ0) a.toNat x := by
      intro d
      rw [W.2 d, L2 d, ea]
      unfold silP Spd
      rw [hmN]
      refine ⟨fun z => ⟨hsub, ?_⟩, fun z i hi => ?_⟩
      · have := z 0 (by decide)
        rw [show ((a.toNat : Nat) : Int) = a by omega]; exact this
      · have : i = 0 := by
          have : i < 1 := hi
          omega
        subst this
        have z2 := z.2
        rw [show ((a.toNat : Nat) : Int) = a by omega] at z2
        exact z2
    refine ⟨fun h5 => go v3 σ5 f5 (fun d => ?_), fun h5 => go x σ5 f5 (fun d => ?_)⟩
    · rcases g2 with ⟨z, -⟩ | ⟨-, q⟩
      · omega
      · exact (hB d).no (fun z => q d ((cv d).mpr z))
    · rcases g2 with ⟨-, q⟩ | ⟨z, -⟩
      · exact (hB d).new ((cv d).mp (q d)) hbest
      · exact absurd z h5
  refine ⟨fun h2 => go v3 σ hf (fun d => (hB d).no (fun z => h2 (by have := z.1; rw [hmN] at this; rw [this]; rfl))), fun h2 => ⟨fun h3 => try1 (by omega) (Or.inl h3), fun h3 => ⟨⟨by omega, by omega⟩, ?_⟩⟩⟩
  rintro r8 σ7 ⟨rfl, rfl⟩
  refine ⟨⟨by omega, by omega⟩, ?_⟩
  rintro r10 σ9 ⟨rfl, rfl⟩
  rw [Int.toNat_natCast]
  exact ⟨fun h4 => try1 (by omega) (Or.inr (by omega)), fun h4 => go v3 σ9 hf (fun d => (hB d).old (by omega) (by omega))⟩
def Mo_silence_I : List AV → Hp → Nat → Nat → List AV → List AV → Hp → Prop := fun as σ0 pc n st ls σ => (match as with
    | [.inr (.inr (.inl (k, 0, 9))), .inl a1, .inl a2] => (bif Nat.beq pc 35 then (match st, ls with
      | [], [.inr (.inr (.inl (k', 0, 9))), .inl a1', .inl a2', .inl v3, .inl v4, .inl v5] => k = k' ∧ a1 = a1' ∧ a2 = a2' ∧ Mo_silence_I35 k a1 a2 σ0 n v3 v4 v5 σ
      | _, _ => False) else False)
    | _ => False)
def Mo_silence_ct : Nat → Ct := fun n => match n with
  | 0 => Mo_isPerson_cs
  | 1 => Mo_isIn_cs
  | 2 => Mo_members_cs
  | 3 => Mo_load_cs
  | 4 => Mo_isSpared_cs
  | _ => Mo_silence_cs
set_option maxRecDepth 20000 in
set_option maxHeartbeats 4000000 in
theorem Mo_silence_met {l : Launch} {D : va_G} {ad : Nat → Nat} {ca : Nat → ClassId} {L : Nat} {fx : Nat → Int} : ax_MC l D ad ca L fx yX9_silence cX9_silence 6 (some .int) 9 Mo_silence_cs := by
  refine ax_met (oc := 9) (ct := Mo_silence_ct) (calls := Mo_silence_cl) (bs := Mo_silence_bk) (cut := fun pc => Nat.beq pc 35) (f := 11) (I := Mo_silence_I) (by decide) rfl rfl Mo_silence_ck (List.forall_mem_cons.mpr ⟨ax_cwV Mo_isPerson_met (by decide) (by decide) rfl (by decide) rfl (ax_m7 79 (by decide +kernel) rfl) Mo_isPerson_w rfl Mo_isPerson_ds, List.forall_mem_cons.mpr ⟨ax_cwS Mo_isIn_met (by decide) (by decide) (ax_m7 83 (by decide +kernel) rfl) Mo_isIn_w rfl Mo_isIn_ds, List.forall_mem_cons.mpr ⟨ax_cwS Mo_members_met (by decide) (by decide) (ax_m7 146 (by decide +kernel) rfl) Mo_members_w rfl Mo_members_ds, List.forall_mem_cons.mpr ⟨ax_cwV Mo_load_met (by decide) (by decide) rfl (by decide) rfl (ax_m7 86 (by decide +kernel) rfl) Mo_load_w rfl Mo_load_ds, List.forall_mem_cons.mpr ⟨ax_cwV Mo_isSpared_met (by decide) (by decide) rfl (by decide) rfl (ax_m7 201 (by decide +kernel) rfl) Mo_isSpared_w rfl Mo_isSpared_ds, fun _ h => absurd h List.not_mem_nil⟩⟩⟩⟩⟩) ?_ ?_
  · intro as σ0 hp hH
    match as, hp with
    | [.inr (.inr (.inl (k, 0, 9))), .inl a1, .inl a2], hp => exact ⟨rfl, Mo_silence_p k a1 a2 σ0 hH hp⟩
  · intro as σ0 hp n pc st ls σ hH hI
    match as, hp, hI with
    | [.inr (.inr (.inl (k, 0, 9))), .inl a1, .inl a2], hp, hI =>
      rcases ax_bifE hI with ⟨hpc, hI⟩ | ⟨-, hI⟩
      · have := Nat.eq_of_beq_eq_true hpc
        subst this
        match st, ls, hI with
        | [], [.inr (.inr (.inl (k', 0, 9))), .inl a1', .inl a2', .inl v3, .inl v4, .inl v5], hI =>
          obtain ⟨rfl, rfl, rfl, hI⟩ := hI
          exact Mo_silence_p35 k a1 a2 σ0 hp n v3 v4 v5 σ hH hI
      exact False.elim hI
