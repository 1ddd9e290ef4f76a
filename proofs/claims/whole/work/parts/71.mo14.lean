-- THE MODEL: the knows in their order, hush
def lkM (σ : Hp) (w : Nat → Int) (n : Nat) : Prop := ∀ i, i < n → ∃ p o : Nat, p < 6 ∧ o < 6 ∧ σ 94 i = p ∧ σ 95 i = o ∧ bt (w p) o = true ∧ ix w p o = i
def Mo_layKnows_pre (k : Nat) (σ : Hp) : Prop := k = 67 ∧ NP σ ∧ kn (nowM σ).2.1 6 ≤ 12
def Mo_layKnows_post (_k : Nat) (σ : Hp) (r : Int) (σ' : Hp) : Prop := Fr [94, 95] σ σ' ∧ r = (kn (nowM σ).2.1 6 : Nat) ∧ lkM σ' (nowM σ).2.1 (kn (nowM σ).2.1 6)
def Mo_layKnows_I4 (_k : Nat) (σ0 : Hp) (m : Nat) (v1 v2 : Int) (σ : Hp) : Prop := ∃ p : Nat, v2 = p ∧ p ≤ (σ0 67 42).toNat ∧ m = 10 * (7 - p) + 9 ∧ Fr [94, 95] σ0 σ ∧ v1 = (kn (nowM σ0).2.1 p : Nat) ∧ lkM σ (nowM σ0).2.1 (kn (nowM σ0).2.1 p)
def Mo_layKnows_I14 (_k : Nat) (σ0 : Hp) (m : Nat) (v1 v2 v3 : Int) (σ : Hp) : Prop := ∃ p o : Nat, v2 = p ∧ v3 = o ∧ p < (σ0 67 42).toNat ∧ o ≤ (σ0 67 42).toNat ∧ m = 10 * (7 - p) + (8 - o) ∧ Fr [94, 95] σ0 σ ∧ v1 = (ix (nowM σ0).2.1 p o : Nat) ∧ lkM σ (nowM σ0).2.1 (ix (nowM σ0).2.1 p o)
def Mo_layKnows_bk : List (Nat × List Item) := [(0, [(.iconst 0, 1, [], []), (.istore_n 1, 1, [], []), (.iconst 0, 1, [], []), (.istore_n 2, 1, [], [])]),
  (4, [(.iload_n 2, 1, [], []), (.aload_n 0, 1, [], []), (.getfield 304, 3, [9, 42, 0, 0, 0, 0], []), (.if_icmp .ge 54, 3, [63], []), (.iconst 0, 1, [], []), (.istore_n 3, 1, [], [])]),
  (14, [(.iload_n 3, 1, [], []), (.aload_n 0, 1, [], []), (.getfield 304, 3, [9, 42, 0, 0, 0, 0], []), (.if_icmp .ge 38, 3, [57], []), (.aload_n 0, 1, [], []), (.iload_n 2, 1, [], []), (.iload_n 3, 1, [], []), (.invokevirtual 423, 3, [0], []), (.ifCond .ne 6, 3, [34], []), (.goto 20, 3, [51], [])]),
  (34, [(.aload_n 0, 1, [], []), (.getfield 97, 3, [9, 52, 4, 27, 1, 12], []), (.iload_n 1, 1, [], []), (.iload_n 2, 1, [], []), (.iastore, 1, [], []), (.aload_n 0, 1, [], []), (.getfield 100, 3, [9, 53, 4, 28, 1, 12], []), (.iload_n 1, 1, [], []), (.iload_n 3, 1, [], []), (.iastore, 1, [], []), (.iinc 1 1, 3, [], [])]),
  (51, [(.iinc 3 1, 3, [], []), (.goto (-40), 3, [14], [])]),
  (57, [(.iinc 2 1, 3, [], []), (.goto (-56), 3, [4], [])]),
  (63, [(.iload_n 1, 1, [], []), (.ireturn, 1, [], [])])]
def Mo_layKnows_cl : List (Instr × Nat) := [(.invokevirtual 423, 0)]
set_option maxRecDepth 20000 in
theorem Mo_layKnows_ck : Mo_layKnows_bk.all (fun b => ax_chB 9 4 cX9_layKnows Mo_layKnows_cl b.1 b.2) = true := by decide +kernel
def Mo_layKnows_cs : Ct := (1, 10, 1, (0, 0), fun as σ => (match as with
    | [.inr (.inr (.inl (k, 0, 9)))] => Mo_layKnows_pre k σ
    | _ => False), fun as σ r σ' => (match as with
    | [.inr (.inr (.inl (k, 0, 9)))] => Mo_layKnows_post k σ r σ'
    | _ => False))
theorem Mo_layKnows_w : ∀ w ∈ ([.instanceMethod yX9_layKnows, .selects yX9_layKnows.cls yX9_layKnows yX9_layKnows, .initialized yX9_layKnows.cls, .code yX9_layKnows cX9_layKnows 4 (some .int)] : List Cond), w ∈ ax_tb := ax_w4 (ax_m7 215 (by decide +kernel) rfl) (ax_m0 56 (by decide +kernel) rfl) (ax_m1 10 (by decide +kernel) rfl) (ax_m7 216 (by decide +kernel) rfl)
theorem Mo_layKnows_ds : yX9_layKnows.cls ≠ "java/lang/invoke/MethodHandle" ∧ yX9_layKnows.cls ≠ "java/lang/invoke/VarHandle" ∧ (parseMethodDescriptor yX9_layKnows.desc).map (fun d => d.parameters.length) = some 0 := by decide +kernel
def Mo_layKnows_vc : Prop := ∀ (k : Nat) (σ : Hp), ax_H σ → Mo_layKnows_pre k σ →
  ∃ n' : Nat, k = k ∧ Mo_layKnows_I4 k σ n' 0 0 σ
def Mo_layKnows_vc4 : Prop := ∀ (k : Nat) (σ0 : Hp), Mo_layKnows_pre k σ0 → ∀ (n : Nat) (v1 : Int) (v2 : Int) (σ : Hp), ax_H σ → Mo_layKnows_I4 k σ0 n v1 v2 σ →
  (σ k 42 ≤ v2 →
    Mo_layKnows_post k σ0 v1 σ) ∧
  (¬ (σ k 42 ≤ v2) →
    ∃ n' : Nat, n' < n ∧ k = k ∧ Mo_layKnows_I14 k σ0 n' v1 v2 0 σ)
def Mo_layKnows_vc14 : Prop := ∀ (k : Nat) (σ0 : Hp), Mo_layKnows_pre k σ0 → ∀ (n : Nat) (v1 : Int) (v2 : Int) (v3 : Int) (σ : Hp), ax_H σ → Mo_layKnows_I14 k σ0 n v1 v2 v3 σ →
  (σ k 42 ≤ v3 →
    ∃ n' : Nat, n' < n ∧ k = k ∧ Mo_layKnows_I4 k σ0 n' v1 (wr (v2 + 1)) σ) ∧
  (¬ (σ k 42 ≤ v3) →
    Mo_isKnown_pre k v2 v3 σ ∧
    ∀ (r2 : Int) (σ1 : Hp), Mo_isKnown_post k v2 v3 σ r2 σ1 →
    (¬ r2 = 0 →
      (0 ≤ v1 ∧ v1 < 12) ∧
      ∀ σ3 : Hp, σ3 = hp σ1 (k + 27) v1.toNat v2 →
      (0 ≤ v1 ∧ v1 < 12) ∧
      ∀ σ4 : Hp, σ4 = hp σ3 (k + 28) v1.toNat v3 →
      ∃ n' : Nat, n' < n ∧ k = k ∧ Mo_layKnows_I14 k σ0 n' (wr (v1 + 1)) v2 (wr (v3 + 1)) σ4) ∧
    (¬ (¬ r2 = 0) →
      ∃ n' : Nat, n' < n ∧ k = k ∧ Mo_layKnows_I14 k σ0 n' v1 v2 (wr (v3 + 1)) σ1))
theorem Mo_layKnows_p : Mo_layKnows_vc := by
  intro k σ hH hp
  exact ⟨79, rfl, 0, rfl, Nat.zero_le _, rfl, Fr.rf, rfl, fun i hi => absurd hi (Nat.not_lt_zero i)⟩
theorem Mo_layKnows_p4 : Mo_layKnows_vc4 := by
  intro k σ0 hp m v1 v2 σ hH hI
  obtain ⟨rfl, hN, h12⟩ := hp
  obtain ⟨p, rfl, hp6, rfl, hf, hv, hr⟩ := hI
  have hn := hN.1.1
  rw [hf 67 (by decide)]
  refine ⟨fun h => ?_, fun h => ⟨10 * (7 - p) + 8, by omega, rfl, p, 0, rfl, rfl, by omega, Nat.zero_le _, rfl, hf, hv, hr⟩⟩
  have e := hN.2.2.all (by omega)
  rw [show (σ0 67 42).toNat = p by omega] at e
  exact ⟨hf, by rw [hv, e], by rw [e]; exact hr⟩
theorem Mo_layKnows_p14 : Mo_layKnows_vc14 := by
  intro k σ0 hp0 m v1 v2 v3 σ hH hI
  obtain ⟨rfl, hN, h12⟩ := hp0
  obtain ⟨p, o, rfl, rfl, hp6, ho6, rfl, hf, hv, hr⟩ := hI
  have hn := hN.1.1
  have NF := hN.fr hf (by simp)
  have hs := ix_s (nowM σ0).2.1 p o
  rw [hf 67 (by decide)]
  refine ⟨fun h => ?_, fun h => ⟨⟨rfl, by omega, by omega, by omega, by omega, NF.1⟩, ?_⟩⟩
  · have e : o = (σ0 67 42).toNat := by omega
    have er := hN.2.2.row (p := p) (by omega)
    rw [← e] at er
    rw [wr1 (by omega) (by omega)]
    exact ⟨10 * (7 - (p + 1)) + 9, by omega, rfl, p + 1, by simp, by omega, rfl, hf, by rw [← er]; exact hv, by rw [← er]; exact hr⟩
  · rintro r2 σ1 ⟨rfl, rfl⟩
    rw [NF.2.2, Int.toNat_natCast, Int.toNat_natCast, wr1 (i := (o : Int)) (by omega) (by omega)]
    refine ⟨fun h2 => ?_, fun h2 => ?_⟩
    · have hb := ite1 h2
      rw [if_pos hb] at hs
      have hlt := ix_lt (show p < 6 by omega) (show o < 12 by omega) hb
      rw [wr1 (i := v1) (by omega) (by omega), show v1.toNat = ix (nowM σ0).2.1 p o by omega]
      refine ⟨⟨by omega, by omega⟩, ?_⟩
      intro σ3 hs3
      refine ⟨⟨by omega, by omega⟩, ?_⟩
      intro σ4 hs4
      have q94 : ∀ j, σ4 94 j = if j = ix (nowM σ0).2.1 p o then (p : Int) else σ1 94 j := fun j => by
        rw [hs4, hp_ne (by decide), hs3]
        show hp σ1 94 _ _ 94 j = _
        by_cases e : j = ix (nowM σ0).2.1 p o
        · rw [e, hp_r1, if_pos rfl]
        · rw [hp_r2 (fun z => e z.2), if_neg e]
      have q95 : ∀ j, σ4 95 j = if j = ix (nowM σ0).2.1 p o then (o : Int) else σ1 95 j := fun j => by
        rw [hs4]
        show hp σ3 95 _ _ 95 j = _
        by_cases e : j = ix (nowM σ0).2.1 p o
        · rw [e, hp_r1, if_pos rfl]
        · rw [hp_r2 (fun z => e z.2), if_neg e, hs3, hp_ne (by decide)]
      refine ⟨10 * (7 - p) + (8 - (o + 1)), by omega, rfl, p, o + 1, rfl, by simp, hp6, by omega, rfl, by rw [hs4, hs3]; exact Fr.hp (Fr.hp hf (by simp)) (by simp), by rw [hs]; omega, fun i hi => ?_⟩
      rw [q94, q95]
      by_cases e : i = ix (nowM σ0).2.1 p o
      · rw [if_pos e, if_pos e]
        exact ⟨p, o, by omega, by omega, rfl, rfl, hb, e.symm⟩
      · rw [if_neg e, if_neg e]; exact hr i (by omega)
    · have hb := ite0' h2
      rw [if_neg hb, Nat.add_zero] at hs
      exact ⟨10 * (7 - p) + (8 - (o + 1)), by omega, rfl, p, o + 1, rfl, by simp, hp6, by omega, rfl, hf, by rw [hs]; exact hv, by rw [hs]; exact hr⟩
def Mo_layKnows_I : List AV → Hp → Nat → Nat → List AV → List AV → Hp → Prop := fun as σ0 pc n st ls σ => (match as with
    | [.inr (.inr (.inl (k, 0, 9)))] => (bif Nat.beq pc 4 then (match st, ls with
      | [], [.inr (.inr (.inl (k', 0, 9))), .inl v1, .inl v2, _] => k = k' ∧ Mo_layKnows_I4 k σ0 n v1 v2 σ
      | _, _ => False) else (bif Nat.beq pc 14 then (match st, ls with
      | [], [.inr (.inr (.inl (k', 0, 9))), .inl v1, .inl v2, .inl v3] => k = k' ∧ Mo_layKnows_I14 k σ0 n v1 v2 v3 σ
      | _, _ => False) else False))
    | _ => False)
def Mo_layKnows_ct : Nat → Ct := fun n => match n with
  | 0 => Mo_isKnown_cs
  | _ => Mo_layKnows_cs
set_option maxRecDepth 20000 in
set_option maxHeartbeats 4000000 in
theorem Mo_layKnows_met {l : Launch} {D : va_G} {ad : Nat → Nat} {ca : Nat → ClassId} {L : Nat} {fx : Nat → Int} : ax_MC l D ad ca L fx yX9_layKnows cX9_layKnows 4 (some .int) 2 Mo_layKnows_cs := by
  refine ax_met (oc := 9) (ct := Mo_layKnows_ct) (calls := Mo_layKnows_cl) (bs := Mo_layKnows_bk) (cut := fun pc => Nat.beq pc 4 || Nat.beq pc 14) (f := 8) (I := Mo_layKnows_I) (by decide) rfl rfl Mo_layKnows_ck (List.forall_mem_cons.mpr ⟨ax_cwV Mo_isKnown_met (by decide) (by decide) rfl (by decide) rfl (ax_m7 138 (by decide +kernel) rfl) Mo_isKnown_w rfl Mo_isKnown_ds, fun _ h => absurd h List.not_mem_nil⟩) ?_ ?_
  · intro as σ0 hp hH
    match as, hp with
    | [.inr (.inr (.inl (k, 0, 9)))], hp => exact ⟨rfl, Mo_layKnows_p k σ0 hH hp⟩
  · intro as σ0 hp n pc st ls σ hH hI
    match as, hp, hI with
    | [.inr (.inr (.inl (k, 0, 9)))], hp, hI =>
      rcases ax_bifE hI with ⟨hpc, hI⟩ | ⟨-, hI⟩
      · have := Nat.eq_of_beq_eq_true hpc
        subst this
        match st, ls, hI with
        | [], [.inr (.inr (.inl (k', 0, 9))), .inl v1, .inl v2, _], hI =>
          obtain ⟨rfl, hI⟩ := hI
          exact Mo_layKnows_p4 k σ0 hp n v1 v2 σ hH hI
      rcases ax_bifE hI with ⟨hpc, hI⟩ | ⟨-, hI⟩
      · have := Nat.eq_of_beq_eq_true hpc
        subst this
        match st, ls, hI with
        | [], [.inr (.inr (.inl (k', 0, 9))), .inl v1, .inl v2, .inl v3], hI =>
          obtain ⟨rfl, hI⟩ := hI
          exact Mo_layKnows_p14 k σ0 hp n v1 v2 v3 σ hH hI
      exact False.elim hI
theorem scm_lk : ∀ c ∈ ([94, 95] : List Nat), scm c := by
  intro c hc
  simp only [List.mem_cons, List.not_mem_nil, or_false] at hc
  unfold scm shC
  omega
def Mo_knows_pre (k : Nat) (_a _b : Int) (σ : Hp) : Prop := k = 67 ∧ MP σ
def Mo_knows_post (_k : Nat) (a b : Int) (σ : Hp) (r : Int) (σ' : Hp) : Prop := MQo σ σ' ∧ ∀ d, s_knows (mA d σ) a b r (mA d σ')
def Mo_knows_bk : List (Nat × List Item) := [(0, [(.iload_n 1, 1, [], []), (.iconst 0, 1, [], []), (.aload_n 0, 1, [], []), (.invokevirtual 444, 3, [0], []), (.iconst 1, 1, [], []), (.isub, 1, [], []), (.invokestatic 379, 3, [1], []), (.ifCond .eq 34, 3, [45], []), (.iload_n 2, 1, [], []), (.iconst 0, 1, [], []), (.iconst 1, 1, [], []), (.invokestatic 379, 3, [1], []), (.ifCond .eq 25, 3, [45], []), (.iload_n 2, 1, [], []), (.ifCond .ne 12, 3, [36], []), (.aload_n 0, 1, [], []), (.getfield 97, 3, [9, 52, 4, 27, 1, 12], []), (.iload_n 1, 1, [], []), (.iaload, 1, [], []), (.goto 13, 3, [46], [])]),
  (36, [(.aload_n 0, 1, [], []), (.getfield 100, 3, [9, 53, 4, 28, 1, 12], []), (.iload_n 1, 1, [], []), (.iaload, 1, [], []), (.goto 4, 3, [46], [])]),
  (45, [(.iconst (-1), 1, [], [])]),
  (46, [(.ireturn, 1, [], [])])]
def Mo_knows_cl : List (Instr × Nat) := [(.invokevirtual 444, 0), (.invokestatic 379, 1)]
set_option maxRecDepth 20000 in
theorem Mo_knows_ck : Mo_knows_bk.all (fun b => ax_chB 9 3 cX9_knows Mo_knows_cl b.1 b.2) = true := by decide +kernel
def Mo_knows_cs : Ct := (3, 10, 1, (0, 0), fun as σ => (match as with
    | [.inr (.inr (.inl (k, 0, 9))), .inl a1, .inl a2] => Mo_knows_pre k a1 a2 σ
    | _ => False), fun as σ r σ' => (match as with
    | [.inr (.inr (.inl (k, 0, 9))), .inl a1, .inl a2] => Mo_knows_post k a1 a2 σ r σ'
    | _ => False))
theorem Mo_knows_w : ∀ w ∈ ([.instanceMethod yX9_knows, .selects yX9_knows.cls yX9_knows yX9_knows, .initialized yX9_knows.cls, .code yX9_knows cX9_knows 3 (some .int)] : List Cond), w ∈ ax_tb := ax_w4 (ax_m7 218 (by decide +kernel) rfl) (ax_m7 219 (by decide +kernel) rfl) (ax_m1 10 (by decide +kernel) rfl) (ax_m7 220 (by decide +kernel) rfl)
theorem Mo_knows_ds : yX9_knows.cls ≠ "java/lang/invoke/MethodHandle" ∧ yX9_knows.cls ≠ "java/lang/invoke/VarHandle" ∧ (parseMethodDescriptor yX9_knows.desc).map (fun d => d.parameters.length) = some 2 := by decide +kernel
def Mo_knows_vc : Prop := ∀ (k : Nat) (a1 : Int) (a2 : Int) (σ : Hp), ax_H σ → Mo_knows_pre k a1 a2 σ →
  Mo_layKnows_pre k σ ∧
  ∀ (r2 : Int) (σ1 : Hp), Mo_layKnows_post k σ r2 σ1 →
  Mo_isIn_pre a1 0 (wr (r2 - 1)) σ1 ∧
  ∀ (r4 : Int) (σ3 : Hp), Mo_isIn_post a1 0 (wr (r2 - 1)) σ1 r4 σ3 →
  (r4 = 0 →
    Mo_knows_post k a1 a2 σ (-1) σ3) ∧
  (¬ (r4 = 0) →
    Mo_isIn_pre a2 0 1 σ3 ∧
    ∀ (r6 : Int) (σ5 : Hp), Mo_isIn_post a2 0 1 σ3 r6 σ5 →
    (r6 = 0 →
      Mo_knows_post k a1 a2 σ (-1) σ5) ∧
    (¬ (r6 = 0) →
      (¬ a2 = 0 →
        (0 ≤ a1 ∧ a1 < 12) ∧
        Mo_knows_post k a1 a2 σ (σ5 (k + 28) a1.toNat) σ5) ∧
      (¬ (¬ a2 = 0) →
        (0 ≤ a1 ∧ a1 < 12) ∧
        Mo_knows_post k a1 a2 σ (σ5 (k + 27) a1.toNat) σ5)))
theorem Mo_knows_p : Mo_knows_vc := by
  intro k a b σ hH hp
  obtain ⟨rfl, hP⟩ := hp
  have hN := hP.np
  have hk := hP.kn
  refine ⟨⟨rfl, hN, hk⟩, ?_⟩
  rintro r2 σ1 ⟨g1, rfl, g3⟩
  rw [wr_id (by omega) (by omega)]
  refine ⟨trivial, ?_⟩
  rintro r4 σ3 ⟨rfl, rfl⟩
  refine ⟨fun h => om1 hP.1 g1 scm_lk (fun d => ?_), fun h => ⟨trivial, ?_⟩⟩
  · have h' := ite0 h
    show if _ then _ else _
    split
    · rename_i z
      refine Or.inr ⟨rfl, fun p o p6 o6 hb e => h' ⟨z.1, ?_⟩⟩
      have hlt : ix (nowM σ).2.1 p o < kn (nowM σ).2.1 6 := ix_lt p6 (by omega) hb
      have e' : (ix (nowM σ).2.1 p o : Int) = a := e
      omega
    · rfl
  · have h' := ite1 h
    rintro r6 σ5 ⟨rfl, rfl⟩
    refine ⟨fun h2 => om1 hP.1 g1 scm_lk (fun d => ?_), fun h2 => ?_⟩
    · have h2' := ite0 h2
      show if _ then _ else _; rw [if_neg (fun z => h2' (by have := z.2; omega))]
    · have h2' := ite1 h2
      obtain ⟨p, o, p6, o6, e1, e2, e3, e4⟩ := g3 a.toNat (by omega)
      have fin : ∀ r : Int, r = (if b = 0 then (p : Int) else (o : Int)) → Mo_knows_post 67 a b σ r σ5 := by
        intro r hr
        refine om1 hP.1 g1 scm_lk (fun d => ?_)
        show if _ then _ else _
        rw [if_pos ⟨h'.1, by omega⟩]
        exact Or.inl ⟨p, o, p6, o6, e3, by show (ix (nowM σ).2.1 p o : Int) = a; omega, hr⟩
      exact ⟨fun h3 => ⟨⟨by omega, by omega⟩, fin _ (by rw [if_neg h3]; exact e2)⟩, fun h3 => ⟨⟨by omega, by omega⟩, fin _ (by rw [if_pos (Classical.not_not.mp h3)]; exact e1)⟩⟩
def Mo_knows_I : List AV → Hp → Nat → Nat → List AV → List AV → Hp → Prop := fun as σ0 pc n st ls σ => (match as with
    | [.inr (.inr (.inl (k, 0, 9))), .inl a1, .inl a2] => False
    | _ => False)
def Mo_knows_ct : Nat → Ct := fun n => match n with
  | 0 => Mo_layKnows_cs
  | 1 => Mo_isIn_cs
  | _ => Mo_knows_cs
set_option maxRecDepth 20000 in
set_option maxHeartbeats 4000000 in
theorem Mo_knows_met {l : Launch} {D : va_G} {ad : Nat → Nat} {ca : Nat → ClassId} {L : Nat} {fx : Nat → Int} : ax_MC l D ad ca L fx yX9_knows cX9_knows 3 (some .int) 3 Mo_knows_cs := by
  refine ax_met (oc := 9) (ct := Mo_knows_ct) (calls := Mo_knows_cl) (bs := Mo_knows_bk) (cut := fun pc => false) (f := 5) (I := Mo_knows_I) (by decide) rfl rfl Mo_knows_ck (List.forall_mem_cons.mpr ⟨ax_cwV Mo_layKnows_met (by decide) (by decide) rfl (by decide) rfl (ax_m7 213 (by decide +kernel) rfl) Mo_layKnows_w rfl Mo_layKnows_ds, List.forall_mem_cons.mpr ⟨ax_cwS Mo_isIn_met (by decide) (by decide) (ax_m7 83 (by decide +kernel) rfl) Mo_isIn_w rfl Mo_isIn_ds, fun _ h => absurd h List.not_mem_nil⟩⟩) ?_ ?_
  · intro as σ0 hp hH
    match as, hp with
    | [.inr (.inr (.inl (k, 0, 9))), .inl a1, .inl a2], hp => exact ⟨rfl, Mo_knows_p k a1 a2 σ0 hH hp⟩
  · intro as σ0 hp n pc st ls σ hH hI
    match as, hp, hI with
    | [.inr (.inr (.inl (k, 0, 9))), .inl a1, .inl a2], hp, hI => exact False.elim hI
def hsl : List Nat := 94 :: 95 :: af
theorem scm_hsl : ∀ c ∈ hsl, scm c := by
  intro c hc
  simp only [hsl, af, List.mem_cons, List.not_mem_nil, or_false] at hc
  unfold scm shC
  omega
theorem kfr_b {w : Nat → Int} {x p o : Nat} (h : (kfr w x p 6).testBit o = true) : bt (w p) o = true := by
  rw [kfr_t] at h
  simp at h
  exact h.2.1
theorem AP.kf {σ0 σ : Hp} {x : Nat} (hN : NP σ0) (hf : Fr hsl σ0 σ) (ha : airM σ = kfS (nowM σ0) x) : AP σ ∧ ∀ d, famM d σ = famM d σ0 := by
  have NF := hN.fr hf (by simp [hsl, af])
  refine ⟨⟨NF.1.1, ?_, ?_⟩, NF.2.1⟩
  · rw [ha]
    refine ⟨hN.2.1.1, fun j => ?_, ⟨hN.2.1.2.2.1.1, Int.le_trans hN.2.1.2.2.1.2 (by decide)⟩, hN.2.1.2.2.2⟩
    have := kfr_lt (nowM σ0).2.1 x j 6
    show 0 ≤ ((kfr (nowM σ0).2.1 x j 6 : Nat) : Int) ∧ ((kfr (nowM σ0).2.1 x j 6 : Nat) : Int) < 64
    omega
  · rw [ha, hf 67 (by decide)]
    refine ⟨hN.2.2.1, fun p o hpo => ?_, hN.2.2.2.2⟩
    have hpo' : bt ((kfr (nowM σ0).2.1 x p 6 : Nat) : Int) o = true := hpo
    rw [bt_n] at hpo'
    exact hN.2.2.2.1 p o (kfr_b hpo')
theorem kf_air {σ : Hp} {s : Sta} {x : Nat} (h : ∀ p, p < 6 → σ 91 (6 + p) = ((kfr s.2.1 x p 6 : Nat) : Int)) (hz : ∀ p, 6 ≤ p → s.2.1 p = 0) (hc : ∀ j, j < 6 ∨ 12 ≤ j → j < 16 → σ 91 j = (if j < 6 then s.1 j else if j = 12 then s.2.2.1 else if j = 13 then s.2.2.2.2.2 else if j = 14 then s.2.2.2.1 else s.2.2.2.2.1)) (hcz : ∀ j, 6 ≤ j → s.1 j = 0) : airM σ = kfS s x := by
  show stR (σ 91) 0 = _
  unfold stR kfS
  refine Prod.ext ?_ (Prod.ext ?_ ?_)
  · funext j
    show tr 6 (fun j => σ 91 (0 + j)) j = s.1 j
    by_cases hj : j < 6
    · rw [tr_in hj, Nat.zero_add, hc j (Or.inl hj) (by omega), if_pos hj]
    · rw [tr_out (by omega), hcz j (by omega)]
  · funext j
    show tr 6 (fun j => σ 91 (0 + 6 + j)) j = ((kfr s.2.1 x j 6 : Nat) : Int)
    by_cases hj : j < 6
    · rw [tr_in hj]; exact h j hj
    · rw [tr_out (by omega)]
      have : kfr s.2.1 x j 6 = 0 := by
        apply Nat.eq_of_testBit_eq
        intro o
        rw [kfr_t, Nat.zero_testBit, hz j (by omega)]
        rw [show bt 0 o = false from by unfold bt; simp]
        simp
      rw [this]; rfl
  · show (σ 91 12, σ 91 14, σ 91 15, σ 91 13) = (s.2.2.1, s.2.2.2.1, s.2.2.2.2.1, s.2.2.2.2.2)
    rw [hc 12 (by omega) (by omega), hc 13 (by omega) (by omega), hc 14 (by omega) (by omega), hc 15 (by omega) (by omega)]
    rfl
def Mo_hush_pre (k : Nat) (_a : Int) (σ : Hp) : Prop := k = 67 ∧ MP σ
def Mo_hush_post (_k : Nat) (a : Int) (σ : Hp) (r : Int) (σ' : Hp) : Prop := MQo σ σ' ∧ ∀ d, s_hush (mA d σ) a r (mA d σ')
def Mo_hush_I21 (_k : Nat) (a : Int) (σ0 : Hp) (n : Nat) (v2 v3 v4 : Int) (σ : Hp) : Prop := ∃ x : Nat, v4 = x ∧ v2 = (kn (nowM σ0).2.1 6 : Nat) ∧ x ≤ 2 ^ kn (nowM σ0).2.1 6 ∧ n = 20 * (4097 - x) + 15 ∧ o01 a ∧ Fr hsl σ0 σ ∧ lkM σ (nowM σ0).2.1 (kn (nowM σ0).2.1 6) ∧ ∀ d, Bst (husP (famM d σ0) (nowM σ0)) x v3
def Mo_hush_I55 (_k : Nat) (a : Int) (σ0 : Hp) (n : Nat) (v2 v3 v4 v5 : Int) (σ : Hp) : Prop := ∃ x i : Nat, v4 = x ∧ v5 = i ∧ v2 = (kn (nowM σ0).2.1 6 : Nat) ∧ x < 2 ^ kn (nowM σ0).2.1 6 ∧ i ≤ kn (nowM σ0).2.1 6 ∧ n = 20 * (4097 - x) + (12 - i) ∧ o01 a ∧ Fr hsl σ0 σ ∧ lkM σ (nowM σ0).2.1 (kn (nowM σ0).2.1 6) ∧ (∀ d, Bst (husP (famM d σ0) (nowM σ0)) x v3) ∧ (v3 < 0 ∨ pc x < pc v3.toNat) ∧ (∀ p, p < 6 → σ 91 (6 + p) = ((kfr (nowM σ0).2.1 (x % 2 ^ i) p 6 : Nat) : Int)) ∧ ∀ j, j < 6 ∨ 12 ≤ j → j < 16 → σ 91 j = σ0 90 j
def Mo_hush_bk : List (Nat × List Item) := [(0, [(.iload_n 1, 1, [], []), (.iconst 0, 1, [], []), (.iconst 1, 1, [], []), (.invokestatic 379, 3, [0], []), (.ifCond .ne 5, 3, [11], []), (.iconst (-1), 1, [], []), (.ireturn, 1, [], [])]),
  (11, [(.aload_n 0, 1, [], []), (.invokevirtual 444, 3, [1], []), (.istore_n 2, 1, [], []), (.iconst (-1), 1, [], []), (.istore_n 3, 1, [], []), (.iconst 0, 1, [], []), (.istore 4, 2, [], [])]),
  (21, [(.iload 4, 2, [], []), (.iconst 1, 1, [], []), (.iload_n 2, 1, [], []), (.ishl, 1, [], []), (.if_icmp .ge 104, 3, [130], []), (.iload_n 3, 1, [], []), (.ifCond .lt 18, 3, [48], []), (.iload 4, 2, [], []), (.invokestatic 416, 3, [2], []), (.iload_n 3, 1, [], []), (.invokestatic 416, 3, [2], []), (.if_icmp .lt 6, 3, [48], []), (.goto 79, 3, [124], [])]),
  (48, [(.aload_n 0, 1, [], []), (.invokevirtual 401, 3, [3], []), (.iconst 0, 1, [], []), (.istore 5, 2, [], [])]),
  (55, [(.iload 5, 2, [], []), (.iload_n 2, 1, [], []), (.if_icmp .ge 49, 3, [107], []), (.iload 4, 2, [], []), (.iload 5, 2, [], []), (.ishr, 1, [], []), (.iconst 1, 1, [], []), (.iand, 1, [], []), (.iconst 1, 1, [], []), (.if_icmp .ne 32, 3, [101], []), (.aload_n 0, 1, [], []), (.getfield 88, 3, [9, 47, 4, 24, 1, 16], []), (.bipush 6, 2, [], []), (.aload_n 0, 1, [], []), (.getfield 97, 3, [9, 52, 4, 27, 1, 12], []), (.iload 5, 2, [], []), (.iaload, 1, [], []), (.iadd, 1, [], []), (.dup2, 1, [], []), (.iaload, 1, [], []), (.iconst 1, 1, [], []), (.aload_n 0, 1, [], []), (.getfield 100, 3, [9, 53, 4, 28, 1, 12], []), (.iload 5, 2, [], []), (.iaload, 1, [], []), (.ishl, 1, [], []), (.iconst (-1), 1, [], []), (.ixor, 1, [], []), (.iand, 1, [], []), (.iastore, 1, [], [])]),
  (101, [(.iinc 5 1, 3, [], []), (.goto (-49), 3, [55], [])]),
  (107, [(.aload_n 0, 1, [], []), (.invokevirtual 435, 3, [4], []), (.aload_n 0, 1, [], []), (.getfield 88, 3, [9, 47, 4, 24, 1, 16], []), (.bipush 12, 2, [], []), (.iaload, 1, [], []), (.ifCond .ge 6, 3, [124], []), (.iload 4, 2, [], []), (.istore_n 3, 1, [], [])]),
  (124, [(.iinc 4 1, 3, [], []), (.goto (-106), 3, [21], [])]),
  (130, [(.iload_n 3, 1, [], []), (.ifCond .ge 7, 3, [138], []), (.iconst (-1), 1, [], []), (.goto 15, 3, [150], [])]),
  (138, [(.iload_n 1, 1, [], []), (.ifCond .ne 10, 3, [149], []), (.iload_n 3, 1, [], []), (.invokestatic 416, 3, [2], []), (.goto 4, 3, [150], [])]),
  (149, [(.iload_n 3, 1, [], [])]),
  (150, [(.ireturn, 1, [], [])])]
def Mo_hush_cl : List (Instr × Nat) := [(.invokestatic 379, 0), (.invokevirtual 444, 1), (.invokestatic 416, 2), (.invokevirtual 401, 3), (.invokevirtual 435, 4)]
set_option maxRecDepth 20000 in
theorem Mo_hush_ck : Mo_hush_bk.all (fun b => ax_chB 9 6 cX9_hush Mo_hush_cl b.1 b.2) = true := by decide +kernel
def Mo_hush_cs : Ct := (2, 10, 1, (0, 0), fun as σ => (match as with
    | [.inr (.inr (.inl (k, 0, 9))), .inl a1] => Mo_hush_pre k a1 σ
    | _ => False), fun as σ r σ' => (match as with
    | [.inr (.inr (.inl (k, 0, 9))), .inl a1] => Mo_hush_post k a1 σ r σ'
    | _ => False))
theorem Mo_hush_w : ∀ w ∈ ([.instanceMethod yX9_hush, .selects yX9_hush.cls yX9_hush yX9_hush, .initialized yX9_hush.cls, .code yX9_hush cX9_hush 6 (some .int)] : List Cond), w ∈ ax_tb := ax_w4 (ax_m7 210 (by decide +kernel) rfl) (ax_m7 211 (by decide +kernel) rfl) (ax_m1 10 (by decide +kernel) rfl) (ax_m7 212 (by decide +kernel) rfl)
theorem Mo_hush_ds : yX9_hush.cls ≠ "java/lang/invoke/MethodHandle" ∧ yX9_hush.cls ≠ "java/lang/invoke/VarHandle" ∧ (parseMethodDescriptor yX9_hush.desc).map (fun d => d.parameters.length) = some 1 := by decide +kernel
def Mo_hush_vc : Prop := ∀ (k : Nat) (a1 : Int) (σ : Hp), ax_H σ → Mo_hush_pre k a1 σ →
  Mo_isIn_pre a1 0 1 σ ∧
  ∀ (r2 : Int) (σ1 : Hp), Mo_isIn_post a1 0 1 σ r2 σ1 →
  (¬ r2 = 0 →
    Mo_layKnows_pre k σ1 ∧
    ∀ (r4 : Int) (σ3 : Hp), Mo_layKnows_post k σ1 r4 σ3 →
    ∃ n' : Nat, k = k ∧ a1 = a1 ∧ Mo_hush_I21 k a1 σ n' r4 (-1) 0 σ3) ∧
  (¬ (¬ r2 = 0) →
    Mo_hush_post k a1 σ (-1) σ1)
def Mo_hush_vc21 : Prop := ∀ (k : Nat) (a1 : Int) (σ0 : Hp), Mo_hush_pre k a1 σ0 → ∀ (n : Nat) (v2 : Int) (v3 : Int) (v4 : Int) (σ : Hp), ax_H σ → Mo_hush_I21 k a1 σ0 n v2 v3 v4 σ →
  (iShl 1 v2 ≤ v4 →
    (0 ≤ v3 →
      (¬ a1 = 0 →
        Mo_hush_post k a1 σ0 v3 σ) ∧
      (¬ (¬ a1 = 0) →
        Mo_members_pre v3 σ ∧
        ∀ (r2 : Int) (σ1 : Hp), Mo_members_post v3 σ r2 σ1 →
        Mo_hush_post k a1 σ0 r2 σ1)) ∧
    (¬ (0 ≤ v3) →
      Mo_hush_post k a1 σ0 (-1) σ)) ∧
  (¬ (iShl 1 v2 ≤ v4) →
    (v3 < 0 →
      Mo_load_pre k σ ∧
      ∀ σ3 : Hp, Mo_load_post k σ σ3 →
      ∃ n' : Nat, n' < n ∧ k = k ∧ a1 = a1 ∧ Mo_hush_I55 k a1 σ0 n' v2 v3 v4 0 σ3) ∧
    (¬ (v3 < 0) →
      Mo_members_pre v4 σ ∧
      ∀ (r5 : Int) (σ4 : Hp), Mo_members_post v4 σ r5 σ4 →
      Mo_members_pre v3 σ4 ∧
      ∀ (r7 : Int) (σ6 : Hp), Mo_members_post v3 σ4 r7 σ6 →
      (r5 < r7 →
        Mo_load_pre k σ6 ∧
        ∀ σ8 : Hp, Mo_load_post k σ6 σ8 →
        ∃ n' : Nat, n' < n ∧ k = k ∧ a1 = a1 ∧ Mo_hush_I55 k a1 σ0 n' v2 v3 v4 0 σ8) ∧
      (¬ (r5 < r7) →
        ∃ n' : Nat, n' < n ∧ k = k ∧ a1 = a1 ∧ Mo_hush_I21 k a1 σ0 n' v2 v3 (wr (v4 + 1)) σ6)))
def Mo_hush_vc55 : Prop := ∀ (k : Nat) (a1 : Int) (σ0 : Hp), Mo_hush_pre k a1 σ0 → ∀ (n : Nat) (v2 : Int) (v3 : Int) (v4 : Int) (v5 : Int) (σ : Hp), ax_H σ → Mo_hush_I55 k a1 σ0 n v2 v3 v4 v5 σ →
  (v2 ≤ v5 →
    Mo_goDay_pre k σ ∧
    ∀ σ1 : Hp, Mo_goDay_post k σ σ1 →
    (0 ≤ (12 : Int) ∧ (12 : Int) < 16) ∧
    (0 ≤ σ1 (k + 24) 12 →
      ∃ n' : Nat, n' < n ∧ k = k ∧ a1 = a1 ∧ Mo_hush_I21 k a1 σ0 n' v2 v3 (wr (v4 + 1)) σ1) ∧
    (¬ (0 ≤ σ1 (k + 24) 12) →
      ∃ n' : Nat, n' < n ∧ k = k ∧ a1 = a1 ∧ Mo_hush_I21 k a1 σ0 n' v2 v4 (wr (v4 + 1)) σ1)) ∧
  (¬ (v2 ≤ v5) →
    (¬ iAnd (iShr v4 v5) 1 = 1 →
      ∃ n' : Nat, n' < n ∧ k = k ∧ a1 = a1 ∧ Mo_hush_I55 k a1 σ0 n' v2 v3 v4 (wr (v5 + 1)) σ) ∧
    (¬ (¬ iAnd (iShr v4 v5) 1 = 1) →
      (0 ≤ v5 ∧ v5 < 12) ∧
      (0 ≤ wr (6 + (σ (k + 27) v5.toNat)) ∧ wr (6 + (σ (k + 27) v5.toNat)) < 16) ∧
      (0 ≤ v5 ∧ v5 < 12) ∧
      (0 ≤ wr (6 + (σ (k + 27) v5.toNat)) ∧ wr (6 + (σ (k + 27) v5.toNat)) < 16) ∧
      ∀ σ2 : Hp, σ2 = hp σ (k + 24) (wr (6 + (σ (k + 27) v5.toNat))).toNat (iAnd (σ (k + 24) (wr (6 + (σ (k + 27) v5.toNat))).toNat) (iXor (iShl 1 (σ (k + 28) v5.toNat)) (-1))) →
      ∃ n' : Nat, n' < n ∧ k = k ∧ a1 = a1 ∧ Mo_hush_I55 k a1 σ0 n' v2 v3 v4 (wr (v5 + 1)) σ2))
theorem Mo_hush_p : Mo_hush_vc := by
  intro k a σ hH hp
  obtain ⟨rfl, hP⟩ := hp
  have hN := hP.np
  have hk := hP.kn
  refine ⟨trivial, ?_⟩
  rintro r2 σ1 ⟨rfl, rfl⟩
  refine ⟨fun h => ⟨⟨rfl, hN, hk⟩, ?_⟩, fun h => om0 hP.1 (fun d => ?_)⟩
  · have h' := ite1 h
    rintro r4 σ3 ⟨g1, g2, g3⟩
    exact ⟨20 * 4097 + 15, rfl, rfl, 0, rfl, g2, Nat.zero_le _, rfl, by omega, g1.mono (by simp [hsl]), g3, fun d => Or.inr ⟨rfl, fun y hy => absurd hy (Nat.not_lt_zero y)⟩⟩
  · have h' := ite0' h
    show if _ then _ else _; rw [if_neg (fun z => h' (by omega))]
theorem p12 {n : Nat} (h : n ≤ 12) : 2 ^ n ≤ 4096 := Nat.pow_le_pow_right (n := 2) (by decide) h
theorem Mo_hush_p21 : Mo_hush_vc21 := by
  intro k a σ0 hp n v2 v3 v4 σ hH hI
  obtain ⟨rfl, hP⟩ := hp
  obtain ⟨x, rfl, rfl, hx, rfl, ha, hf, hlk, hB⟩ := hI
  have hN := hP.np
  have hk := hP.kn
  have h12 := p12 hk
  have hv3 : v3 = -1 ∨ (0 ≤ v3 ∧ v3 < (x : Int)) := Bst_R (hB 0)
  have es : iShl 1 ((kn (nowM σ0).2.1 6 : Nat) : Int) = ((2 ^ kn (nowM σ0).2.1 6 : Nat) : Int) := by rw [shl_1 (by omega) (by omega), Int.toNat_natCast]
  rw [es, wr1 (i := (x : Int)) (by omega) (by omega)]
  have ans : ∀ (r : Int) (σ1 : Hp), Fr hsl σ0 σ1 → x = 2 ^ kn (nowM σ0).2.1 6 → r = cos v3 a → Mo_hush_post 67 a σ0 r σ1 := by
    intro r σ1 f1 h hr
    refine om1 hP.1 f1 scm_hsl (fun d => ?_)
    show if _ then _ else _
    rw [if_pos ha]
    have hBd := hB d
    rw [h] at hBd
    exact ⟨v3, hBd, hr⟩
  have go : (v3 < 0 ∨ pc x < pc v3.toNat) → ¬ (((2 ^ kn (nowM σ0).2.1 6 : Nat) : Int) ≤ (x : Int)) → Mo_load_pre 67 σ ∧ ∀ σ3 : Hp, Mo_load_post 67 σ σ3 →
      ∃ n' : Nat, n' < 20 * (4097 - x) + 15 ∧ (67 : Nat) = 67 ∧ a = a ∧ Mo_hush_I55 67 a σ0 n' ((kn (nowM σ0).2.1 6 : Nat) : Int) v3 x 0 σ3 := by
    intro hbest h
    refine ⟨rfl, ?_⟩
    rintro σ3 ⟨g1, g2⟩
    have q : ∀ j, j < 16 → σ3 91 j = σ0 90 j := fun j hj => by rw [g2 j hj, hf 90 (by simp [hsl, af])]
    refine ⟨20 * (4097 - x) + 12, by omega, rfl, rfl, x, 0, rfl, rfl, rfl, by omega, Nat.zero_le _, rfl, ha, hf.tr (g1.mono (by simp [hsl, af])), ?_, hB, hbest, fun p hp6 => ?_, fun j _ hj => q j hj⟩
    · unfold lkM; rw [g1 94 (by decide), g1 95 (by decide)]; exact hlk
    · rw [q (6 + p) (by omega), ← now_k (σ := σ0) hp6, Nat.pow_zero, Nat.mod_one]
      have hkR := hN.2.1.2.1 p
      have : kfr (nowM σ0).2.1 0 p 6 = ((nowM σ0).2.1 p).toNat := by
        apply Nat.eq_of_testBit_eq
        intro o
        rw [kfr_t, Nat.zero_testBit]
        by_cases ho : o < 6
        · simp [ho]; rfl
        · have h64 : ((nowM σ0).2.1 p).toNat < 2 ^ 6 := by omega
          rw [Nat.testBit_lt_two_pow (Nat.lt_of_lt_of_le h64 (Nat.pow_le_pow_right (by decide) (by omega)))]
          simp [ho]
      rw [this]; omega
  refine ⟨fun h => ⟨fun h2 => ⟨fun h3 => ans _ _ hf (by omega) ?_, fun h3 => ⟨⟨h2, by omega⟩, ?_⟩⟩, fun h2 => ans _ _ hf (by omega) ?_⟩, fun h => ⟨fun h2 => go (Or.inl h2) h, fun h2 => ⟨⟨by omega, by omega⟩, ?_⟩⟩⟩
  · unfold cos; rw [if_pos (Or.inr (by omega))]
  · rintro r2 σ1 ⟨rfl, rfl⟩
    refine ans _ _ hf (by omega) ?_
    unfold cos; rw [if_neg (by omega)]
  · unfold cos; rw [if_pos (Or.inl (by omega))]; omega
  · rintro r5 σ4 ⟨rfl, rfl⟩
    refine ⟨⟨by omega, by omega⟩, ?_⟩
    rintro r7 σ6 ⟨rfl, rfl⟩
    rw [Int.toNat_natCast]
    exact ⟨fun h4 => go (Or.inr (by omega)) h, fun h4 => ⟨20 * (4097 - (x + 1)) + 15, by omega, rfl, rfl, x + 1, by simp, rfl, by omega, rfl, ha, hf, hlk, fun d => (hB d).old (by omega) (by omega)⟩⟩
theorem mod_bit {x i j : Nat} : (x % 2 ^ i).testBit j = (decide (j < i) && x.testBit j) := Nat.testBit_mod_two_pow x i j
theorem Mo_hush_p55 : Mo_hush_vc55 := by
  intro k a σ0 hp0 n v2 v3 v4 v5 σ hH hI
  obtain ⟨rfl, hP⟩ := hp0
  obtain ⟨x, i, rfl, rfl, rfl, hx, hi, rfl, ha, hf, hlk, hB, hbest, hkn, hrest⟩ := hI
  have hN := hP.np
  have hk := hP.kn
  have h12 := p12 hk
  rw [wr1 (i := (x : Int)) (by omega) (by omega), wr1 (i := (i : Int)) (by omega) (by omega)]
  refine ⟨fun h => ?_, fun h => ?_⟩
  · have ei : i = kn (nowM σ0).2.1 6 := by omega
    rw [ei, Nat.mod_eq_of_lt hx] at hkn
    have ea : airM σ = kfS (nowM σ0) x := kf_air hkn (fun p hp => (by show tr 6 (fun j => σ0 90 (0 + 6 + j)) p = 0; exact tr_out hp)) (fun j h1 h2 => by
      rw [hrest j h1 h2]
      by_cases e : j < 6
      · rw [if_pos e, now_c e]
      · have : j = 12 ∨ j = 13 ∨ j = 14 ∨ j = 15 := by omega
        rcases this with rfl | rfl | rfl | rfl <;> rfl) (fun j hj => (by show tr 6 (fun j => σ0 90 (0 + j)) j = 0; exact tr_out hj))
    have A := AP.kf hN hf ea
    have R : Rn σ0 σ (kfS (nowM σ0) x) 0 0 := ⟨A.1, A.2, fun d => ea, hN.2.1.2.2.1.2⟩
    obtain ⟨p1, p2⟩ := R.day (by omega)
    refine ⟨p1, fun σ1 g => ?_⟩
    obtain ⟨q1, q2⟩ := p2 σ1 g
    have f1 : Fr hsl σ0 σ1 := hf.tr (q1.mono (by simp [hsl, af]))
    have lk1 : lkM σ1 (nowM σ0).2.1 (kn (nowM σ0).2.1 6) := by unfold lkM; rw [q1 94 (by decide), q1 95 (by decide)]; exact hlk
    have hV : -1 ≤ σ1 91 12 := q2.1.2.2.1.1
    refine ⟨by decide, fun h2 => ⟨20 * (4097 - (x + 1)) + 15, by omega, rfl, rfl, x + 1, by simp, rfl, by omega, rfl, ha, f1, lk1, fun d => (hB d).no (fun z => ?_)⟩, fun h2 => ⟨20 * (4097 - (x + 1)) + 15, by omega, rfl, rfl, x + 1, by simp, rfl, by omega, rfl, ha, f1, lk1, fun d => (hB d).new ?_ hbest⟩⟩
    · have h2' : 0 ≤ σ1 91 12 := h2
      have z' : (itr (famM d σ0) 0 (kfS (nowM σ0) x) 1).2.2.1 = -1 := z
      have e : σ1 91 12 = (itr (famM d σ0) 0 (kfS (nowM σ0) x) 1).2.2.1 := q2.h d
      rw [e, z'] at h2'
      exact absurd h2' (by decide)
    · have h2' : ¬ 0 ≤ σ1 91 12 := h2
      have e : σ1 91 12 = (itr (famM d σ0) 0 (kfS (nowM σ0) x) 1).2.2.1 := q2.h d
      show (itr (famM d σ0) 0 (kfS (nowM σ0) x) 1).2.2.1 = -1
      rw [← e]
      clear h2 e
      omega
  · have hi' : i < kn (nowM σ0).2.1 6 := by omega
    rw [bit_01 (by omega) (by omega) (by omega) (by omega), Int.toNat_natCast, bt_n]
    refine ⟨fun h2 => ⟨20 * (4097 - x) + (12 - (i + 1)), by omega, rfl, rfl, x, i + 1, rfl, by simp, rfl, hx, by omega, rfl, ha, hf, hlk, hB, hbest, fun p hp6 => ?_, hrest⟩, fun h2 => ?_⟩
    · have : x % 2 ^ (i + 1) = x % 2 ^ i := by
        apply Nat.eq_of_testBit_eq
        intro j
        rw [mod_bit, mod_bit]
        by_cases e : j = i
        · subst e
          rw [Bool.not_eq_true] at h2
          rw [h2]; simp
        · have : decide (j < i + 1) = decide (j < i) := by
            by_cases z : j < i
            · simp [z]; omega
            · simp [z]; omega
          rw [this]
      rw [this]; exact hkn p hp6
    · have h2' : x.testBit i = true := Classical.not_not.mp h2
      obtain ⟨P, O, P6, O6, e1, e2, e3, e4⟩ := hlk i hi'
      have kR := kfr_lt (nowM σ0).2.1 (x % 2 ^ i) P 6
      have h2O : 2 ^ O < 2 ^ 6 := Nat.pow_lt_pow_right (by decide) O6
      rw [show σ (67 + 27) i = (P : Int) from e1, show σ (67 + 28) i = (O : Int) from e2, wr_id (x := 6 + (P : Int)) (by omega) (by omega), show ((6 : Int) + (P : Int)).toNat = 6 + P by omega, show σ (67 + 24) (6 + P) = ((kfr (nowM σ0).2.1 (x % 2 ^ i) P 6 : Nat) : Int) from hkn P P6, shl_1 (by omega) (by omega), Int.toNat_natCast, iAndN_n (by omega) (by omega)]
      refine ⟨⟨by omega, by omega⟩, ⟨by omega, by omega⟩, ⟨by omega, by omega⟩, ⟨by omega, by omega⟩, ?_⟩
      intro σ2 hs
      have q : ∀ j, σ2 91 j = if j = 6 + P then ((ndf (kfr (nowM σ0).2.1 (x % 2 ^ i) P 6) (2 ^ O) : Nat) : Int) else σ 91 j := fun j => by
        rw [hs]
        show hp σ 91 (6 + P) _ 91 j = _
        by_cases e : j = 6 + P
        · rw [e, hp_r1, if_pos rfl]
        · rw [hp_r2 (fun z => e z.2), if_neg e]
      refine ⟨20 * (4097 - x) + (12 - (i + 1)), by omega, rfl, rfl, x, i + 1, rfl, by simp, rfl, hx, by omega, rfl, ha, by rw [hs]; exact Fr.hp hf (by simp [hsl, af]), ?_, hB, hbest, fun p hp6 => ?_, fun j h1 h3 => by rw [q, if_neg (by omega)]; exact hrest j h1 h3⟩
      · unfold lkM; rw [hs, hp_ne (by decide), hp_ne (by decide)]; exact hlk
      · rw [q]
        by_cases e : p = P
        · rw [if_pos (by omega), e]
          congr 1
          apply Nat.eq_of_testBit_eq
          intro o
          rw [ndf_t, kfr_t, kfr_t, mod_bit, mod_bit, Nat.testBit_two_pow]
          by_cases eo : O = o
          · subst eo
            rw [e4, h2']
            simp
          · have hne : bt ((nowM σ0).2.1 P) o = true → o < 6 → ¬ ix (nowM σ0).2.1 P o = i := fun hb ho z => eo (ix_inj (by omega) (by omega) e3 hb (e4.trans z.symm)).2
            by_cases ho : o < 6
            · cases hb : bt ((nowM σ0).2.1 P) o with
              | false => simp
              | true =>
                have := hne hb ho
                have ed : decide (ix (nowM σ0).2.1 P o < i + 1) = decide (ix (nowM σ0).2.1 P o < i) := by
                  by_cases z : ix (nowM σ0).2.1 P o < i
                  · simp [z]; omega
                  · simp [z]; omega
                rw [ed]
                simp [eo]
            · simp [ho]
        · rw [if_neg (by omega), hkn p hp6]
          congr 1
          apply Nat.eq_of_testBit_eq
          intro o
          rw [kfr_t, kfr_t, mod_bit, mod_bit]
          by_cases ho : o < 6
          · cases hb : bt ((nowM σ0).2.1 p) o with
            | false => simp
            | true =>
              have : ¬ ix (nowM σ0).2.1 p o = i := fun z => e (ix_inj (by omega) (by omega) hb e3 (z.trans e4.symm)).1
              have ed : decide (ix (nowM σ0).2.1 p o < i + 1) = decide (ix (nowM σ0).2.1 p o < i) := by
                by_cases z : ix (nowM σ0).2.1 p o < i
                · simp [z]; omega
                · simp [z]; omega
              rw [ed]
          · simp [ho]
def Mo_hush_I : List AV → Hp → Nat → Nat → List AV → List AV → Hp → Prop := fun as σ0 pc n st ls σ => (match as with
    | [.inr (.inr (.inl (k, 0, 9))), .inl a1] => (bif Nat.beq pc 21 then (match st, ls with
      | [], [.inr (.inr (.inl (k', 0, 9))), .inl a1', .inl v2, .inl v3, .inl v4, _] => k = k' ∧ a1 = a1' ∧ Mo_hush_I21 k a1 σ0 n v2 v3 v4 σ
      | _, _ => False) else (bif Nat.beq pc 55 then (match st, ls with
      | [], [.inr (.inr (.inl (k', 0, 9))), .inl a1', .inl v2, .inl v3, .inl v4, .inl v5] => k = k' ∧ a1 = a1' ∧ Mo_hush_I55 k a1 σ0 n v2 v3 v4 v5 σ
      | _, _ => False) else False))
    | _ => False)
def Mo_hush_ct : Nat → Ct := fun n => match n with
  | 0 => Mo_isIn_cs
  | 1 => Mo_layKnows_cs
  | 2 => Mo_members_cs
  | 3 => Mo_load_cs
  | 4 => Mo_goDay_cs
  | _ => Mo_hush_cs
set_option maxRecDepth 20000 in
set_option maxHeartbeats 4000000 in
theorem Mo_hush_met {l : Launch} {D : va_G} {ad : Nat → Nat} {ca : Nat → ClassId} {L : Nat} {fx : Nat → Int} : ax_MC l D ad ca L fx yX9_hush cX9_hush 6 (some .int) 8 Mo_hush_cs := by
  refine ax_met (oc := 9) (ct := Mo_hush_ct) (calls := Mo_hush_cl) (bs := Mo_hush_bk) (cut := fun pc => Nat.beq pc 21 || Nat.beq pc 55) (f := 13) (I := Mo_hush_I) (by decide) rfl rfl Mo_hush_ck (List.forall_mem_cons.mpr ⟨ax_cwS Mo_isIn_met (by decide) (by decide) (ax_m7 83 (by decide +kernel) rfl) Mo_isIn_w rfl Mo_isIn_ds, List.forall_mem_cons.mpr ⟨ax_cwV Mo_layKnows_met (by decide) (by decide) rfl (by decide) rfl (ax_m7 213 (by decide +kernel) rfl) Mo_layKnows_w rfl Mo_layKnows_ds, List.forall_mem_cons.mpr ⟨ax_cwS Mo_members_met (by decide) (by decide) (ax_m7 146 (by decide +kernel) rfl) Mo_members_w rfl Mo_members_ds, List.forall_mem_cons.mpr ⟨ax_cwV Mo_load_met (by decide) (by decide) rfl (by decide) rfl (ax_m7 86 (by decide +kernel) rfl) Mo_load_w rfl Mo_load_ds, List.forall_mem_cons.mpr ⟨ax_cwV Mo_goDay_met (by decide) (by decide) rfl (by decide) rfl (ax_m7 189 (by decide +kernel) rfl) Mo_goDay_w rfl Mo_goDay_ds, fun _ h => absurd h List.not_mem_nil⟩⟩⟩⟩⟩) ?_ ?_
  · intro as σ0 hp hH
    match as, hp with
    | [.inr (.inr (.inl (k, 0, 9))), .inl a1], hp => exact ⟨rfl, Mo_hush_p k a1 σ0 hH hp⟩
  · intro as σ0 hp n pc st ls σ hH hI
    match as, hp, hI with
    | [.inr (.inr (.inl (k, 0, 9))), .inl a1], hp, hI =>
      rcases ax_bifE hI with ⟨hpc, hI⟩ | ⟨-, hI⟩
      · have := Nat.eq_of_beq_eq_true hpc
        subst this
        match st, ls, hI with
        | [], [.inr (.inr (.inl (k', 0, 9))), .inl a1', .inl v2, .inl v3, .inl v4, _], hI =>
          obtain ⟨rfl, rfl, hI⟩ := hI
          exact Mo_hush_p21 k a1 σ0 hp n v2 v3 v4 σ hH hI
      rcases ax_bifE hI with ⟨hpc, hI⟩ | ⟨-, hI⟩
      · have := Nat.eq_of_beq_eq_true hpc
        subst this
        match st, ls, hI with
        | [], [.inr (.inr (.inl (k', 0, 9))), .inl a1', .inl v2, .inl v3, .inl v4, .inl v5], hI =>
          obtain ⟨rfl, rfl, hI⟩ := hI
          exact Mo_hush_p55 k a1 σ0 hp n v2 v3 v4 v5 σ hH hI
      exact False.elim hI
