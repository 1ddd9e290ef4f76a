-- THE MODEL: pluck, dye, undo, redo, sights told, boxes, text
theorem wry_hair {F : Fam} {s : Sta} {h : Int} {p : Nat} (h1 : ¬ s.2.2.1 = (p : Int)) (h2 : ¬ h = (p : Int)) : wry F (s.1, s.2.1, h, s.2.2.2) p = wry F s p := by
  unfold wry
  have e1 : (if s.2.2.1 = (p : Int) then (1 : Int) else 0) = 0 := if_neg h1
  have e2 : (if (s.1, s.2.1, h, s.2.2.2).2.2.1 = (p : Int) then (1 : Int) else 0) = 0 := if_neg h2
  rw [e1, e2]
  rfl
theorem goes_out {F : Fam} {s : Sta} {h o : Int} (h1 : s.2.2.1 = o) (h2 : h < 0) : goes F (s.1, s.2.1, h, s.2.2.2) o = goes F s o := by
  unfold goes
  have : ∀ i, mwr F (s.1, s.2.1, h, s.2.2.2) o i = mwr F s o i := by
    intro i
    induction i with
    | zero => rfl
    | succ i ih =>
      rw [mwr_s, mwr_s, ih]
      by_cases e : (i : Int) = o
      · rw [if_pos e, if_pos e]
      · rw [if_neg e, if_neg e, wry_hair (by omega) (by omega)]
  rw [this]
def Mo_pluck_pre (k : Nat) (σ : Hp) : Prop := k = 67 ∧ MP σ
def Mo_pluck_post (_k : Nat) (σ : Hp) (r : Int) (σ' : Hp) : Prop := MQo σ σ' ∧ ∀ d, s_pluck (mA d σ) r (mA d σ')
def Mo_pluck_bk : List (Nat × List Item) := [(0, [(.aload_n 0, 1, [], []), (.getfield 85, 3, [9, 46, 4, 23, 1, 16], []), (.bipush 12, 2, [], []), (.iaload, 1, [], []), (.ifCond .ge 6, 3, [13], []), (.bipush (-2), 2, [], []), (.ireturn, 1, [], [])]),
  (13, [(.aload_n 0, 1, [], []), (.invokevirtual 407, 3, [0], []), (.aload_n 0, 1, [], []), (.getfield 88, 3, [9, 47, 4, 24, 1, 16], []), (.bipush 12, 2, [], []), (.iaload, 1, [], []), (.istore_n 1, 1, [], []), (.aload_n 0, 1, [], []), (.getfield 88, 3, [9, 47, 4, 24, 1, 16], []), (.bipush 12, 2, [], []), (.iconst (-1), 1, [], []), (.iastore, 1, [], []), (.aload_n 0, 1, [], []), (.iload_n 1, 1, [], []), (.invokevirtual 361, 3, [1], []), (.aload_n 0, 1, [], []), (.getfield 88, 3, [9, 47, 4, 24, 1, 16], []), (.bipush 13, 2, [], []), (.iconst 0, 1, [], []), (.iastore, 1, [], []), (.aload_n 0, 1, [], []), (.invokevirtual 364, 3, [2], []), (.aload_n 0, 1, [], []), (.getfield 85, 3, [9, 46, 4, 23, 1, 16], []), (.bipush 12, 2, [], []), (.iaload, 1, [], []), (.ireturn, 1, [], [])])]
def Mo_pluck_cl : List (Instr × Nat) := [(.invokevirtual 407, 0), (.invokevirtual 361, 1), (.invokevirtual 364, 2)]
set_option maxRecDepth 20000 in
theorem Mo_pluck_ck : Mo_pluck_bk.all (fun b => ax_chB 9 2 cX9_pluck Mo_pluck_cl b.1 b.2) = true := by decide +kernel
def Mo_pluck_cs : Ct := (1, 10, 1, (0, 0), fun as σ => (match as with
    | [.inr (.inr (.inl (k, 0, 9)))] => Mo_pluck_pre k σ
    | _ => False), fun as σ r σ' => (match as with
    | [.inr (.inr (.inl (k, 0, 9)))] => Mo_pluck_post k σ r σ'
    | _ => False))
theorem Mo_pluck_w : ∀ w ∈ ([.instanceMethod yX9_pluck, .selects yX9_pluck.cls yX9_pluck yX9_pluck, .initialized yX9_pluck.cls, .code yX9_pluck cX9_pluck 2 (some .int)] : List Cond), w ∈ ax_tb := ax_w4 (ax_m7 158 (by decide +kernel) rfl) (ax_m7 159 (by decide +kernel) rfl) (ax_m1 10 (by decide +kernel) rfl) (ax_m7 160 (by decide +kernel) rfl)
theorem Mo_pluck_ds : yX9_pluck.cls ≠ "java/lang/invoke/MethodHandle" ∧ yX9_pluck.cls ≠ "java/lang/invoke/VarHandle" ∧ (parseMethodDescriptor yX9_pluck.desc).map (fun d => d.parameters.length) = some 0 := by decide +kernel
def Mo_pluck_vc : Prop := ∀ (k : Nat) (σ : Hp), ax_H σ → Mo_pluck_pre k σ →
  (0 ≤ (12 : Int) ∧ (12 : Int) < 16) ∧
  (0 ≤ σ (k + 23) 12 →
    Mo_act_pre k σ ∧
    ∀ σ1 : Hp, Mo_act_post k σ σ1 →
    (0 ≤ (12 : Int) ∧ (12 : Int) < 16) ∧
    (0 ≤ (12 : Int) ∧ (12 : Int) < 16) ∧
    ∀ σ2 : Hp, σ2 = hp σ1 (k + 24) 12 (-1) →
    Mo_goHair_pre k (σ1 (k + 24) 12) σ2 ∧
    ∀ σ3 : Hp, Mo_goHair_post k (σ1 (k + 24) 12) σ2 σ3 →
    (0 ≤ (13 : Int) ∧ (13 : Int) < 16) ∧
    ∀ σ4 : Hp, σ4 = hp σ3 (k + 24) 13 0 →
    Mo_keepAir_pre k σ4 ∧
    ∀ σ5 : Hp, Mo_keepAir_post k σ4 σ5 →
    (0 ≤ (12 : Int) ∧ (12 : Int) < 16) ∧
    Mo_pluck_post k σ (σ5 (k + 23) 12) σ5) ∧
  (¬ (0 ≤ σ (k + 23) 12) →
    Mo_pluck_post k σ (-2) σ)
theorem Mo_pluck_p : Mo_pluck_vc := by
  intro k σ hH hp0
  obtain ⟨rfl, hP⟩ := hp0
  have hN := hP.np
  have hV : -1 ≤ (nowM σ).2.2.1 := hN.2.2.1.1
  have e12 : σ (67 + 23) 12 = (nowM σ).2.2.1 := rfl
  rw [e12]
  refine ⟨by decide, fun h => ⟨hP.act, ?_⟩, fun h => ⟨⟨hP.1, fun _ _ => rfl⟩, fun d => ?_⟩⟩
  · intro σ1 hac
    have L := actQ.load hP hac
    have e91 : σ1 (67 + 24) 12 = (nowM σ).2.2.1 := hac.2.2.2.2.2 12 (by decide)
    rw [e91]
    refine ⟨by decide, by decide, ?_⟩
    intro σ2 hs
    have f2 : Fr af σ1 σ2 := by rw [hs]; exact Fr.hp Fr.rf (by simp [af])
    have q2 : ∀ j, ¬ j = 12 → σ2 91 j = σ1 91 j := fun j hj => by rw [hs]; exact hp_r2 (fun z => hj z.2)
    have q12 : σ2 91 12 = -1 := by rw [hs]; exact hp_r1
    have ea : airM σ2 = ((nowM σ).1, (nowM σ).2.1, -1, (nowM σ).2.2.2) := by
      rw [← L.2.2]
      show stR (σ2 91) 0 = _
      unfold stR
      refine Prod.ext (tr_ext fun j hj => q2 _ (by omega)) (Prod.ext (tr_ext fun j hj => q2 _ (by omega)) ?_)
      show (σ2 91 12, σ2 91 14, σ2 91 15, σ2 91 13) = (-1, σ1 91 14, σ1 91 15, σ1 91 13)
      rw [q12, q2 13 (by decide), q2 14 (by decide), q2 15 (by decide)]
    have e67 : σ2 67 = σ1 67 := f2 67 (by decide)
    have K := L.1.1.keep (σ' := σ2) (by rw [e67]) (by rw [e67]) (by rw [e67]) (fun c hc => f2 c (by simp [af]; omega))
    have hA2 : AP σ2 := by
      have e42 : σ2 67 42 = σ 67 42 := by rw [e67]; exact hac.2.1 42 (by decide) (by decide)
      refine ⟨K.1, ?_, ?_⟩
      · rw [ea]; exact ⟨hN.2.1.1, hN.2.1.2.1, ⟨hN.2.1.2.2.1.1, Int.le_trans hN.2.1.2.2.1.2 (by decide)⟩, hN.2.1.2.2.2⟩
      · rw [ea, e42]; exact ⟨⟨Int.le_refl (-1), by show (-1 : Int) < _; omega⟩, hN.2.2.2.1, hN.2.2.2.2⟩
    refine ⟨⟨rfl, hA2⟩, ?_⟩
    rintro σ3 ⟨g1, g2, g3⟩
    refine ⟨by decide, ?_⟩
    intro σ4 hs4
    have q4 : ∀ j, ¬ j = 13 → σ4 91 j = σ3 91 j := fun j hj => by rw [hs4]; exact hp_r2 (fun z => hj z.2)
    have q13 : σ4 91 13 = 0 := by rw [hs4]; exact hp_r1
    have f4 : Fr af σ3 σ4 := by rw [hs4]; exact Fr.hp Fr.rf (by simp [af])
    refine ⟨rfl, fun σ5 g => ⟨by decide, ?_⟩⟩
    have P := actQ.pic hP.1 hac (σ' := σ5) (cs := 90 :: af) ((((f2.tr (g1.mono (by simp [af]))).tr f4).mono (fun c hc => List.mem_cons_of_mem _ hc)).tr (g.1.mono (by simp))) kA_scm
    have en : ∀ d, nowM σ5 = plk (famM d σ) (nowM σ) := by
      intro d
      rw [now_air g]
      unfold plk
      rw [← goes_out (F := famM d σ) (s := nowM σ) (h := -1) rfl (by decide), ← ea, ← L.2.1 d, ← K.2 d, ← g3 d]
      have : nowM σ = ((airM σ1).1, (airM σ1).2.1, (airM σ1).2.2.1, (airM σ1).2.2.2.1, (airM σ1).2.2.2.2.1, (airM σ1).2.2.2.2.2) := L.2.2.symm
      rw [this]
      show stR (σ4 91) 0 = _
      unfold stR
      refine Prod.ext (tr_ext fun j hj => ?_) (Prod.ext (tr_ext fun j hj => ?_) ?_)
      · rw [q4 _ (by omega), g2 _ (by omega), q2 _ (by omega)]
      · rw [q4 _ (by omega), g2 _ (by omega), q2 _ (by omega)]
      · show (σ4 91 12, σ4 91 14, σ4 91 15, σ4 91 13) = (σ3 91 12, σ1 91 14, σ1 91 15, 0)
        rw [q4 12 (by decide), q13, q4 14 (by decide), q4 15 (by decide), g2 14 (by decide), g2 15 (by decide), q2 14 (by decide), q2 15 (by decide)]
    refine ⟨P.1, fun d => ?_⟩
    unfold s_pluck
    rw [if_neg (show ¬ (aS (mA d σ)).2.2.1 = -1 from (by show ¬ (nowM σ).2.2.1 = -1; omega)), P.2 d]
    refine ⟨?_, by rw [en d]; rfl⟩
    show (nowM σ5).2.2.1 = _
    rw [en d]; rfl
  · unfold s_pluck
    rw [if_pos (show (aS (mA d σ)).2.2.1 = -1 from (by show (nowM σ).2.2.1 = -1; omega))]
    exact ⟨rfl, rfl⟩
def Mo_pluck_I : List AV → Hp → Nat → Nat → List AV → List AV → Hp → Prop := fun as σ0 pc n st ls σ => (match as with
    | [.inr (.inr (.inl (k, 0, 9)))] => False
    | _ => False)
def Mo_pluck_ct : Nat → Ct := fun n => match n with
  | 0 => Mo_act_cs
  | 1 => Mo_goHair_cs
  | 2 => Mo_keepAir_cs
  | _ => Mo_pluck_cs
set_option maxRecDepth 20000 in
set_option maxHeartbeats 4000000 in
theorem Mo_pluck_met {l : Launch} {D : va_G} {ad : Nat → Nat} {ca : Nat → ClassId} {L : Nat} {fx : Nat → Int} : ax_MC l D ad ca L fx yX9_pluck cX9_pluck 2 (some .int) 6 Mo_pluck_cs := by
  refine ax_met (oc := 9) (ct := Mo_pluck_ct) (calls := Mo_pluck_cl) (bs := Mo_pluck_bk) (cut := fun pc => false) (f := 3) (I := Mo_pluck_I) (by decide) rfl rfl Mo_pluck_ck (List.forall_mem_cons.mpr ⟨ax_cwV Mo_act_met (by decide) (by decide) rfl (by decide) rfl (ax_m7 102 (by decide +kernel) rfl) Mo_act_w rfl Mo_act_ds, List.forall_mem_cons.mpr ⟨ax_cwV Mo_goHair_met (by decide) (by decide) rfl (by decide) rfl (ax_m7 42 (by decide +kernel) rfl) Mo_goHair_w rfl Mo_goHair_ds, List.forall_mem_cons.mpr ⟨ax_cwV Mo_keepAir_met (by decide) (by decide) rfl (by decide) rfl (ax_m7 67 (by decide +kernel) rfl) Mo_keepAir_w rfl Mo_keepAir_ds, fun _ h => absurd h List.not_mem_nil⟩⟩⟩) ?_ ?_
  · intro as σ0 hp hH
    match as, hp with
    | [.inr (.inr (.inl (k, 0, 9)))], hp => exact ⟨rfl, Mo_pluck_p k σ0 hH hp⟩
  · intro as σ0 hp n pc st ls σ hH hI
    match as, hp, hI with
    | [.inr (.inr (.inl (k, 0, 9)))], hp, hI => exact False.elim hI
def Mo_dye_pre (k : Nat) (σ : Hp) : Prop := k = 67 ∧ MP σ
def Mo_dye_post (_k : Nat) (σ : Hp) (r : Int) (σ' : Hp) : Prop := MQo σ σ' ∧ ∀ d, s_dye (mA d σ) r (mA d σ')
def Mo_dye_bk : List (Nat × List Item) := [(0, [(.aload_n 0, 1, [], []), (.getfield 85, 3, [9, 46, 4, 23, 1, 16], []), (.bipush 13, 2, [], []), (.iaload, 1, [], []), (.iconst 1, 1, [], []), (.if_icmp .eq 13, 3, [21], []), (.aload_n 0, 1, [], []), (.getfield 85, 3, [9, 46, 4, 23, 1, 16], []), (.bipush 12, 2, [], []), (.iaload, 1, [], []), (.ifCond .ge 5, 3, [23], [])]),
  (21, [(.iconst (-1), 1, [], []), (.ireturn, 1, [], [])]),
  (23, [(.aload_n 0, 1, [], []), (.invokevirtual 407, 3, [0], []), (.aload_n 0, 1, [], []), (.getfield 85, 3, [9, 46, 4, 23, 1, 16], []), (.bipush 13, 2, [], []), (.iconst 1, 1, [], []), (.iastore, 1, [], []), (.aload_n 0, 1, [], []), (.getfield 85, 3, [9, 46, 4, 23, 1, 16], []), (.bipush 12, 2, [], []), (.iaload, 1, [], []), (.ireturn, 1, [], [])])]
def Mo_dye_cl : List (Instr × Nat) := [(.invokevirtual 407, 0)]
set_option maxRecDepth 20000 in
theorem Mo_dye_ck : Mo_dye_bk.all (fun b => ax_chB 9 1 cX9_dye Mo_dye_cl b.1 b.2) = true := by decide +kernel
def Mo_dye_cs : Ct := (1, 10, 1, (0, 0), fun as σ => (match as with
    | [.inr (.inr (.inl (k, 0, 9)))] => Mo_dye_pre k σ
    | _ => False), fun as σ r σ' => (match as with
    | [.inr (.inr (.inl (k, 0, 9)))] => Mo_dye_post k σ r σ'
    | _ => False))
theorem Mo_dye_w : ∀ w ∈ ([.instanceMethod yX9_dye, .selects yX9_dye.cls yX9_dye yX9_dye, .initialized yX9_dye.cls, .code yX9_dye cX9_dye 1 (some .int)] : List Cond), w ∈ ax_tb := ax_w4 (ax_m7 162 (by decide +kernel) rfl) (ax_m7 163 (by decide +kernel) rfl) (ax_m1 10 (by decide +kernel) rfl) (ax_m7 164 (by decide +kernel) rfl)
theorem Mo_dye_ds : yX9_dye.cls ≠ "java/lang/invoke/MethodHandle" ∧ yX9_dye.cls ≠ "java/lang/invoke/VarHandle" ∧ (parseMethodDescriptor yX9_dye.desc).map (fun d => d.parameters.length) = some 0 := by decide +kernel
def Mo_dye_vc : Prop := ∀ (k : Nat) (σ : Hp), ax_H σ → Mo_dye_pre k σ →
  (0 ≤ (13 : Int) ∧ (13 : Int) < 16) ∧
  (σ (k + 23) 13 = 1 →
    Mo_dye_post k σ (-1) σ) ∧
  (¬ (σ (k + 23) 13 = 1) →
    (0 ≤ (12 : Int) ∧ (12 : Int) < 16) ∧
    (0 ≤ σ (k + 23) 12 →
      Mo_act_pre k σ ∧
      ∀ σ1 : Hp, Mo_act_post k σ σ1 →
      (0 ≤ (13 : Int) ∧ (13 : Int) < 16) ∧
      ∀ σ2 : Hp, σ2 = hp σ1 (k + 23) 13 1 →
      (0 ≤ (12 : Int) ∧ (12 : Int) < 16) ∧
      Mo_dye_post k σ (σ2 (k + 23) 12) σ2) ∧
    (¬ (0 ≤ σ (k + 23) 12) →
      Mo_dye_post k σ (-1) σ))
theorem Mo_dye_p : Mo_dye_vc := by
  intro k σ hH hp0
  obtain ⟨rfl, hP⟩ := hp0
  have hN := hP.np
  have hV : -1 ≤ (nowM σ).2.2.1 := hN.2.2.1.1
  have hd : (nowM σ).2.2.2.2.2 = 0 ∨ (nowM σ).2.2.2.2.2 = 1 := hP.d01
  have e12 : σ (67 + 23) 12 = (nowM σ).2.2.1 := rfl
  have e13 : σ (67 + 23) 13 = (nowM σ).2.2.2.2.2 := rfl
  rw [e12, e13]
  have no : (¬ (nowM σ).2.2.2.2.2 = 0 ∨ (nowM σ).2.2.1 = -1) → Mo_dye_post 67 σ (-1) σ := by
    intro h
    refine ⟨⟨hP.1, fun _ _ => rfl⟩, fun d => ?_⟩
    unfold s_dye
    rw [if_pos (show ¬ (aS (mA d σ)).2.2.2.2.2 = 0 ∨ (aS (mA d σ)).2.2.1 = -1 from h)]
    exact ⟨rfl, rfl⟩
  refine ⟨by decide, fun h => no (Or.inl (by omega)), fun h => ⟨by decide, fun h2 => ⟨hP.act, ?_⟩, fun h2 => no (Or.inr (by omega))⟩⟩
  intro σ1 hac
  refine ⟨by decide, ?_⟩
  intro σ2 hs
  refine ⟨by decide, ?_⟩
  have f2 : Fr [90] σ1 σ2 := by rw [hs]; exact Fr.hp Fr.rf (by simp)
  have e90 : σ1 90 = σ 90 := hac.1 90 (by simp)
  have P := actQ.pic hP.1 hac f2 (by simp)
  have q : ∀ j, ¬ j = 13 → σ2 90 j = σ 90 j := fun j hj => by rw [hs, ← e90]; exact hp_r2 (fun z => hj z.2)
  have q13 : σ2 90 13 = 1 := by rw [hs]; exact hp_r1
  have en : nowM σ2 = dyd (nowM σ) := by
    show stR (σ2 90) 0 = _
    unfold stR dyd
    refine Prod.ext (tr_ext fun j hj => q _ (by omega)) (Prod.ext (tr_ext fun j hj => q _ (by omega)) ?_)
    show (σ2 90 12, σ2 90 14, σ2 90 15, σ2 90 13) = (σ 90 12, σ 90 14, σ 90 15, 1)
    rw [q13, q 12 (by decide), q 14 (by decide), q 15 (by decide)]
  refine ⟨P.1, fun d => ?_⟩
  unfold s_dye
  rw [if_neg (show ¬ (¬ (aS (mA d σ)).2.2.2.2.2 = 0 ∨ (aS (mA d σ)).2.2.1 = -1) from (by show ¬ (¬ (nowM σ).2.2.2.2.2 = 0 ∨ (nowM σ).2.2.1 = -1); omega)), P.2 d, en]
  exact ⟨q 12 (by decide), rfl⟩
def Mo_dye_I : List AV → Hp → Nat → Nat → List AV → List AV → Hp → Prop := fun as σ0 pc n st ls σ => (match as with
    | [.inr (.inr (.inl (k, 0, 9)))] => False
    | _ => False)
def Mo_dye_ct : Nat → Ct := fun n => match n with
  | 0 => Mo_act_cs
  | _ => Mo_dye_cs
set_option maxRecDepth 20000 in
set_option maxHeartbeats 4000000 in
theorem Mo_dye_met {l : Launch} {D : va_G} {ad : Nat → Nat} {ca : Nat → ClassId} {L : Nat} {fx : Nat → Int} : ax_MC l D ad ca L fx yX9_dye cX9_dye 1 (some .int) 3 Mo_dye_cs := by
  refine ax_met (oc := 9) (ct := Mo_dye_ct) (calls := Mo_dye_cl) (bs := Mo_dye_bk) (cut := fun pc => false) (f := 4) (I := Mo_dye_I) (by decide) rfl rfl Mo_dye_ck (List.forall_mem_cons.mpr ⟨ax_cwV Mo_act_met (by decide) (by decide) rfl (by decide) rfl (ax_m7 102 (by decide +kernel) rfl) Mo_act_w rfl Mo_act_ds, fun _ h => absurd h List.not_mem_nil⟩) ?_ ?_
  · intro as σ0 hp hH
    match as, hp with
    | [.inr (.inr (.inl (k, 0, 9)))], hp => exact ⟨rfl, Mo_dye_p k σ0 hH hp⟩
  · intro as σ0 hp n pc st ls σ hH hI
    match as, hp, hI with
    | [.inr (.inr (.inl (k, 0, 9)))], hp, hI => exact False.elim hI
def Mo_exchange_pre (k : Nat) (a : Int) (_σ : Hp) : Prop := k = 67 ∧ 0 ≤ a ∧ a ≤ 624
def Mo_exchange_post (_k : Nat) (a : Int) (σ σ' : Hp) : Prop := Fr [90, 93] σ σ' ∧ (∀ j, j < 16 → σ' 90 j = σ 93 (a.toNat + j)) ∧ (∀ j, j < 16 → σ' 93 (a.toNat + j) = σ 90 j) ∧ ∀ j, j < a.toNat ∨ a.toNat + 16 ≤ j → σ' 93 j = σ 93 j
def Mo_exchange_I2 (_k : Nat) (a : Int) (σ0 : Hp) (n : Nat) (v2 : Int) (σ : Hp) : Prop := ∃ i : Nat, v2 = i ∧ i ≤ 16 ∧ n = 16 - i ∧ Fr [90, 93] σ0 σ ∧ (∀ j, σ 90 j = if j < i then σ0 93 (a.toNat + j) else σ0 90 j) ∧ (∀ j, σ 93 j = if a.toNat ≤ j ∧ j < a.toNat + i then σ0 90 (j - a.toNat) else σ0 93 j)
def Mo_exchange_bk : List (Nat × List Item) := [(0, [(.iconst 0, 1, [], []), (.istore_n 2, 1, [], [])]),
  (2, [(.iload_n 2, 1, [], []), (.bipush 16, 2, [], []), (.if_icmp .ge 39, 3, [44], []), (.aload_n 0, 1, [], []), (.getfield 94, 3, [9, 49, 4, 26, 1, 640], []), (.iload_n 1, 1, [], []), (.iload_n 2, 1, [], []), (.iadd, 1, [], []), (.iaload, 1, [], []), (.istore_n 3, 1, [], []), (.aload_n 0, 1, [], []), (.getfield 94, 3, [9, 49, 4, 26, 1, 640], []), (.iload_n 1, 1, [], []), (.iload_n 2, 1, [], []), (.iadd, 1, [], []), (.aload_n 0, 1, [], []), (.getfield 85, 3, [9, 46, 4, 23, 1, 16], []), (.iload_n 2, 1, [], []), (.iaload, 1, [], []), (.iastore, 1, [], []), (.aload_n 0, 1, [], []), (.getfield 85, 3, [9, 46, 4, 23, 1, 16], []), (.iload_n 2, 1, [], []), (.iload_n 3, 1, [], []), (.iastore, 1, [], []), (.iinc 2 1, 3, [], []), (.goto (-39), 3, [2], [])]),
  (44, [(.return_, 1, [], [])])]
def Mo_exchange_cl : List (Instr × Nat) := []
set_option maxRecDepth 20000 in
theorem Mo_exchange_ck : Mo_exchange_bk.all (fun b => ax_chB 9 4 cX9_exchange Mo_exchange_cl b.1 b.2) = true := by decide +kernel
def Mo_exchange_cs : Ct := (2, 10, 0, (0, 0), fun as σ => (match as with
    | [.inr (.inr (.inl (k, 0, 9))), .inl a1] => Mo_exchange_pre k a1 σ
    | _ => False), fun as σ r σ' => (match as with
    | [.inr (.inr (.inl (k, 0, 9))), .inl a1] => Mo_exchange_post k a1 σ σ'
    | _ => False))
theorem Mo_exchange_w : ∀ w ∈ ([.instanceMethod yX9_exchange, .selects yX9_exchange.cls yX9_exchange yX9_exchange, .initialized yX9_exchange.cls, .code yX9_exchange cX9_exchange 4 none] : List Cond), w ∈ ax_tb := ax_w4 (ax_m7 171 (by decide +kernel) rfl) (ax_m0 52 (by decide +kernel) rfl) (ax_m1 10 (by decide +kernel) rfl) (ax_m7 172 (by decide +kernel) rfl)
theorem Mo_exchange_ds : yX9_exchange.cls ≠ "java/lang/invoke/MethodHandle" ∧ yX9_exchange.cls ≠ "java/lang/invoke/VarHandle" ∧ (parseMethodDescriptor yX9_exchange.desc).map (fun d => d.parameters.length) = some 1 := by decide +kernel
def Mo_exchange_vc : Prop := ∀ (k : Nat) (a1 : Int) (σ : Hp), ax_H σ → Mo_exchange_pre k a1 σ →
  ∃ n' : Nat, k = k ∧ a1 = a1 ∧ Mo_exchange_I2 k a1 σ n' 0 σ
def Mo_exchange_vc2 : Prop := ∀ (k : Nat) (a1 : Int) (σ0 : Hp), Mo_exchange_pre k a1 σ0 → ∀ (n : Nat) (v2 : Int) (σ : Hp), ax_H σ → Mo_exchange_I2 k a1 σ0 n v2 σ →
  (16 ≤ v2 →
    Mo_exchange_post k a1 σ0 σ) ∧
  (¬ (16 ≤ v2) →
    (0 ≤ wr (a1 + v2) ∧ wr (a1 + v2) < 640) ∧
    (0 ≤ v2 ∧ v2 < 16) ∧
    (0 ≤ wr (a1 + v2) ∧ wr (a1 + v2) < 640) ∧
    ∀ σ1 : Hp, σ1 = hp σ (k + 26) (wr (a1 + v2)).toNat (σ (k + 23) v2.toNat) →
    (0 ≤ v2 ∧ v2 < 16) ∧
    ∀ σ2 : Hp, σ2 = hp σ1 (k + 23) v2.toNat (σ (k + 26) (wr (a1 + v2)).toNat) →
    ∃ n' : Nat, n' < n ∧ k = k ∧ a1 = a1 ∧ Mo_exchange_I2 k a1 σ0 n' (wr (v2 + 1)) σ2)
theorem Mo_exchange_p : Mo_exchange_vc := by
  intro k a σ hH hp
  exact ⟨16, rfl, rfl, 0, rfl, by omega, rfl, Fr.rf, fun j => by rw [if_neg (Nat.not_lt_zero j)], fun j => by rw [if_neg (by omega)]⟩
theorem Mo_exchange_p2 : Mo_exchange_vc2 := by
  intro k a σ0 hp0 n v2 σ hH hI
  obtain ⟨rfl, a0, a6⟩ := hp0
  obtain ⟨i, rfl, hi, rfl, hf, h90, h93⟩ := hI
  refine ⟨fun h => ?_, fun h => ?_⟩
  · have ei : i = 16 := by omega
    subst ei
    refine ⟨hf, fun j hj => by rw [h90, if_pos hj], fun j hj => by rw [h93, if_pos (by omega), Nat.add_sub_cancel_left], fun j hj => by rw [h93, if_neg (by omega)]⟩
  · rw [wr_id (x := a + (i : Int)) (by omega) (by omega), wr1 (by omega) (by omega), Int.toNat_natCast, show (a + (i : Int)).toNat = a.toNat + i by omega]
    refine ⟨⟨by omega, by omega⟩, ⟨by omega, by omega⟩, ⟨by omega, by omega⟩, ?_⟩
    intro σ1 hs1
    refine ⟨⟨by omega, by omega⟩, ?_⟩
    intro σ2 hs2
    have q90 : ∀ j, σ2 90 j = if j = i then σ 93 (a.toNat + i) else σ 90 j := by
      intro j
      rw [hs2]
      show hp σ1 90 i (σ 93 (a.toNat + i)) 90 j = _
      by_cases e : j = i
      · rw [e, hp_r1, if_pos rfl]
      · rw [hp_r2 (fun z => e z.2), if_neg e, hs1]; exact congrFun (hp_ne (by decide)) j
    have q93 : ∀ j, σ2 93 j = if j = a.toNat + i then σ 90 i else σ 93 j := by
      intro j
      have : σ2 93 = σ1 93 := by rw [hs2]; exact hp_ne (by decide)
      rw [this, hs1]
      show hp σ 93 (a.toNat + i) (σ 90 i) 93 j = _
      by_cases e : j = a.toNat + i
      · rw [e, hp_r1, if_pos rfl]
      · rw [hp_r2 (fun z => e z.2), if_neg e]
    refine ⟨16 - (i + 1), by omega, rfl, rfl, i + 1, by simp, by omega, rfl, by rw [hs2, hs1]; exact Fr.hp (Fr.hp hf (by simp)) (by simp), fun j => ?_, fun j => ?_⟩
    · rw [q90, h90, h93, if_neg (show ¬ (a.toNat ≤ a.toNat + i ∧ a.toNat + i < a.toNat + i) by omega)]
      by_cases e : j = i
      · rw [if_pos e, if_pos (by omega), e]
      · rw [if_neg e]
        by_cases e2 : j < i
        · rw [if_pos e2, if_pos (by omega)]
        · rw [if_neg e2, if_neg (by omega)]
    · rw [q93, h93, h90, if_neg (Nat.lt_irrefl i)]
      by_cases e : j = a.toNat + i
      · rw [if_pos e, if_pos (by omega), e, Nat.add_sub_cancel_left]
      · rw [if_neg e]
        by_cases e2 : a.toNat ≤ j ∧ j < a.toNat + i
        · rw [if_pos e2, if_pos (by omega)]
        · rw [if_neg e2, if_neg (by omega)]
def Mo_exchange_I : List AV → Hp → Nat → Nat → List AV → List AV → Hp → Prop := fun as σ0 pc n st ls σ => (match as with
    | [.inr (.inr (.inl (k, 0, 9))), .inl a1] => (bif Nat.beq pc 2 then (match st, ls with
      | [], [.inr (.inr (.inl (k', 0, 9))), .inl a1', .inl v2, _] => k = k' ∧ a1 = a1' ∧ Mo_exchange_I2 k a1 σ0 n v2 σ
      | _, _ => False) else False)
    | _ => False)
def Mo_exchange_ct : Nat → Ct := fun n => match n with
  | _ => Mo_exchange_cs
set_option maxRecDepth 20000 in
set_option maxHeartbeats 4000000 in
theorem Mo_exchange_met {l : Launch} {D : va_G} {ad : Nat → Nat} {ca : Nat → ClassId} {L : Nat} {fx : Nat → Int} : ax_MC l D ad ca L fx yX9_exchange cX9_exchange 4 none 1 Mo_exchange_cs := by
  refine ax_met (oc := 9) (ct := Mo_exchange_ct) (calls := Mo_exchange_cl) (bs := Mo_exchange_bk) (cut := fun pc => Nat.beq pc 2) (f := 4) (I := Mo_exchange_I) (by decide) rfl rfl Mo_exchange_ck (fun _ h => absurd h List.not_mem_nil) ?_ ?_
  · intro as σ0 hp hH
    match as, hp with
    | [.inr (.inr (.inl (k, 0, 9))), .inl a1], hp => exact ⟨rfl, Mo_exchange_p k a1 σ0 hH hp⟩
  · intro as σ0 hp n pc st ls σ hH hI
    match as, hp, hI with
    | [.inr (.inr (.inl (k, 0, 9))), .inl a1], hp, hI =>
      rcases ax_bifE hI with ⟨hpc, hI⟩ | ⟨-, hI⟩
      · have := Nat.eq_of_beq_eq_true hpc
        subst this
        match st, ls, hI with
        | [], [.inr (.inr (.inl (k', 0, 9))), .inl a1', .inl v2, _], hI =>
          obtain ⟨rfl, rfl, hI⟩ := hI
          exact Mo_exchange_p2 k a1 σ0 hp n v2 σ hH hI
      exact False.elim hI
def Mo_undo_pre (k : Nat) (σ : Hp) : Prop := k = 67 ∧ MP σ
def Mo_undo_post (_k : Nat) (σ : Hp) (r : Int) (σ' : Hp) : Prop := MQo σ σ' ∧ ∀ d, s_undo (mA d σ) r (mA d σ')
def Mo_undo_bk : List (Nat × List Item) := [(0, [(.aload_n 0, 1, [], []), (.getfield 367, 3, [9, 50, 0, 0, 0, 0], []), (.ifCond .ne 5, 3, [9], []), (.iconst 0, 1, [], []), (.ireturn, 1, [], [])]),
  (9, [(.aload_n 0, 1, [], []), (.dup, 1, [], []), (.getfield 367, 3, [9, 50, 0, 0, 0, 0], []), (.iconst 1, 1, [], []), (.isub, 1, [], []), (.putfield 367, 3, [9, 50, 0, 0, 0, 0], []), (.aload_n 0, 1, [], []), (.dup, 1, [], []), (.getfield 370, 3, [9, 51, 0, 0, 0, 0], []), (.iconst 1, 1, [], []), (.iadd, 1, [], []), (.putfield 370, 3, [9, 51, 0, 0, 0, 0], []), (.aload_n 0, 1, [], []), (.bipush 16, 2, [], []), (.aload_n 0, 1, [], []), (.getfield 367, 3, [9, 50, 0, 0, 0, 0], []), (.imul, 1, [], []), (.invokevirtual 432, 3, [0], []), (.iconst 1, 1, [], []), (.ireturn, 1, [], [])])]
def Mo_undo_cl : List (Instr × Nat) := [(.invokevirtual 432, 0)]
set_option maxRecDepth 20000 in
theorem Mo_undo_ck : Mo_undo_bk.all (fun b => ax_chB 9 1 cX9_undo Mo_undo_cl b.1 b.2) = true := by decide +kernel
def Mo_undo_cs : Ct := (1, 10, 2, (0, 0), fun as σ => (match as with
    | [.inr (.inr (.inl (k, 0, 9)))] => Mo_undo_pre k σ
    | _ => False), fun as σ r σ' => (match as with
    | [.inr (.inr (.inl (k, 0, 9)))] => Mo_undo_post k σ r σ'
    | _ => False))
theorem Mo_undo_w : ∀ w ∈ ([.instanceMethod yX9_undo, .selects yX9_undo.cls yX9_undo yX9_undo, .initialized yX9_undo.cls, .code yX9_undo cX9_undo 1 (some .boolean)] : List Cond), w ∈ ax_tb := ax_w4 (ax_m7 166 (by decide +kernel) rfl) (ax_m7 167 (by decide +kernel) rfl) (ax_m1 10 (by decide +kernel) rfl) (ax_m7 168 (by decide +kernel) rfl)
theorem Mo_undo_ds : yX9_undo.cls ≠ "java/lang/invoke/MethodHandle" ∧ yX9_undo.cls ≠ "java/lang/invoke/VarHandle" ∧ (parseMethodDescriptor yX9_undo.desc).map (fun d => d.parameters.length) = some 0 := by decide +kernel
def Mo_undo_vc : Prop := ∀ (k : Nat) (σ : Hp), ax_H σ → Mo_undo_pre k σ →
  (¬ σ k 50 = 0 →
    ∀ σ1 : Hp, σ1 = hp σ k 50 (wr ((σ k 50) - 1)) →
    ∀ σ2 : Hp, σ2 = hp σ1 k 51 (wr ((σ1 k 51) + 1)) →
    Mo_exchange_pre k (wr (16 * (σ2 k 50))) σ2 ∧
    ∀ σ3 : Hp, Mo_exchange_post k (wr (16 * (σ2 k 50))) σ2 σ3 →
    ((1 : Int) = 0 ∨ (1 : Int) = 1) ∧ Mo_undo_post k σ 1 σ3) ∧
  (¬ (¬ σ k 50 = 0) →
    ((0 : Int) = 0 ∨ (0 : Int) = 1) ∧ Mo_undo_post k σ 0 σ)
theorem Mo_undo_p : Mo_undo_vc := by
  intro k σ hH hp0
  obtain ⟨rfl, hP⟩ := hp0
  have hX := hP.1.2.2.2.1
  have hl := hP.len
  refine ⟨fun h => ?_, fun h => ⟨Or.inl rfl, ⟨hP.1, fun _ _ => rfl⟩, fun d => ?_⟩⟩
  · intro σ1 hs1 σ2 hs2
    rw [wr_id (by omega) (by omega)] at hs1
    have e51 : σ1 67 51 = σ 67 51 := by rw [hs1]; exact hp_r2 (fun z => by omega)
    rw [e51, wr1 hX.2 (by omega)] at hs2
    have q50 : σ2 67 50 = σ 67 50 - 1 := by rw [hs2, hp_r2 (fun z => by omega), hs1, hp_r1]
    have q51 : σ2 67 51 = σ 67 51 + 1 := by rw [hs2, hp_r1]
    have q67 : ∀ j, ¬ j = 50 → ¬ j = 51 → σ2 67 j = σ 67 j := fun j hj hj2 => by rw [hs2, hp_r2 (fun z => hj2 z.2), hs1, hp_r2 (fun z => hj z.2)]
    have qc : ∀ c, ¬ c = 67 → σ2 c = σ c := fun c hc => by rw [hs2, hp_ne hc, hs1, hp_ne hc]
    rw [q50, wr_id (by omega) (by omega)]
    refine ⟨⟨rfl, by omega, by omega⟩, ?_⟩
    rintro σ3 ⟨g1, g2, g3, g4⟩
    obtain ⟨m, hm⟩ : ∃ m : Nat, σ 67 50 = (m : Int) + 1 := ⟨(σ 67 50 - 1).toNat, by omega⟩
    have em : (16 * (σ 67 50 - 1)).toNat = 16 * m := by omega
    rw [em] at g2 g3 g4
    have e67 : σ3 67 = σ2 67 := g1 67 (by decide)
    have M := mA_act (σ' := σ3) hP.1 (fun j b c => by rw [e67]; exact q67 j b c) (by rw [e67, q50]; omega) (by rw [e67, q51]; omega) (fun c z z1 z2 => by
      rw [g1 c (by simp; exact ⟨z1, z2⟩)]
      exact qc c (fun y => by rw [y] at z; unfold shC at z; omega))
    refine ⟨Or.inr rfl, M.1, fun d => ?_⟩
    have a1 : (aH (mA d σ)).1 = (List.range m).map (fun i => stR (σ 93) (16 * i)) ++ [stR (σ 93) (16 * m)] := by
      show (List.range (σ 67 50).toNat).map (fun i => stR (σ 93) (16 * i)) = _
      rw [show (σ 67 50).toNat = m + 1 by omega, List.range_succ, List.map_append]; rfl
    have en : nowM σ3 = stR (σ 93) (16 * m) := (stR_ext (fun j hj => by rw [Nat.zero_add, g2 j hj, qc 93 (by decide)]))
    have eh : hstM σ3 = ((List.range m).map (fun i => stR (σ 93) (16 * i)), aS (mA d σ) :: (aH (mA d σ)).2) := by
      show ((List.range (σ3 67 50).toNat).map (fun i => stR (σ3 93) (16 * i)), (List.range (σ3 67 51).toNat).map (fun i => stR (σ3 93) (16 * ((σ3 67 50).toNat + i)))) = _
      rw [e67, q50, q51, show (σ 67 50 - 1).toNat = m by omega, show (σ 67 51 + 1).toNat = (σ 67 51).toNat + 1 by omega]
      refine Prod.ext (List.map_congr_left (fun i hi => ?_)) ?_
      · have hi' := List.mem_range.mp hi
        exact stR_ext (fun j hj => by rw [g4 _ (by omega), qc 93 (by decide)])
      · show (List.range ((σ 67 51).toNat + 1)).map (fun i => stR (σ3 93) (16 * (m + i))) = nowM σ :: (List.range (σ 67 51).toNat).map (fun i => stR (σ 93) (16 * ((σ 67 50).toNat + i)))
        rw [List.range_succ_eq_map, List.map_cons, List.map_map]
        congr 1
        · show stR (σ3 93) (16 * (m + 0)) = nowM σ
          exact stR_now (fun j hj => by rw [Nat.add_zero, g3 j hj, qc 90 (by decide)])
        · refine List.map_congr_left (fun i hi => ?_)
          show stR (σ3 93) (16 * (m + (i + 1))) = stR (σ 93) (16 * ((σ 67 50).toNat + i))
          rw [show 16 * ((σ 67 50).toNat + i) = 16 * (m + (i + 1)) by omega]
          exact stR_ext (fun j hj => by rw [g4 _ (by omega), qc 93 (by decide)])
    unfold s_undo
    rw [if_neg (show ¬ (aH (mA d σ)).1 = [] from (by rw [a1]; simp))]
    refine ⟨rfl, stR (σ 93) (16 * m), by rw [a1]; simp, ?_⟩
    rw [M.2 d, en, eh, a1, List.dropLast_concat]
  · unfold s_undo
    have h0 : σ 67 50 = 0 := Classical.not_not.mp h
    rw [if_pos (show (aH (mA d σ)).1 = [] from (by
      show (List.range (σ 67 50).toNat).map _ = []
      rw [h0]; rfl))]
    exact ⟨rfl, rfl⟩
def Mo_undo_I : List AV → Hp → Nat → Nat → List AV → List AV → Hp → Prop := fun as σ0 pc n st ls σ => (match as with
    | [.inr (.inr (.inl (k, 0, 9)))] => False
    | _ => False)
def Mo_undo_ct : Nat → Ct := fun n => match n with
  | 0 => Mo_exchange_cs
  | _ => Mo_undo_cs
set_option maxRecDepth 20000 in
set_option maxHeartbeats 4000000 in
theorem Mo_undo_met {l : Launch} {D : va_G} {ad : Nat → Nat} {ca : Nat → ClassId} {L : Nat} {fx : Nat → Int} : ax_MC l D ad ca L fx yX9_undo cX9_undo 1 (some .boolean) 2 Mo_undo_cs := by
  refine ax_met (oc := 9) (ct := Mo_undo_ct) (calls := Mo_undo_cl) (bs := Mo_undo_bk) (cut := fun pc => false) (f := 3) (I := Mo_undo_I) (by decide) rfl rfl Mo_undo_ck (List.forall_mem_cons.mpr ⟨ax_cwV Mo_exchange_met (by decide) (by decide) rfl (by decide) rfl (ax_m7 169 (by decide +kernel) rfl) Mo_exchange_w rfl Mo_exchange_ds, fun _ h => absurd h List.not_mem_nil⟩) ?_ ?_
  · intro as σ0 hp hH
    match as, hp with
    | [.inr (.inr (.inl (k, 0, 9)))], hp => exact ⟨rfl, Mo_undo_p k σ0 hH hp⟩
  · intro as σ0 hp n pc st ls σ hH hI
    match as, hp, hI with
    | [.inr (.inr (.inl (k, 0, 9)))], hp, hI => exact False.elim hI
def Mo_redo_pre (k : Nat) (σ : Hp) : Prop := k = 67 ∧ MP σ
def Mo_redo_post (_k : Nat) (σ : Hp) (r : Int) (σ' : Hp) : Prop := MQo σ σ' ∧ ∀ d, s_redo (mA d σ) r (mA d σ')
def Mo_redo_bk : List (Nat × List Item) := [(0, [(.aload_n 0, 1, [], []), (.getfield 370, 3, [9, 51, 0, 0, 0, 0], []), (.ifCond .ne 5, 3, [9], []), (.iconst 0, 1, [], []), (.ireturn, 1, [], [])]),
  (9, [(.aload_n 0, 1, [], []), (.bipush 16, 2, [], []), (.aload_n 0, 1, [], []), (.getfield 367, 3, [9, 50, 0, 0, 0, 0], []), (.imul, 1, [], []), (.invokevirtual 432, 3, [0], []), (.aload_n 0, 1, [], []), (.dup, 1, [], []), (.getfield 367, 3, [9, 50, 0, 0, 0, 0], []), (.iconst 1, 1, [], []), (.iadd, 1, [], []), (.putfield 367, 3, [9, 50, 0, 0, 0, 0], []), (.aload_n 0, 1, [], []), (.dup, 1, [], []), (.getfield 370, 3, [9, 51, 0, 0, 0, 0], []), (.iconst 1, 1, [], []), (.isub, 1, [], []), (.putfield 370, 3, [9, 51, 0, 0, 0, 0], []), (.iconst 1, 1, [], []), (.ireturn, 1, [], [])])]
def Mo_redo_cl : List (Instr × Nat) := [(.invokevirtual 432, 0)]
set_option maxRecDepth 20000 in
theorem Mo_redo_ck : Mo_redo_bk.all (fun b => ax_chB 9 1 cX9_redo Mo_redo_cl b.1 b.2) = true := by decide +kernel
def Mo_redo_cs : Ct := (1, 10, 2, (0, 0), fun as σ => (match as with
    | [.inr (.inr (.inl (k, 0, 9)))] => Mo_redo_pre k σ
    | _ => False), fun as σ r σ' => (match as with
    | [.inr (.inr (.inl (k, 0, 9)))] => Mo_redo_post k σ r σ'
    | _ => False))
theorem Mo_redo_w : ∀ w ∈ ([.instanceMethod yX9_redo, .selects yX9_redo.cls yX9_redo yX9_redo, .initialized yX9_redo.cls, .code yX9_redo cX9_redo 1 (some .boolean)] : List Cond), w ∈ ax_tb := ax_w4 (ax_m7 174 (by decide +kernel) rfl) (ax_m7 175 (by decide +kernel) rfl) (ax_m1 10 (by decide +kernel) rfl) (ax_m7 176 (by decide +kernel) rfl)
theorem Mo_redo_ds : yX9_redo.cls ≠ "java/lang/invoke/MethodHandle" ∧ yX9_redo.cls ≠ "java/lang/invoke/VarHandle" ∧ (parseMethodDescriptor yX9_redo.desc).map (fun d => d.parameters.length) = some 0 := by decide +kernel
def Mo_redo_vc : Prop := ∀ (k : Nat) (σ : Hp), ax_H σ → Mo_redo_pre k σ →
  (¬ σ k 51 = 0 →
    Mo_exchange_pre k (wr (16 * (σ k 50))) σ ∧
    ∀ σ1 : Hp, Mo_exchange_post k (wr (16 * (σ k 50))) σ σ1 →
    ∀ σ2 : Hp, σ2 = hp σ1 k 50 (wr ((σ1 k 50) + 1)) →
    ∀ σ3 : Hp, σ3 = hp σ2 k 51 (wr ((σ2 k 51) - 1)) →
    ((1 : Int) = 0 ∨ (1 : Int) = 1) ∧ Mo_redo_post k σ 1 σ3) ∧
  (¬ (¬ σ k 51 = 0) →
    ((0 : Int) = 0 ∨ (0 : Int) = 1) ∧ Mo_redo_post k σ 0 σ)
theorem Mo_redo_p : Mo_redo_vc := by
  intro k σ hH hp0
  obtain ⟨rfl, hP⟩ := hp0
  have hX := hP.1.2.2.2.1
  have hl := hP.len
  refine ⟨fun h => ?_, fun h => ⟨Or.inl rfl, ⟨hP.1, fun _ _ => rfl⟩, fun d => ?_⟩⟩
  · rw [wr_id (by omega) (by omega)]
    refine ⟨⟨rfl, by omega, by omega⟩, ?_⟩
    rintro σ1 ⟨g1, g2, g3, g4⟩
    have e67 : σ1 67 = σ 67 := g1 67 (by decide)
    intro σ2 hs2 σ3 hs3
    rw [e67, wr1 hX.1 (by omega)] at hs2
    have e51 : σ2 67 51 = σ 67 51 := by rw [hs2, hp_r2 (fun z => by omega), e67]
    rw [e51, wr_id (by omega) (by omega)] at hs3
    have q50 : σ3 67 50 = σ 67 50 + 1 := by rw [hs3, hp_r2 (fun z => by omega), hs2, hp_r1]
    have q51 : σ3 67 51 = σ 67 51 - 1 := by rw [hs3, hp_r1]
    have q67 : ∀ j, ¬ j = 50 → ¬ j = 51 → σ3 67 j = σ 67 j := fun j hj hj2 => by rw [hs3, hp_r2 (fun z => hj2 z.2), hs2, hp_r2 (fun z => hj z.2), e67]
    have qc : ∀ c, ¬ c = 67 → σ3 c = σ1 c := fun c hc => by rw [hs3, hp_ne hc, hs2, hp_ne hc]
    obtain ⟨a, ha⟩ : ∃ a : Nat, σ 67 50 = (a : Int) := ⟨(σ 67 50).toNat, by omega⟩
    obtain ⟨u, hu⟩ : ∃ u : Nat, σ 67 51 = (u : Int) + 1 := ⟨(σ 67 51 - 1).toNat, by omega⟩
    have em : (16 * σ 67 50).toNat = 16 * a := by omega
    rw [em] at g2 g3 g4
    have M := mA_act (σ' := σ3) hP.1 q67 (by rw [q50]; omega) (by rw [q51]; omega) (fun c z z1 z2 => by
      rw [qc c (fun y => by rw [y] at z; unfold shC at z; omega)]
      exact g1 c (by simp; exact ⟨z1, z2⟩))
    refine ⟨Or.inr rfl, M.1, fun d => ?_⟩
    have a2 : (aH (mA d σ)).2 = stR (σ 93) (16 * a) :: (List.range u).map (fun i => stR (σ 93) (16 * (a + 1 + i))) := by
      show (List.range (σ 67 51).toNat).map (fun i => stR (σ 93) (16 * ((σ 67 50).toNat + i))) = _
      rw [show (σ 67 51).toNat = u + 1 by omega, show (σ 67 50).toNat = a by omega, List.range_succ_eq_map, List.map_cons, List.map_map]
      congr 1
      refine List.map_congr_left (fun i hi => ?_)
      show stR (σ 93) (16 * (a + (i + 1))) = _
      rw [show a + (i + 1) = a + 1 + i by omega]
    have en : nowM σ3 = stR (σ 93) (16 * a) := (stR_ext (fun j hj => by rw [Nat.zero_add, qc 90 (by decide), g2 j hj]))
    have eh : hstM σ3 = ((aH (mA d σ)).1 ++ [aS (mA d σ)], (List.range u).map (fun i => stR (σ 93) (16 * (a + 1 + i)))) := by
      show ((List.range (σ3 67 50).toNat).map (fun i => stR (σ3 93) (16 * i)), (List.range (σ3 67 51).toNat).map (fun i => stR (σ3 93) (16 * ((σ3 67 50).toNat + i)))) = _
      rw [q50, q51, show (σ 67 51 - 1).toNat = u by omega, show (σ 67 50 + 1).toNat = a + 1 by omega, qc 93 (by decide)]
      refine Prod.ext ?_ (List.map_congr_left (fun i hi => ?_))
      · show (List.range (a + 1)).map (fun i => stR (σ1 93) (16 * i)) = (List.range (σ 67 50).toNat).map (fun i => stR (σ 93) (16 * i)) ++ [nowM σ]
        rw [List.range_succ, List.map_append, show (σ 67 50).toNat = a by omega]
        congr 1
        · refine List.map_congr_left (fun i hi => ?_)
          have hi' := List.mem_range.mp hi
          exact stR_ext (fun j hj => g4 _ (by omega))
        · show [stR (σ1 93) (16 * a)] = [nowM σ]
          rw [stR_now g3]
      · exact stR_ext (fun j hj => g4 _ (by omega))
    unfold s_redo
    rw [a2]
    refine ⟨rfl, ?_⟩
    rw [M.2 d, en, eh]
  · have h0 : σ 67 51 = 0 := Classical.not_not.mp h
    have a2 : (aH (mA d σ)).2 = [] := by
      show (List.range (σ 67 51).toNat).map _ = []
      rw [h0]; rfl
    unfold s_redo
    rw [a2]
    exact ⟨rfl, rfl⟩
def Mo_redo_I : List AV → Hp → Nat → Nat → List AV → List AV → Hp → Prop := fun as σ0 pc n st ls σ => (match as with
    | [.inr (.inr (.inl (k, 0, 9)))] => False
    | _ => False)
def Mo_redo_ct : Nat → Ct := fun n => match n with
  | 0 => Mo_exchange_cs
  | _ => Mo_redo_cs
set_option maxRecDepth 20000 in
set_option maxHeartbeats 4000000 in
theorem Mo_redo_met {l : Launch} {D : va_G} {ad : Nat → Nat} {ca : Nat → ClassId} {L : Nat} {fx : Nat → Int} : ax_MC l D ad ca L fx yX9_redo cX9_redo 1 (some .boolean) 2 Mo_redo_cs := by
  refine ax_met (oc := 9) (ct := Mo_redo_ct) (calls := Mo_redo_cl) (bs := Mo_redo_bk) (cut := fun pc => false) (f := 3) (I := Mo_redo_I) (by decide) rfl rfl Mo_redo_ck (List.forall_mem_cons.mpr ⟨ax_cwV Mo_exchange_met (by decide) (by decide) rfl (by decide) rfl (ax_m7 169 (by decide +kernel) rfl) Mo_exchange_w rfl Mo_exchange_ds, fun _ h => absurd h List.not_mem_nil⟩) ?_ ?_
  · intro as σ0 hp hH
    match as, hp with
    | [.inr (.inr (.inl (k, 0, 9)))], hp => exact ⟨rfl, Mo_redo_p k σ0 hH hp⟩
  · intro as σ0 hp n pc st ls σ hH hI
    match as, hp, hI with
    | [.inr (.inr (.inl (k, 0, 9)))], hp, hI => exact False.elim hI
