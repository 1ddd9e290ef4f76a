-- THE MODEL: feeding the text
def Mo_feed_pre (k : Nat) (_a _b _c _d _e : Int) (σ : Hp) : Prop := k = 67 ∧ MP σ
def Mo_feed_post (_k : Nat) (a b c d e : Int) (σ : Hp) (r : Int) (σ' : Hp) : Prop := MQo σ σ' ∧ ∀ x, s_feed (mA x σ) a b c d e r (mA x σ')
def Mo_feed_bk : List (Nat × List Item) := [(0, [(.aload_n 0, 1, [], []), (.getfield 139, 3, [9, 1, 0, 0, 0, 0], []), (.bipush 20, 2, [], []), (.iadd, 1, [], []), (.sipush 1600, 3, [], []), (.if_icmp .le 5, 3, [15], []), (.iconst (-1), 1, [], []), (.ireturn, 1, [], [])]),
  (15, [(.aload_n 0, 1, [], []), (.iload_n 1, 1, [], []), (.invokevirtual 142, 3, [0], []), (.aload_n 0, 1, [], []), (.iload_n 2, 1, [], []), (.invokevirtual 142, 3, [0], []), (.aload_n 0, 1, [], []), (.iload_n 3, 1, [], []), (.invokevirtual 142, 3, [0], []), (.aload_n 0, 1, [], []), (.iload 4, 2, [], []), (.invokevirtual 142, 3, [0], []), (.aload_n 0, 1, [], []), (.iload 5, 2, [], []), (.invokevirtual 142, 3, [0], []), (.aload_n 0, 1, [], []), (.getfield 139, 3, [9, 1, 0, 0, 0, 0], []), (.ireturn, 1, [], [])])]
def Mo_feed_cl : List (Instr × Nat) := [(.invokevirtual 142, 0)]
set_option maxRecDepth 20000 in
theorem Mo_feed_ck : Mo_feed_bk.all (fun b => ax_chB 9 6 cX9_feed Mo_feed_cl b.1 b.2) = true := by decide +kernel
def Mo_feed_cs : Ct := (6, 10, 1, (0, 0), fun as σ => (match as with
    | [.inr (.inr (.inl (k, 0, 9))), .inl a1, .inl a2, .inl a3, .inl a4, .inl a5] => Mo_feed_pre k a1 a2 a3 a4 a5 σ
    | _ => False), fun as σ r σ' => (match as with
    | [.inr (.inr (.inl (k, 0, 9))), .inl a1, .inl a2, .inl a3, .inl a4, .inl a5] => Mo_feed_post k a1 a2 a3 a4 a5 σ r σ'
    | _ => False))
theorem Mo_feed_w : ∀ w ∈ ([.instanceMethod yX9_feed, .selects yX9_feed.cls yX9_feed yX9_feed, .initialized yX9_feed.cls, .code yX9_feed cX9_feed 6 (some .int)] : List Cond), w ∈ ax_tb := ax_w4 (ax_m6 126 (by decide +kernel) rfl) (ax_m6 127 (by decide +kernel) rfl) (ax_m1 10 (by decide +kernel) rfl) (ax_m6 128 (by decide +kernel) rfl)
theorem Mo_feed_ds : yX9_feed.cls ≠ "java/lang/invoke/MethodHandle" ∧ yX9_feed.cls ≠ "java/lang/invoke/VarHandle" ∧ (parseMethodDescriptor yX9_feed.desc).map (fun d => d.parameters.length) = some 5 := by decide +kernel
def Mo_feed_vc : Prop := ∀ (k : Nat) (a1 : Int) (a2 : Int) (a3 : Int) (a4 : Int) (a5 : Int) (σ : Hp), ax_H σ → Mo_feed_pre k a1 a2 a3 a4 a5 σ →
  (wr ((σ k 1) + 20) ≤ 1600 →
    Mo_four_pre k a1 σ ∧
    ∀ σ1 : Hp, Mo_four_post k a1 σ σ1 →
    Mo_four_pre k a2 σ1 ∧
    ∀ σ2 : Hp, Mo_four_post k a2 σ1 σ2 →
    Mo_four_pre k a3 σ2 ∧
    ∀ σ3 : Hp, Mo_four_post k a3 σ2 σ3 →
    Mo_four_pre k a4 σ3 ∧
    ∀ σ4 : Hp, Mo_four_post k a4 σ3 σ4 →
    Mo_four_pre k a5 σ4 ∧
    ∀ σ5 : Hp, Mo_four_post k a5 σ4 σ5 →
    Mo_feed_post k a1 a2 a3 a4 a5 σ (σ5 k 1) σ5) ∧
  (¬ (wr ((σ k 1) + 20) ≤ 1600) →
    Mo_feed_post k a1 a2 a3 a4 a5 σ (-1) σ)
theorem mA_txt {σ σ' : Hp} (hX : MIr σ) (hf : Fr [67, 68] σ σ') (hk : ∀ j, ¬ j = 1 → σ' 67 j = σ 67 j) (h1 : 0 ≤ σ' 67 1 ∧ σ' 67 1 ≤ 1600) (h3 : ∀ i, i < 1600 → 0 ≤ σ' 68 i ∧ σ' 68 i ≤ 255) : MQo σ σ' ∧ ∀ d, mA d σ' = (tpM σ', (mA d σ).2) := by
  have qc : ∀ c, ¬ c = 67 → ¬ c = 68 → σ' c = σ c := fun c a b => hf c (by simp; exact ⟨a, b⟩)
  have M := mA_gen (σ' := σ') hX (hk 23 (by decide)) (hk 42 (by decide)) (hk 43 (by decide)) (fun c hc => qc c (by omega) (by omega)) h1 h3 (by rw [hk 50 (by decide), hk 51 (by decide)]; exact hX.2.2.2.1) (by rw [hk 56 (by decide)]; exact hX.2.2.2.2.1) (by rw [hk 64 (by decide)]; exact hX.2.2.2.2.2)
  refine ⟨M.1, fun d => ?_⟩
  rw [M.2 d, hk 2 (by decide), hk 3 (by decide), nowM_eq (qc 90 (by decide) (by decide)), hstM_eq (hk 50 (by decide)) (hk 51 (by decide)) (qc 93 (by decide) (by decide)), bxM_eq (qc 106 (by decide) (by decide)) (qc 107 (by decide) (by decide)), lsM_eq (hk 56 (by decide)) (qc 97 (by decide) (by decide)), sgM_eq (hk 64 (by decide)) (fun c hc => qc c (by omega) (by omega)), hk 65 (by decide)]
  rfl
theorem Mo_feed_p : Mo_feed_vc := by
  intro k a b c d e σ hH hp
  obtain ⟨rfl, hP⟩ := hp
  have hX := hP.1
  have hT := hX.2.1
  have hB := hX.2.2.1
  rw [wr_id (by omega) (by omega)]
  refine ⟨fun h => ?_, fun h => ⟨⟨hX, fun _ _ => rfl⟩, fun x => ?_⟩⟩
  · refine ⟨⟨rfl, hT.1, by omega⟩, ?_⟩
    rintro σ3 ⟨a1, a2, a3, a4⟩
    refine ⟨⟨rfl, by omega, by omega⟩, ?_⟩
    rintro σ4 ⟨b1, b2, b3, b4⟩
    refine ⟨⟨rfl, by omega, by omega⟩, ?_⟩
    rintro σ5 ⟨c1, c2, c3, c4⟩
    refine ⟨⟨rfl, by omega, by omega⟩, ?_⟩
    rintro σ6 ⟨d1, d2, d3, d4⟩
    refine ⟨⟨rfl, by omega, by omega⟩, ?_⟩
    rintro σ7 ⟨e1, e2, e3, e4⟩
    have e11 : σ7 67 1 = σ 67 1 + 20 := by omega
    have fr : Fr [67, 68] σ σ7 := (((a1.tr b1).tr c1).tr d1).tr e1
    have kp : ∀ j, ¬ j = 1 → σ7 67 j = σ 67 j := fun j hj => by rw [e3 j hj, d3 j hj, c3 j hj, b3 j hj, a3 j hj]
    have A := mA_txt hX fr kp ⟨by omega, by omega⟩ (fun i hi => by
      rw [e4 i]
      split
      · rw [d4 i]
        split
        · rw [c4 i]
          split
          · rw [b4 i]
            split
            · rw [a4 i]
              split
              · exact hB i hi
              · exact (sgn_and _).2
            · exact (sgn_and _).2
          · exact (sgn_and _).2
        · exact (sgn_and _).2
      · exact (sgn_and _).2)
    refine ⟨A.1, fun x => ?_⟩
    have eB : (aB (mA x σ)).2 = (σ 67 1).toNat := rfl
    unfold s_feed
    rw [if_neg (by omega)]
    refine ⟨by rw [e11]; omega, ?_⟩
    rw [A.2 x]
    refine Prod.ext ?_ rfl
    show tpM σ7 = _
    unfold tpM
    rw [e11, show (σ 67 1 + 20).toNat = (aB (mA x σ)).2 + 20 by omega]
    refine Prod.ext ?_ rfl
    funext j
    show tr ((aB (mA x σ)).2 + 20) (fun i => sgn (σ7 68 i)) j = if j < (aB (mA x σ)).2 then (aB (mA x σ)).1 j else if j < (aB (mA x σ)).2 + 20 then fb a b c d e (j - (aB (mA x σ)).2) else 0
    have old : j < (aB (mA x σ)).2 → (aB (mA x σ)).1 j = sgn (σ 68 j) := fun z => (by show tr (σ 67 1).toNat (fun i => sgn (σ 68 i)) j = _; exact tr_in z)
    by_cases z0 : j < (aB (mA x σ)).2
    · rw [if_pos z0, old z0, tr_in (by omega), e4 j, if_pos (by omega), d4 j, if_pos (by omega), c4 j, if_pos (by omega), b4 j, if_pos (by omega), a4 j, if_pos (by omega)]
    · rw [if_neg z0]
      by_cases z1 : j < (aB (mA x σ)).2 + 20
      · rw [if_pos z1, tr_in z1]
        generalize hi : j - (aB (mA x σ)).2 = i
        have hj : (j : Int) = σ 67 1 + i := by omega
        have hi20 : i < 20 := by omega
        unfold fb fv
        rw [e4 j]
        by_cases q4 : i < 16
        · rw [if_pos (by omega), d4 j]
          by_cases q3 : i < 12
          · rw [if_pos (by omega), c4 j]
            by_cases q2 : i < 8
            · rw [if_pos (by omega), b4 j]
              by_cases q1 : i < 4
              · rw [if_pos (by omega), a4 j, if_neg (by omega), if_pos (show i / 4 = 0 by omega), (sgn_and _).1]
                exact congrArg (fun z => iByte (iShr a z)) (by omega)
              · rw [if_neg (by omega), if_neg (show ¬ i / 4 = 0 by omega), if_pos (show i / 4 = 1 by omega), (sgn_and _).1]
                exact congrArg (fun z => iByte (iShr b z)) (by omega)
            · rw [if_neg (by omega), if_neg (show ¬ i / 4 = 0 by omega), if_neg (show ¬ i / 4 = 1 by omega), if_pos (show i / 4 = 2 by omega), (sgn_and _).1]
              exact congrArg (fun z => iByte (iShr c z)) (by omega)
          · rw [if_neg (by omega), if_neg (show ¬ i / 4 = 0 by omega), if_neg (show ¬ i / 4 = 1 by omega), if_neg (show ¬ i / 4 = 2 by omega), if_pos (show i / 4 = 3 by omega), (sgn_and _).1]
            exact congrArg (fun z => iByte (iShr d z)) (by omega)
        · rw [if_neg (by omega), if_neg (show ¬ i / 4 = 0 by omega), if_neg (show ¬ i / 4 = 1 by omega), if_neg (show ¬ i / 4 = 2 by omega), if_neg (show ¬ i / 4 = 3 by omega), (sgn_and _).1]
          exact congrArg (fun z => iByte (iShr e z)) (by omega)
      · rw [if_neg z1, tr_out (by omega)]
  · have eB : (aB (mA x σ)).2 = (σ 67 1).toNat := rfl
    unfold s_feed
    rw [if_pos (by omega)]
    exact ⟨rfl, rfl⟩
def Mo_feed_I : List AV → Hp → Nat → Nat → List AV → List AV → Hp → Prop := fun as σ0 pc n st ls σ => (match as with
    | [.inr (.inr (.inl (k, 0, 9))), .inl a1, .inl a2, .inl a3, .inl a4, .inl a5] => False
    | _ => False)
def Mo_feed_ct : Nat → Ct := fun n => match n with
  | 0 => Mo_four_cs
  | _ => Mo_feed_cs
set_option maxRecDepth 20000 in
set_option maxHeartbeats 4000000 in
theorem Mo_feed_met {l : Launch} {D : va_G} {ad : Nat → Nat} {ca : Nat → ClassId} {L : Nat} {fx : Nat → Int} : ax_MC l D ad ca L fx yX9_feed cX9_feed 6 (some .int) 2 Mo_feed_cs := by
  refine ax_met (oc := 9) (ct := Mo_feed_ct) (calls := Mo_feed_cl) (bs := Mo_feed_bk) (cut := fun pc => false) (f := 3) (I := Mo_feed_I) (by decide) rfl rfl Mo_feed_ck (List.forall_mem_cons.mpr ⟨ax_cwV Mo_four_met (by decide) (by decide) rfl (by decide) rfl (ax_m6 129 (by decide +kernel) rfl) Mo_four_w rfl Mo_four_ds, fun _ h => absurd h List.not_mem_nil⟩) ?_ ?_
  · intro as σ0 hp hH
    match as, hp with
    | [.inr (.inr (.inl (k, 0, 9))), .inl a1, .inl a2, .inl a3, .inl a4, .inl a5], hp => exact ⟨rfl, Mo_feed_p k a1 a2 a3 a4 a5 σ0 hH hp⟩
  · intro as σ0 hp n pc st ls σ hH hI
    match as, hp, hI with
    | [.inr (.inr (.inl (k, 0, 9))), .inl a1, .inl a2, .inl a3, .inl a4, .inl a5], hp, hI => exact False.elim hI
def Mo_end_pre (k : Nat) (_a : Int) (σ : Hp) : Prop := k = 67 ∧ MP σ
def Mo_end_post (_k : Nat) (a : Int) (σ : Hp) (r : Int) (σ' : Hp) : Prop := MQo σ σ' ∧ ∀ d, s_end (mA d σ) a r (mA d σ')
def Mo_end_bk : List (Nat × List Item) := [(0, [(.iload_n 1, 1, [], []), (.ifCond .lt 11, 3, [12], []), (.iload_n 1, 1, [], []), (.aload_n 0, 1, [], []), (.getfield 139, 3, [9, 1, 0, 0, 0, 0], []), (.if_icmp .le 5, 3, [14], [])]),
  (12, [(.iconst (-1), 1, [], []), (.ireturn, 1, [], [])]),
  (14, [(.aload_n 0, 1, [], []), (.iload_n 1, 1, [], []), (.putfield 139, 3, [9, 1, 0, 0, 0, 0], []), (.iload_n 1, 1, [], []), (.ireturn, 1, [], [])])]
def Mo_end_cl : List (Instr × Nat) := []
set_option maxRecDepth 20000 in
theorem Mo_end_ck : Mo_end_bk.all (fun b => ax_chB 9 2 cX9_end Mo_end_cl b.1 b.2) = true := by decide +kernel
def Mo_end_cs : Ct := (2, 10, 1, (0, 0), fun as σ => (match as with
    | [.inr (.inr (.inl (k, 0, 9))), .inl a1] => Mo_end_pre k a1 σ
    | _ => False), fun as σ r σ' => (match as with
    | [.inr (.inr (.inl (k, 0, 9))), .inl a1] => Mo_end_post k a1 σ r σ'
    | _ => False))
theorem Mo_end_w : ∀ w ∈ ([.instanceMethod yX9_end, .selects yX9_end.cls yX9_end yX9_end, .initialized yX9_end.cls, .code yX9_end cX9_end 2 (some .int)] : List Cond), w ∈ ax_tb := ax_w4 (ax_m6 134 (by decide +kernel) rfl) (ax_m6 135 (by decide +kernel) rfl) (ax_m1 10 (by decide +kernel) rfl) (ax_m6 136 (by decide +kernel) rfl)
theorem Mo_end_ds : yX9_end.cls ≠ "java/lang/invoke/MethodHandle" ∧ yX9_end.cls ≠ "java/lang/invoke/VarHandle" ∧ (parseMethodDescriptor yX9_end.desc).map (fun d => d.parameters.length) = some 1 := by decide +kernel
def Mo_end_vc : Prop := ∀ (k : Nat) (a1 : Int) (σ : Hp), ax_H σ → Mo_end_pre k a1 σ →
  (a1 < 0 →
    Mo_end_post k a1 σ (-1) σ) ∧
  (¬ (a1 < 0) →
    (a1 ≤ σ k 1 →
      ∀ σ1 : Hp, σ1 = hp σ k 1 a1 →
      Mo_end_post k a1 σ a1 σ1) ∧
    (¬ (a1 ≤ σ k 1) →
      Mo_end_post k a1 σ (-1) σ))
theorem Mo_end_p : Mo_end_vc := by
  intro k a σ hH hp
  obtain ⟨rfl, hP⟩ := hp
  have hX := hP.1
  have hT := hX.2.1
  have no : ¬ (0 ≤ a ∧ a ≤ (((σ 67 1).toNat : Nat) : Int)) → Mo_end_post 67 a σ (-1) σ := by
    intro h
    refine ⟨⟨hX, fun _ _ => rfl⟩, fun d => ?_⟩
    unfold s_end
    rw [if_neg (show ¬ (0 ≤ a ∧ a ≤ ((aB (mA d σ)).2 : Int)) from h)]
    exact ⟨rfl, rfl⟩
  refine ⟨fun h => no (by omega), fun h => ⟨fun h2 => ?_, fun h2 => no (by omega)⟩⟩
  intro σ1 hs
  have e1 : σ1 67 1 = a := by rw [hs, hp_r1]
  have A := mA_txt (σ' := σ1) hX (by rw [hs]; exact Fr.hp Fr.rf (by simp)) (fun j hj => by rw [hs, hp_r2 (fun z => hj z.2)]) ⟨by omega, by omega⟩ (by rw [hs, hp_ne (by decide)]; exact hX.2.2.1)
  refine ⟨A.1, fun d => ?_⟩
  unfold s_end
  rw [if_pos (show 0 ≤ a ∧ a ≤ ((aB (mA d σ)).2 : Int) from ⟨by omega, by show a ≤ (((σ 67 1).toNat : Nat) : Int); omega⟩)]
  refine ⟨rfl, ?_⟩
  rw [A.2 d]
  refine Prod.ext ?_ rfl
  show tpM σ1 = (tr a.toNat (tr (σ 67 1).toNat (fun i => sgn (σ 68 i))), a.toNat)
  unfold tpM
  rw [e1]
  refine Prod.ext (tr_ext fun j hj => ?_) rfl
  rw [tr_in (by omega), hs, hp_ne (by decide)]
def Mo_end_I : List AV → Hp → Nat → Nat → List AV → List AV → Hp → Prop := fun as σ0 pc n st ls σ => (match as with
    | [.inr (.inr (.inl (k, 0, 9))), .inl a1] => False
    | _ => False)
def Mo_end_ct : Nat → Ct := fun n => match n with
  | _ => Mo_end_cs
set_option maxRecDepth 20000 in
set_option maxHeartbeats 4000000 in
theorem Mo_end_met {l : Launch} {D : va_G} {ad : Nat → Nat} {ca : Nat → ClassId} {L : Nat} {fx : Nat → Int} : ax_MC l D ad ca L fx yX9_end cX9_end 2 (some .int) 1 Mo_end_cs := by
  refine ax_met (oc := 9) (ct := Mo_end_ct) (calls := Mo_end_cl) (bs := Mo_end_bk) (cut := fun pc => false) (f := 4) (I := Mo_end_I) (by decide) rfl rfl Mo_end_ck (fun _ h => absurd h List.not_mem_nil) ?_ ?_
  · intro as σ0 hp hH
    match as, hp with
    | [.inr (.inr (.inl (k, 0, 9))), .inl a1], hp => exact ⟨rfl, Mo_end_p k a1 σ0 hH hp⟩
  · intro as σ0 hp n pc st ls σ hH hI
    match as, hp, hI with
    | [.inr (.inr (.inl (k, 0, 9))), .inl a1], hp, hI => exact False.elim hI
