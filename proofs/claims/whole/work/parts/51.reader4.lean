-- THE READER: a line, all lines
theorem form_DX {σ σ' : Hp} {f d : Nat} (hf : FO f) (hd : d = 8 ∨ d = 12) (hD : DX σ f) (h : Fr [1, f + d, f + d + 1] σ σ') (hF : FDX σ' (f + d)) {v : Nat × List Int} (hv : fmX σ' (f + d) = some v) : psX σ' f = (if d = 8 then adW (psX σ f) v else adG (psX σ f) v) ∧ DX σ' f := by
  have hfn := FO_ne hf
  have e0 : σ' f = σ f := h f (by simp; omega)
  have ed : ∀ e, 1 ≤ e → e ≤ 6 → σ' (f + e) = σ (f + e) := fun e h1 h2 => h _ (by simp; omega)
  obtain ⟨q1, q2, q3, q4, q5, q6, q7⟩ := hD
  have ep : psX σ' f = (if d = 8 then adW (psX σ f) v else adG (psX σ f) v) := by
    unfold psX
    rw [e0, ed 1 (by omega) (by omega), ed 2 (by omega) (by omega), ed 3 (by omega) (by omega), ed 4 (by omega) (by omega), ed 5 (by omega) (by omega), ed 6 (by omega) (by omega)]
    rcases hd with rfl | rfl
    · rw [hv, (fmX_eq (σ := σ) (σ' := σ') (g := f + 12) (h _ (by simp <;> omega)) (h _ (by simp <;> omega))).1]; rfl
    · rw [hv, (fmX_eq (σ := σ) (σ' := σ') (g := f + 8) (h _ (by simp <;> omega)) (h _ (by simp <;> omega))).1]; rfl
  refine ⟨ep, ?_, by rw [e0]; exact q2, fun e d1 d2 j j1 j2 => ?_, by rw [e0]; exact q4, by rw [e0]; exact q5, ?_, ?_⟩
  · rw [ep]
    split
    · exact q1
    · exact q1
  · rw [e0] at j1
    rw [ed e (by omega) (by omega)]
    exact q3 e d1 d2 j j1 j2
  · rcases hd with rfl | rfl
    · exact hF
    · exact (fmX_eq (σ := σ) (σ' := σ') (g := f + 8) (h _ (by simp <;> omega)) (h _ (by simp <;> omega))).2 q6
  · rcases hd with rfl | rfl
    · exact (fmX_eq (σ := σ) (σ' := σ') (g := f + 12) (h _ (by simp <;> omega)) (h _ (by simp <;> omega))).2 q7
    · exact hF
theorem fO_f {f : Nat} (hf : FO f) : fO (f + 8) ∧ fO (f + 12) := by
  rcases hf with rfl | rfl
  · exact ⟨Or.inl rfl, Or.inr (Or.inl rfl)⟩
  · exact ⟨Or.inr (Or.inr (Or.inl rfl)), Or.inr (Or.inr (Or.inr rfl))⟩
theorem LO.form {σ σ' : Hp} {f d : Nat} {r : Int} (hf : FO f) (hd : d = 8 ∨ d = 12) (hD : DX σ f) (h : Rd_readFormula_post 1 (f + d) σ r σ') : LO (lnF (tpX σ) (Sp σ) (fmX σ (f + d)) (fun v => if d = 8 then adW (psX σ f) v else adG (psX σ f) v)) f σ r σ' := by
  obtain ⟨h1, h2, h3, h4⟩ := h
  have hfn := FO_ne hf
  refine ⟨h1, h2.mono (fun c hc => ?_), h3, ?_⟩
  · simp only [List.mem_cons, List.not_mem_nil, or_false] at hc
    rcases hc with rfl | hc
    · exact List.mem_cons_self
    · refine List.mem_cons_of_mem _ (fcs_m.mpr ?_)
      omega
  · rw [lnF_eq]
    cases hL : LFo (tpX σ) (Sp σ) (fmX σ (f + d)) with
    | inl x => rw [hL] at h4; exact h4
    | inr x =>
      rw [hL] at h4
      obtain ⟨k1, k2, k3, k4, k5, k6⟩ := h4
      have DE := form_DX hf hd hD h2 k5 k6
      exact ⟨k1, k2, k3, k4, DE.2, DE.1⟩
def Rd_readLine_pre (k f : Nat) (σ : Hp) : Prop := k = 1 ∧ LPr f σ
def Rd_readLine_post (_k f : Nat) (σ : Hp) (r : Int) (σ' : Hp) : Prop := LO (ln (tpX σ) (Sp σ) (psX σ f)) f σ r σ'
def Rd_readLine_bk : List (Nat × List Item) := [(0, [(.aload_n 0, 1, [], []), (.getfield 36, 3, [5, 5, 0, 0, 0, 0], []), (.iconst 1, 1, [], []), (.if_icmp .eq 8, 3, [13], []), (.aload_n 0, 1, [], []), (.invokevirtual 56, 3, [0], []), (.ireturn, 1, [], [])]),
  (13, [(.aload_n 0, 1, [], []), (.getfield 60, 3, [5, 7, 2, 0, 0, 0], []), (.ldc2_w 64, 3, [], [(123581014175598, 0)]), (.lcmp, 1, [], []), (.ifCond .ne 9, 3, [30], []), (.aload_n 0, 1, [], []), (.aload_n 1, 1, [], []), (.invokevirtual 66, 3, [1], []), (.ireturn, 1, [], [])]),
  (30, [(.aload_n 0, 1, [], []), (.getfield 60, 3, [5, 7, 2, 0, 0, 0], []), (.ldc2_w 69, 3, [], [(461414299507, 0)]), (.lcmp, 1, [], []), (.ifCond .ne 9, 3, [47], []), (.aload_n 0, 1, [], []), (.aload_n 1, 1, [], []), (.invokevirtual 71, 3, [2], []), (.ireturn, 1, [], [])]),
  (47, [(.aload_n 0, 1, [], []), (.getfield 60, 3, [5, 7, 2, 0, 0, 0], []), (.ldc2_w 74, 3, [], [(512970879609, 0)]), (.lcmp, 1, [], []), (.ifCond .ne 12, 3, [67], []), (.aload_n 0, 1, [], []), (.aload_n 1, 1, [], []), (.getfield 39, 3, [1, 7, 4, 8, 0, 2], []), (.invokevirtual 76, 3, [3], []), (.ireturn, 1, [], [])]),
  (67, [(.aload_n 0, 1, [], []), (.getfield 60, 3, [5, 7, 2, 0, 0, 0], []), (.ldc2_w 80, 3, [], [(444301539187, 0)]), (.lcmp, 1, [], []), (.ifCond .ne 12, 3, [87], []), (.aload_n 0, 1, [], []), (.aload_n 1, 1, [], []), (.getfield 48, 3, [1, 8, 4, 12, 0, 2], []), (.invokevirtual 76, 3, [3], []), (.ireturn, 1, [], [])]),
  (87, [(.aload_n 0, 1, [], []), (.getfield 60, 3, [5, 7, 2, 0, 0, 0], []), (.ldc2_w 82, 3, [], [(1700885349, 0)]), (.lcmp, 1, [], []), (.ifCond .ne 9, 3, [104], []), (.aload_n 0, 1, [], []), (.aload_n 1, 1, [], []), (.invokevirtual 84, 3, [4], []), (.ireturn, 1, [], [])]),
  (104, [(.aload_n 0, 1, [], []), (.getfield 60, 3, [5, 7, 2, 0, 0, 0], []), (.ldc2_w 87, 3, [], [(1685217655, 0)]), (.lcmp, 1, [], []), (.ifCond .ne 9, 3, [121], []), (.aload_n 0, 1, [], []), (.aload_n 1, 1, [], []), (.invokevirtual 89, 3, [5], []), (.ireturn, 1, [], [])]),
  (121, [(.aload_n 0, 1, [], []), (.invokevirtual 56, 3, [0], []), (.ireturn, 1, [], [])])]
def Rd_readLine_cl : List (Instr × Nat) := [(.invokevirtual 56, 0), (.invokevirtual 66, 1), (.invokevirtual 71, 2), (.invokevirtual 76, 3), (.invokevirtual 84, 4), (.invokevirtual 89, 5)]
set_option maxRecDepth 20000 in
theorem Rd_readLine_ck : Rd_readLine_bk.all (fun b => ax_chB 5 2 cX5_readLine Rd_readLine_cl b.1 b.2) = true := by decide +kernel
def Rd_readLine_cs : Ct := (2, 6, 2, (0, 0), fun as σ => (match as with
    | [.inr (.inr (.inl (k, 0, 5))), .inr (.inr (.inl (q1, 0, 1)))] => Rd_readLine_pre k q1 σ
    | _ => False), fun as σ r σ' => (match as with
    | [.inr (.inr (.inl (k, 0, 5))), .inr (.inr (.inl (q1, 0, 1)))] => Rd_readLine_post k q1 σ r σ'
    | _ => False))
theorem Rd_readLine_w : ∀ w ∈ ([.instanceMethod yX5_readLine, .selects yX5_readLine.cls yX5_readLine yX5_readLine, .initialized yX5_readLine.cls, .code yX5_readLine cX5_readLine 2 (some .boolean)] : List Cond), w ∈ ax_tb := ax_w4 (ax_m3 34 (by decide +kernel) rfl) (ax_m3 35 (by decide +kernel) rfl) (ax_m1 2 (by decide +kernel) rfl) (ax_m3 36 (by decide +kernel) rfl)
theorem Rd_readLine_ds : yX5_readLine.cls ≠ "java/lang/invoke/MethodHandle" ∧ yX5_readLine.cls ≠ "java/lang/invoke/VarHandle" ∧ (parseMethodDescriptor yX5_readLine.desc).map (fun d => d.parameters.length) = some 1 := by decide +kernel
def Rd_readLine_vc : Prop := ∀ (k : Nat) (q1 : Nat) (σ : Hp), ax_H σ → Rd_readLine_pre k q1 σ →
  (σ k 5 = 1 →
    (¬ lCmp (σ k 7) 123581014175598 = 0 →
      (¬ lCmp (σ k 7) 461414299507 = 0 →
        (¬ lCmp (σ k 7) 512970879609 = 0 →
          (¬ lCmp (σ k 7) 444301539187 = 0 →
            (¬ lCmp (σ k 7) 1700885349 = 0 →
              (¬ lCmp (σ k 7) 1685217655 = 0 →
                Rd_refuse_pre k σ ∧
                ∀ (r2 : Int) (σ1 : Hp), Rd_refuse_post k σ r2 σ1 →
                (r2 = 0 ∨ r2 = 1) ∧ Rd_readLine_post k q1 σ r2 σ1) ∧
              (¬ (¬ lCmp (σ k 7) 1685217655 = 0) →
                Rd_readDraw_pre k q1 σ ∧
                ∀ (r4 : Int) (σ3 : Hp), Rd_readDraw_post k q1 σ r4 σ3 →
                (r4 = 0 ∨ r4 = 1) ∧ Rd_readLine_post k q1 σ r4 σ3)) ∧
            (¬ (¬ lCmp (σ k 7) 1700885349 = 0) →
              Rd_readEase_pre k q1 σ ∧
              ∀ (r6 : Int) (σ5 : Hp), Rd_readEase_post k q1 σ r6 σ5 →
              (r6 = 0 ∨ r6 = 1) ∧ Rd_readLine_post k q1 σ r6 σ5)) ∧
          (¬ (¬ lCmp (σ k 7) 444301539187 = 0) →
            Rd_readFormula_pre k (q1 + 12) σ ∧
            ∀ (r8 : Int) (σ7 : Hp), Rd_readFormula_post k (q1 + 12) σ r8 σ7 →
            (r8 = 0 ∨ r8 = 1) ∧ Rd_readLine_post k q1 σ r8 σ7)) ∧
        (¬ (¬ lCmp (σ k 7) 512970879609 = 0) →
          Rd_readFormula_pre k (q1 + 8) σ ∧
          ∀ (r10 : Int) (σ9 : Hp), Rd_readFormula_post k (q1 + 8) σ r10 σ9 →
          (r10 = 0 ∨ r10 = 1) ∧ Rd_readLine_post k q1 σ r10 σ9)) ∧
      (¬ (¬ lCmp (σ k 7) 461414299507 = 0) →
        Rd_readKnows_pre k q1 σ ∧
        ∀ (r12 : Int) (σ11 : Hp), Rd_readKnows_post k q1 σ r12 σ11 →
        (r12 = 0 ∨ r12 = 1) ∧ Rd_readLine_post k q1 σ r12 σ11)) ∧
    (¬ (¬ lCmp (σ k 7) 123581014175598 = 0) →
      Rd_readPerson_pre k q1 σ ∧
      ∀ (r14 : Int) (σ13 : Hp), Rd_readPerson_post k q1 σ r14 σ13 →
      (r14 = 0 ∨ r14 = 1) ∧ Rd_readLine_post k q1 σ r14 σ13)) ∧
  (¬ (σ k 5 = 1) →
    Rd_refuse_pre k σ ∧
    ∀ (r16 : Int) (σ15 : Hp), Rd_refuse_post k σ r16 σ15 →
    (r16 = 0 ∨ r16 = 1) ∧ Rd_readLine_post k q1 σ r16 σ15)
theorem Rd_readLine_p : Rd_readLine_vc := by
  intro k f σ hH hp
  obtain ⟨rfl, hL⟩ := hp
  obtain ⟨hf, hD, hR, h2⟩ := hL
  have hL : LPr f σ := ⟨hf, hD, hR, h2⟩
  have un : Rd_readLine_post 1 f σ = LO (ln (tpX σ) (Sp σ) (psX σ f)) f σ := rfl
  rw [un]
  simp only [lCmp_0]
  generalize hlq : ln (tpX σ) (Sp σ) (psX σ f) = lq at *
  unfold ln at hlq
  have h5 := hR.2.2.2.1
  refine ⟨fun h => ?_, fun h => ⟨rfl, ?_⟩⟩
  · have k1 : tK (tpX σ) (Sp σ) = 1 := by omega
    rw [if_neg (fun z => z k1)] at hlq
    rw [hR.2.2.2.2.2.2.1 k1]
    refine ⟨fun c1 => ⟨fun c2 => ⟨fun c3 => ⟨fun c4 => ⟨fun c5 => ⟨fun c6 => ⟨rfl, ?_⟩, fun c6 => ⟨⟨rfl, hL⟩, ?_⟩⟩, fun c5 => ⟨⟨rfl, hL⟩, ?_⟩⟩, fun c4 => ⟨⟨rfl, (fO_f hf).2, hD.2.2.2.2.2.2, hR, h2⟩, ?_⟩⟩, fun c3 => ⟨⟨rfl, (fO_f hf).1, hD.2.2.2.2.2.1, hR, h2⟩, ?_⟩⟩, fun c2 => ⟨⟨rfl, hL⟩, ?_⟩⟩, fun c1 => ⟨⟨rfl, hL⟩, ?_⟩⟩
    · rw [if_neg c1, if_neg c2, if_neg c3, if_neg c4, if_neg c5, if_neg c6] at hlq
      intro r σ1 g
      obtain ⟨y1, y2⟩ := hR.rf g
      subst y1
      rw [← hlq]
      exact ⟨Or.inl rfl, LO.fl y2⟩
    · rw [if_neg c1, if_neg c2, if_neg c3, if_neg c4, if_neg c5, if_pos (Classical.not_not.mp c6)] at hlq
      intro r σ1 g
      rw [← hlq]
      exact ⟨g.1, g⟩
    · rw [if_neg c1, if_neg c2, if_neg c3, if_neg c4, if_pos (Classical.not_not.mp c5)] at hlq
      intro r σ1 g
      rw [← hlq]
      exact ⟨g.1, g⟩
    · rw [if_neg c1, if_neg c2, if_neg c3, if_pos (Classical.not_not.mp c4)] at hlq
      intro r σ1 g
      rw [← hlq]
      exact ⟨g.1, LO.form (d := 12) hf (Or.inr rfl) hD g⟩
    · rw [if_neg c1, if_neg c2, if_pos (Classical.not_not.mp c3)] at hlq
      intro r σ1 g
      rw [← hlq]
      exact ⟨g.1, LO.form (d := 8) hf (Or.inl rfl) hD g⟩
    · rw [if_neg c1, if_pos (Classical.not_not.mp c2)] at hlq
      intro r σ1 g
      rw [← hlq]
      exact ⟨g.1, g⟩
    · rw [if_pos (Classical.not_not.mp c1)] at hlq
      intro r σ1 g
      rw [← hlq]
      exact ⟨g.1, g⟩
  · rw [if_pos (by omega)] at hlq
    intro r σ1 g
    obtain ⟨y1, y2⟩ := hR.rf g
    subst y1
    rw [← hlq]
    exact ⟨Or.inl rfl, LO.fl y2⟩
def Rd_readLine_I : List AV → Hp → Nat → Nat → List AV → List AV → Hp → Prop := fun as σ0 pc n st ls σ => (match as with
    | [.inr (.inr (.inl (k, 0, 5))), .inr (.inr (.inl (q1, 0, 1)))] => False
    | _ => False)
def Rd_readLine_ct : Nat → Ct := fun n => match n with
  | 0 => Rd_refuse_cs
  | 1 => Rd_readPerson_cs
  | 2 => Rd_readKnows_cs
  | 3 => Rd_readFormula_cs
  | 4 => Rd_readEase_cs
  | 5 => Rd_readDraw_cs
  | _ => Rd_readLine_cs
set_option maxRecDepth 20000 in
set_option maxHeartbeats 4000000 in
theorem Rd_readLine_met {l : Launch} {D : va_G} {ad : Nat → Nat} {ca : Nat → ClassId} {L : Nat} {fx : Nat → Int} : ax_MC l D ad ca L fx yX5_readLine cX5_readLine 2 (some .boolean) 165 Rd_readLine_cs := by
  refine ax_met (oc := 5) (ct := Rd_readLine_ct) (calls := Rd_readLine_cl) (bs := Rd_readLine_bk) (cut := fun pc => false) (f := 9) (I := Rd_readLine_I) (by decide) rfl rfl Rd_readLine_ck (List.forall_mem_cons.mpr ⟨ax_cwV Rd_refuse_met (by decide) (by decide) rfl (by decide) rfl (ax_m3 37 (by decide +kernel) rfl) Rd_refuse_w rfl Rd_refuse_ds, List.forall_mem_cons.mpr ⟨ax_cwV Rd_readPerson_met (by decide) (by decide) rfl (by decide) rfl (ax_m3 46 (by decide +kernel) rfl) Rd_readPerson_w rfl Rd_readPerson_ds, List.forall_mem_cons.mpr ⟨ax_cwV Rd_readKnows_met (by decide) (by decide) rfl (by decide) rfl (ax_m3 80 (by decide +kernel) rfl) Rd_readKnows_w rfl Rd_readKnows_ds, List.forall_mem_cons.mpr ⟨ax_cwV Rd_readFormula_met (by decide) (by decide) rfl (by decide) rfl (ax_m3 89 (by decide +kernel) rfl) Rd_readFormula_w rfl Rd_readFormula_ds, List.forall_mem_cons.mpr ⟨ax_cwV Rd_readEase_met (by decide) (by decide) rfl (by decide) rfl (ax_m3 131 (by decide +kernel) rfl) Rd_readEase_w rfl Rd_readEase_ds, List.forall_mem_cons.mpr ⟨ax_cwV Rd_readDraw_met (by decide) (by decide) rfl (by decide) rfl (ax_m3 136 (by decide +kernel) rfl) Rd_readDraw_w rfl Rd_readDraw_ds, fun _ h => absurd h List.not_mem_nil⟩⟩⟩⟩⟩⟩) ?_ ?_
  · intro as σ0 hp hH
    match as, hp with
    | [.inr (.inr (.inl (k, 0, 5))), .inr (.inr (.inl (q1, 0, 1)))], hp => exact ⟨rfl, Rd_readLine_p k q1 σ0 hH hp⟩
  · intro as σ0 hp n pc st ls σ hH hI
    match as, hp, hI with
    | [.inr (.inr (.inl (k, 0, 5))), .inr (.inr (.inl (q1, 0, 1)))], hp, hI => exact False.elim hI
-- a fresh draft
def Fa_clear_pre (k : Nat) (_σ : Hp) : Prop := FO k
def Fa_clear_post (k : Nat) (σ σ' : Hp) : Prop := Fr (fcs k) σ σ' ∧ DX σ' k ∧ psX σ' k = ps0
def Fa_clear_I2 (k : Nat) (σ0 : Hp) (n : Nat) (v1 : Int) (σ : Hp) : Prop := ∃ i : Nat, v1 = i ∧ i ≤ 6 ∧ n = 6 - i ∧ Fr (fcs k) σ0 σ ∧ ∀ d, 1 ≤ d → d ≤ 6 → ∀ j, j < i → σ (k + d) j = 0
def Fa_clear_bk : List (Nat × List Item) := [(0, [(.iconst 0, 1, [], []), (.istore_n 1, 1, [], [])]),
  (2, [(.iload_n 1, 1, [], []), (.bipush 6, 2, [], []), (.if_icmp .ge 51, 3, [56], []), (.aload_n 0, 1, [], []), (.getfield 9, 3, [1, 0, 4, 1, 4, 6], []), (.iload_n 1, 1, [], []), (.lconst 0, 1, [], [(0, 0)]), (.lastore, 1, [], []), (.aload_n 0, 1, [], []), (.getfield 15, 3, [1, 1, 4, 2, 1, 6], []), (.iload_n 1, 1, [], []), (.iconst 0, 1, [], []), (.iastore, 1, [], []), (.aload_n 0, 1, [], []), (.getfield 19, 3, [1, 2, 4, 3, 1, 6], []), (.iload_n 1, 1, [], []), (.iconst 0, 1, [], []), (.iastore, 1, [], []), (.aload_n 0, 1, [], []), (.getfield 22, 3, [1, 3, 4, 4, 1, 6], []), (.iload_n 1, 1, [], []), (.iconst 0, 1, [], []), (.iastore, 1, [], []), (.aload_n 0, 1, [], []), (.getfield 25, 3, [1, 4, 4, 5, 1, 6], []), (.iload_n 1, 1, [], []), (.iconst 0, 1, [], []), (.iastore, 1, [], []), (.aload_n 0, 1, [], []), (.getfield 28, 3, [1, 5, 4, 6, 1, 6], []), (.iload_n 1, 1, [], []), (.iconst 0, 1, [], []), (.iastore, 1, [], []), (.iinc 1 1, 3, [], []), (.goto (-51), 3, [2], [])]),
  (56, [(.aload_n 0, 1, [], []), (.getfield 37, 3, [1, 7, 4, 8, 0, 2], []), (.invokevirtual 48, 3, [0], []), (.aload_n 0, 1, [], []), (.getfield 41, 3, [1, 8, 4, 12, 0, 2], []), (.invokevirtual 48, 3, [0], []), (.aload_n 0, 1, [], []), (.iconst 0, 1, [], []), (.putfield 51, 3, [1, 9, 0, 0, 0, 0], []), (.aload_n 0, 1, [], []), (.iconst 0, 1, [], []), (.putfield 54, 3, [1, 10, 0, 0, 0, 0], []), (.aload_n 0, 1, [], []), (.iconst 0, 1, [], []), (.putfield 57, 3, [1, 11, 0, 0, 0, 0], []), (.aload_n 0, 1, [], []), (.iconst 1, 1, [], []), (.putfield 44, 3, [1, 12, 0, 0, 0, 0], []), (.aload_n 0, 1, [], []), (.iconst 0, 1, [], []), (.putfield 60, 3, [1, 13, 0, 0, 0, 0], []), (.aload_n 0, 1, [], []), (.iconst 0, 1, [], []), (.putfield 63, 3, [1, 14, 0, 0, 0, 0], []), (.aload_n 0, 1, [], []), (.iconst 0, 1, [], []), (.putfield 66, 3, [1, 15, 1, 0, 0, 0], []), (.aload_n 0, 1, [], []), (.iconst 0, 1, [], []), (.putfield 70, 3, [1, 16, 1, 0, 0, 0], []), (.return_, 1, [], [])])]
def Fa_clear_cl : List (Instr × Nat) := [(.invokevirtual 48, 0)]
set_option maxRecDepth 20000 in
theorem Fa_clear_ck : Fa_clear_bk.all (fun b => ax_chB 1 2 cX1_clear Fa_clear_cl b.1 b.2) = true := by decide +kernel
def Fa_clear_cs : Ct := (1, 2, 0, (0, 0), fun as σ => (match as with
    | [.inr (.inr (.inl (k, 0, 1)))] => Fa_clear_pre k σ
    | _ => False), fun as σ r σ' => (match as with
    | [.inr (.inr (.inl (k, 0, 1)))] => Fa_clear_post k σ σ'
    | _ => False))
theorem Fa_clear_w : ∀ w ∈ ([.instanceMethod yX1_clear, .selects yX1_clear.cls yX1_clear yX1_clear, .initialized yX1_clear.cls, .code yX1_clear cX1_clear 2 none] : List Cond), w ∈ ax_tb := ax_w4 (ax_m2 159 (by decide +kernel) rfl) (ax_m2 160 (by decide +kernel) rfl) (ax_m1 8 (by decide +kernel) rfl) (ax_m2 161 (by decide +kernel) rfl)
theorem Fa_clear_ds : yX1_clear.cls ≠ "java/lang/invoke/MethodHandle" ∧ yX1_clear.cls ≠ "java/lang/invoke/VarHandle" ∧ (parseMethodDescriptor yX1_clear.desc).map (fun d => d.parameters.length) = some 0 := by decide +kernel
def Fa_clear_vc : Prop := ∀ (k : Nat) (σ : Hp), ax_H σ → Fa_clear_pre k σ →
  ∃ n' : Nat, k = k ∧ Fa_clear_I2 k σ n' 0 σ
def Fa_clear_vc2 : Prop := ∀ (k : Nat) (σ0 : Hp), Fa_clear_pre k σ0 → ∀ (n : Nat) (v1 : Int) (σ : Hp), ax_H σ → Fa_clear_I2 k σ0 n v1 σ →
  (6 ≤ v1 →
    Fo_clear_pre (k + 8) σ ∧
    ∀ σ1 : Hp, Fo_clear_post (k + 8) σ σ1 →
    Fo_clear_pre (k + 12) σ1 ∧
    ∀ σ2 : Hp, Fo_clear_post (k + 12) σ1 σ2 →
    ∀ σ3 : Hp, σ3 = hp σ2 k 9 0 →
    ∀ σ4 : Hp, σ4 = hp σ3 k 10 0 →
    ∀ σ5 : Hp, σ5 = hp σ4 k 11 0 →
    ∀ σ6 : Hp, σ6 = hp σ5 k 12 1 →
    ∀ σ7 : Hp, σ7 = hp σ6 k 13 0 →
    ∀ σ8 : Hp, σ8 = hp σ7 k 14 0 →
    ((0 : Int) = 0 ∨ (0 : Int) = 1) ∧
    ∀ σ9 : Hp, σ9 = hp σ8 k 15 0 →
    ((0 : Int) = 0 ∨ (0 : Int) = 1) ∧
    ∀ σ10 : Hp, σ10 = hp σ9 k 16 0 →
    Fa_clear_post k σ0 σ10) ∧
  (¬ (6 ≤ v1) →
    (0 ≤ v1 ∧ v1 < 6) ∧
    ∀ σ11 : Hp, σ11 = hp σ (k + 1) v1.toNat 0 →
    (0 ≤ v1 ∧ v1 < 6) ∧
    ∀ σ12 : Hp, σ12 = hp σ11 (k + 2) v1.toNat 0 →
    (0 ≤ v1 ∧ v1 < 6) ∧
    ∀ σ13 : Hp, σ13 = hp σ12 (k + 3) v1.toNat 0 →
    (0 ≤ v1 ∧ v1 < 6) ∧
    ∀ σ14 : Hp, σ14 = hp σ13 (k + 4) v1.toNat 0 →
    (0 ≤ v1 ∧ v1 < 6) ∧
    ∀ σ15 : Hp, σ15 = hp σ14 (k + 5) v1.toNat 0 →
    (0 ≤ v1 ∧ v1 < 6) ∧
    ∀ σ16 : Hp, σ16 = hp σ15 (k + 6) v1.toNat 0 →
    ∃ n' : Nat, n' < n ∧ k = k ∧ Fa_clear_I2 k σ0 n' (wr (v1 + 1)) σ16)
theorem Fa_clear_p : Fa_clear_vc := by
  intro k σ hH hp
  exact ⟨6, rfl, 0, rfl, by omega, rfl, Fr.rf, fun d _ _ j hj => absurd hj (Nat.not_lt_zero j)⟩
theorem tr_0 {f : Nat → Int} : tr 0 f = fun _ => 0 := by funext j; unfold tr; rw [if_neg (Nat.not_lt_zero j)]
theorem clr_DX {τ : Hp} {f : Nat} (h9 : τ f 9 = 0) (h10 : τ f 10 = 0) (h11 : τ f 11 = 0) (h12 : τ f 12 = 1) (h13 : τ f 13 = 0) (h15 : τ f 15 = 0) (h16 : τ f 16 = 0) (h8 : τ (f + 8) 3 = 0 ∧ τ (f + 8) 4 = 0 ∧ τ (f + 8) 5 = 0) (hg : τ (f + 12) 3 = 0 ∧ τ (f + 12) 4 = 0 ∧ τ (f + 12) 5 = 0) (hd : ∀ d, 1 ≤ d → d ≤ 6 → ∀ j, j < 6 → τ (f + d) j = 0) : DX τ f ∧ psX τ f = ps0 := by
  have ep : psX τ f = ps0 := by
    unfold psX fmX ps0
    rw [h9, h10, h11, h15, h16, h8.2.2, hg.2.2]
    simp only [Int.toNat_zero, tr_0, if_true]
  refine ⟨⟨by rw [ep]; exact ok_ps0, by omega, fun d d1 d2 j _ j2 => hd d (by omega) d2 j j2, fun _ => h12, fun _ => h13, ⟨fun _ => ⟨h8.1, h8.2.1⟩, fun z => absurd h8.2.2 z⟩, ⟨fun _ => ⟨hg.1, hg.2.1⟩, fun z => absurd hg.2.2 z⟩⟩, ep⟩
theorem Fa_clear_p2 : Fa_clear_vc2 := by
  intro k σ0 hp n v1 σ hH hI
  obtain ⟨i, rfl, hi, rfl, hf, hr⟩ := hI
  have hfk : FO k := hp
  refine ⟨fun h => ⟨trivial, ?_⟩, fun h => ?_⟩
  · rintro σ1 rfl
    refine ⟨trivial, ?_⟩
    rintro σ2 rfl σ3 rfl σ4 rfl σ5 rfl σ6 rfl σ7 rfl σ8 rfl
    refine ⟨Or.inl rfl, ?_⟩
    rintro σ9 rfl
    refine ⟨Or.inl rfl, ?_⟩
    rintro σ10 rfl
    have m : ∀ d, d < 16 → k + d ∈ fcs k := fun d hd => fcs_m.mpr ⟨by omega, by omega⟩
    have m0 : k ∈ fcs k := fcs_m.mpr ⟨by omega, by omega⟩
    refine ⟨?_, ?_⟩
    · refine Fr.hp (Fr.hp (Fr.hp (Fr.hp (Fr.hp (Fr.hp (Fr.hp (Fr.hp ?_ m0) m0) m0) m0) m0) m0) m0) m0
      exact Fr.hp (Fr.hp (Fr.hp (Fr.hp (Fr.hp (Fr.hp hf (m 8 (by omega))) (m 8 (by omega))) (m 8 (by omega))) (m 12 (by omega))) (m 12 (by omega))) (m 12 (by omega))
    · refine clr_DX ?_ ?_ ?_ ?_ ?_ ?_ ?_ ?_ ?_ ?_
      · simp [hp_rd]
      · simp [hp_rd]
      · simp [hp_rd]
      · simp [hp_rd]
      · simp [hp_rd]
      · simp [hp_rd]
      · simp [hp_rd]
      · simp [hp_rd]
      · simp [hp_rd]
      · intro d d1 d2 j j2
        rw [hp_ne (by omega), hp_ne (by omega), hp_ne (by omega), hp_ne (by omega), hp_ne (by omega), hp_ne (by omega), hp_ne (by omega), hp_ne (by omega), hp_ne (by omega), hp_ne (by omega), hp_ne (by omega), hp_ne (by omega), hp_ne (by omega), hp_ne (by omega)]
        exact hr d d1 d2 j (by omega)
  · rw [Int.toNat_natCast, wr1 (by omega) (by omega)]
    refine ⟨⟨by omega, by omega⟩, ?_⟩
    rintro σ11 rfl
    refine ⟨⟨by omega, by omega⟩, ?_⟩
    rintro σ12 rfl
    refine ⟨⟨by omega, by omega⟩, ?_⟩
    rintro σ13 rfl
    refine ⟨⟨by omega, by omega⟩, ?_⟩
    rintro σ14 rfl
    refine ⟨⟨by omega, by omega⟩, ?_⟩
    rintro σ15 rfl
    refine ⟨⟨by omega, by omega⟩, ?_⟩
    rintro σ16 rfl
    have m : ∀ d, d < 16 → k + d ∈ fcs k := fun d hd => fcs_m.mpr ⟨by omega, by omega⟩
    refine ⟨6 - (i + 1), by omega, rfl, i + 1, by simp, by omega, rfl, Fr.hp (Fr.hp (Fr.hp (Fr.hp (Fr.hp (Fr.hp hf (m 1 (by omega))) (m 2 (by omega))) (m 3 (by omega))) (m 4 (by omega))) (m 5 (by omega))) (m 6 (by omega)), fun d d1 d2 j hj => ?_⟩
    simp only [hp_rd]
    by_cases e : j = i
    · rcases (show d = 1 ∨ d = 2 ∨ d = 3 ∨ d = 4 ∨ d = 5 ∨ d = 6 by omega) with rfl | rfl | rfl | rfl | rfl | rfl <;> simp [e]
    · simp only [e, and_false, if_false]
      exact hr d d1 d2 j (by omega)
def Fa_clear_I : List AV → Hp → Nat → Nat → List AV → List AV → Hp → Prop := fun as σ0 pc n st ls σ => (match as with
    | [.inr (.inr (.inl (k, 0, 1)))] => (bif Nat.beq pc 2 then (match st, ls with
      | [], [.inr (.inr (.inl (k', 0, 1))), .inl v1] => k = k' ∧ Fa_clear_I2 k σ0 n v1 σ
      | _, _ => False) else False)
    | _ => False)
def Fa_clear_ct : Nat → Ct := fun n => match n with
  | 0 => Fo_clear_cs
  | _ => Fa_clear_cs
set_option maxRecDepth 20000 in
set_option maxHeartbeats 4000000 in
theorem Fa_clear_met {l : Launch} {D : va_G} {ad : Nat → Nat} {ca : Nat → ClassId} {L : Nat} {fx : Nat → Int} : ax_MC l D ad ca L fx yX1_clear cX1_clear 2 none 2 Fa_clear_cs := by
  refine ax_met (oc := 1) (ct := Fa_clear_ct) (calls := Fa_clear_cl) (bs := Fa_clear_bk) (cut := fun pc => Nat.beq pc 2) (f := 4) (I := Fa_clear_I) (by decide) rfl rfl Fa_clear_ck (List.forall_mem_cons.mpr ⟨ax_cwV Fo_clear_met (by decide) (by decide) rfl (by decide) rfl (ax_m2 162 (by decide +kernel) rfl) Fo_clear_w rfl Fo_clear_ds, fun _ h => absurd h List.not_mem_nil⟩) ?_ ?_
  · intro as σ0 hp hH
    match as, hp with
    | [.inr (.inr (.inl (k, 0, 1)))], hp => exact ⟨rfl, Fa_clear_p k σ0 hH hp⟩
  · intro as σ0 hp n pc st ls σ hH hI
    match as, hp, hI with
    | [.inr (.inr (.inl (k, 0, 1)))], hp, hI =>
      rcases ax_bifE hI with ⟨hpc, hI⟩ | ⟨-, hI⟩
      · have := Nat.eq_of_beq_eq_true hpc
        subst this
        match st, ls, hI with
        | [], [.inr (.inr (.inl (k', 0, 1))), .inl v1], hI =>
          obtain ⟨rfl, hI⟩ := hI
          exact Fa_clear_p2 k σ0 hp n v1 σ hH hI
      exact False.elim hI
-- each line goes on
theorem sgnO_adv {B : Tp} {p r : Nat} {c : Int} (hB : B.2 ≤ 1600) (hp : p ≤ B.2) (h : sgnO B p c = .inr r) : p < r ∧ r ≤ B.2 := by
  unfold sgnO at h
  split at h
  · rename_i z
    injection h with h
    have := tN_R hB hp
    rw [← h]
    exact ⟨this.2.2 (by omega), this.2.1⟩
  · cases h
theorem nmrO_adv {B : Tp} {p : Nat} {w lo hi : Int} {x : Int × Nat} (hB : B.2 ≤ 1600) (hp : p ≤ B.2) (h : nmrO B p w lo hi = .inr x) : p < x.2 ∧ x.2 ≤ B.2 := by
  unfold nmrO at h
  split at h
  · rename_i z
    split at h
    · rename_i z2
      split at h
      · cases h
      · injection h with h
        have h1 := tN_R hB hp
        have h2 := tN_R hB h1.2.1
        have h3 := tS_R hB h1.2.1
        rw [← h]
        have := h1.2.2 (by omega)
        exact ⟨by show p < tN B (tN B p); omega, h2.2.1⟩
    · cases h
  · cases h
theorem stM_adv {B : Tp} (hB : B.2 ≤ 1600) {s : MS} (hs : s.2.1 ≤ B.2) : s.2.1 ≤ (stM B s).2.1 ∧ (stM B s).2.1 ≤ B.2 := by
  obtain ⟨ph, p, S, E, u⟩ := s
  have hs : p ≤ B.2 := hs
  have h1 := tN_R hB hs
  have h2 := tS_R hB hs
  match ph with
  | 0 =>
    rw [stM0]
    repeat' split
    all_goals exact ⟨by first | exact Nat.le_refl p | (show p ≤ tN B p; omega), by first | exact hs | exact h1.2.1⟩
  | 1 =>
    rw [stM1]
    repeat' split
    all_goals exact ⟨by first | exact Nat.le_refl p | (show p ≤ tN B p; omega), by first | exact hs | exact h1.2.1⟩
  | n + 2 => exact ⟨Nat.le_refl _, hs⟩
theorem itm_adv {B : Tp} (hB : B.2 ≤ 1600) : ∀ k (s : MS), s.2.1 ≤ B.2 → s.2.1 ≤ (itm B k s).2.1 ∧ (itm B k s).2.1 ≤ B.2 := by
  intro k
  induction k with
  | zero => intro s hs; exact ⟨Nat.le_refl _, hs⟩
  | succ k ih =>
    intro s hs
    have h1 := stM_adv hB hs
    have h2 := ih (stM B s) h1.2
    exact ⟨Nat.le_trans h1.1 h2.1, h2.2⟩
theorem fmlR_adv {B : Tp} (hB : B.2 ≤ 1600) {p : Nat} (hp : p ≤ B.2) : p ≤ (fmlR B p).2.1 ∧ (fmlR B p).2.1 ≤ B.2 := by
  unfold fmlR
  by_cases h : ∃ t, Rch B (0, p, [], [], 0) t ∧ 2 ≤ t.1
  · rw [dif_pos h]
    obtain ⟨k, e⟩ := h.choose_spec.1
    rw [← e]
    exact itm_adv hB k (0, p, [], [], 0) hp
  · rw [dif_neg h]; exact ⟨Nat.le_refl _, hp⟩
theorem ln_adv {B : Tp} (hB : B.2 ≤ 1600) {p : Nat} (hp : p ≤ B.2) {q : PS} {x : PS × Nat} (h : ln B p q = .inr x) : p < x.2 ∧ x.2 ≤ B.2 := by
  have n1 := tN_R hB hp
  have s1 := tS_R hB hp
  have n2 := tN_R hB n1.2.1
  have s2 := tS_R hB n1.2.1
  have n3 := tN_R hB n2.2.1
  have s3 := tS_R hB n2.2.1
  unfold ln at h
  split at h
  · cases h
  split at h
  · unfold lnP at h
    split at h
    · cases h
    split at h
    · cases h
    split at h
    · cases h
    obtain ⟨a1, e1, h⟩ := oB_inr h
    obtain ⟨a2, e2, h⟩ := oB_inr h
    have m1 := nmrO_adv hB n2.2.1 e1
    have m2 := nmrO_adv hB m1.2 e2
    split at h
    · split at h
      · cases h
      obtain ⟨a3, e3, h⟩ := oB_inr h
      obtain ⟨a4, e4, h⟩ := oB_inr h
      obtain ⟨a5, e5, h⟩ := oB_inr h
      have m3 := nmrO_adv hB m2.2 e3
      have m4 := nmrO_adv hB m3.2 e4
      have m5 := sgnO_adv hB m4.2 e5
      injection h with h
      rw [← h]
      exact ⟨by show p < a5; omega, m5.2⟩
    · obtain ⟨a5, e5, h⟩ := oB_inr h
      have m5 := sgnO_adv hB m2.2 e5
      injection h with h
      rw [← h]
      exact ⟨by show p < a5; omega, m5.2⟩
  split at h
  · unfold lnK at h
    split at h
    · cases h
    obtain ⟨a1, e1, h⟩ := oB_inr h
    obtain ⟨a2, e2, h⟩ := oB_inr h
    split at h
    · cases h
    obtain ⟨a3, e3, h⟩ := oB_inr h
    have m5 := sgnO_adv hB n3.2.1 e3
    injection h with h
    rw [← h]
    exact ⟨by show p < a3; omega, m5.2⟩
  have hF : ∀ old ad, lnF B p old ad = .inr x → p < x.2 ∧ x.2 ≤ B.2 := by
    intro old ad h
    unfold lnF at h
    split at h
    · cases h
    split at h
    · cases h
    have m := fmlR_adv hB n1.2.1
    obtain ⟨a3, e3, h⟩ := oB_inr h
    have m5 := sgnO_adv hB m.2 e3
    injection h with h
    rw [← h]
    exact ⟨by show p < a3; omega, m5.2⟩
  split at h
  · exact hF _ _ h
  split at h
  · exact hF _ _ h
  split at h
  · unfold lnE at h
    split at h
    · cases h
    obtain ⟨a1, e1, h⟩ := oB_inr h
    obtain ⟨a2, e2, h⟩ := oB_inr h
    have m1 := nmrO_adv hB hp e1
    have m2 := sgnO_adv hB m1.2 e2
    injection h with h
    rw [← h]
    exact ⟨by show p < a2; omega, m2.2⟩
  split at h
  · unfold lnD at h
    split at h
    · cases h
    obtain ⟨a1, e1, h⟩ := oB_inr h
    obtain ⟨a2, e2, h⟩ := oB_inr h
    have m1 := nmrO_adv hB hp e1
    have m2 := sgnO_adv hB m1.2 e2
    injection h with h
    rw [← h]
    exact ⟨by show p < a2; omega, m2.2⟩
  · cases h
theorem itl_one {B : Tp} {k : Nat} {s o o' : Oc (PS × Nat)} (h : itl B k s = o) (g : lnS B o = o') : itl B (k + 1) s = o' := by
  rw [itl_add, h]; exact g
theorem frX_O {σ : Hp} {g : Nat} (h : FDX σ g) : frX σ g = frO (fmX σ g) ∧ okF σ g ∧ σ g 4 = (uO (fmX σ g) : Nat) ∧ 0 ≤ σ g 4 ∧ σ g 4 ≤ 30 := by
  unfold fmX frX
  by_cases z : σ g 5 = 0
  · obtain ⟨h3, h4⟩ := h.1 z
    rw [if_pos z, h3, h4, z]
    refine ⟨?_, ⟨by omega, by omega, fun y => absurd z y⟩, rfl, by decide, by decide⟩
    show ((0 : Int), (0 : Nat), tr 0 (σ (g + 1))) = (0, 0, fun _ => 0)
    rw [tr_0]
  · obtain ⟨h5, h6, h7⟩ := h.2 z
    obtain ⟨w1, w2, w3, w4⟩ := h6
    rw [if_neg z, h5]
    refine ⟨?_, ⟨w2.1, by omega, fun _ => ⟨w3, by omega⟩⟩, ?_, w1.1, w1.2⟩
    · show ((1 : Int), (σ g 3).toNat, tr (σ g 3).toNat (σ (g + 1))) = (1, (rdL σ g).length, fun j => (rdL σ g).getD j 0)
      have e1 : (rdL σ g).length = (σ g 3).toNat := by simp [rdL]
      rw [e1]
      refine Prod.ext rfl (Prod.ext rfl ?_)
      funext j
      show tr (σ g 3).toNat (σ (g + 1)) j = (rdL σ g).getD j 0
      rw [List.getD_eq_getElem?_getD]
      unfold tr
      by_cases e : j < (σ g 3).toNat
      · rw [if_pos e, List.getElem?_eq_getElem (by rw [e1]; exact e)]
        simp [rdL]
      · rw [if_neg e, List.getElem?_eq_none (by rw [e1]; omega)]
        rfl
    · show σ g 4 = (((σ g 4).toNat : Nat) : Int)
      omega
theorem tr_6 {σ : Hp} {f d : Nat} (hD : DX σ f) (d1 : 2 ≤ d) (d2 : d ≤ 6) : tr 6 (σ (f + d)) = tr (σ f 9).toNat (σ (f + d)) := by
  have hn := hD.n
  funext j
  unfold tr
  by_cases e : j < (σ f 9).toNat
  · rw [if_pos e, if_pos (by omega)]
  · rw [if_neg e]
    by_cases z : j < 6
    · rw [if_pos z]; exact hD.2.2.1 d d1 d2 j (by omega) z
    · rw [if_neg z]
/-- a draft that is read whole is a family -/
theorem fam_DX {σ τ : Hp} {f : Nat} (hD : DX σ f) (hτ : ∀ c, ¬ c = f → τ c = σ c) (hf : ∀ j, ¬ j = 14 → τ f j = σ f j) (h14 : τ f 14 = σ (f + 8) 4 + σ (f + 12) 4) : famX τ f = famO (psX σ f) ∧ FS τ f := by
  have w8 := frX_O hD.2.2.2.2.2.1
  have w12 := frX_O hD.2.2.2.2.2.2
  have hn := hD.n
  have e8 : frX τ (f + 8) = frX σ (f + 8) := by unfold frX; rw [hτ (f + 8) (by omega), hτ (f + 8 + 1) (by omega)]
  have e12 : frX τ (f + 12) = frX σ (f + 12) := by unfold frX; rw [hτ (f + 12) (by omega), hτ (f + 12 + 1) (by omega)]
  have hE : τ f 12 = (pEa (psX σ f)).getD 1 := by
    rw [hf 12 (by decide)]
    show _ = (if σ f 15 = 0 then none else some (σ f 12)).getD 1
    by_cases z : σ f 15 = 0
    · rw [if_pos z, hD.2.2.2.1 z]; rfl
    · rw [if_neg z]; rfl
  have hDr : τ f 13 = (pDr (psX σ f)).getD 0 := by
    rw [hf 13 (by decide)]
    show _ = (if σ f 16 = 0 then none else some (σ f 13)).getD 0
    by_cases z : σ f 16 = 0
    · rw [if_pos z, hD.2.2.2.2.1 z]; rfl
    · rw [if_neg z]; rfl
  have okq := hD.1
  refine ⟨?_, ⟨?_, ?_⟩, ?_, ?_, fun j hj => ?_, ?_, ?_⟩
  · unfold famX famO
    rw [hf 9 (by decide), hE, hDr, h14, hτ (f + 2) (by omega), hτ (f + 3) (by omega), hτ (f + 4) (by omega), hτ (f + 5) (by omega), hτ (f + 6) (by omega), tr_6 hD (by omega) (by omega), tr_6 hD (by omega) (by omega), tr_6 hD (by omega) (by omega), tr_6 hD (by omega) (by omega), tr_6 hD (by omega) (by omega), e8, e12, w8.1, w12.1, w8.2.2.1, w12.2.2.1]
    rfl
  · rw [hf 9 (by decide)]; exact hn.1
  · refine ⟨by rw [hf 9 (by decide)]; exact hn.2.1, ?_⟩
    rw [hτ (f + 6) (by omega)]
    have : nwn (σ (f + 6)) 6 = nwn (pAm (psX σ f)) 6 := by
      refine nwn_ext (fun j hj => ?_)
      show _ = tr (σ f 9).toNat (σ (f + 6)) j
      rw [← tr_6 hD (by omega) (by omega), tr_in hj]
    rw [this]
    have h1 := okq.2.2.2.2.2.1
    have h2 := okq.1.2.2
    omega
  · rw [hE]
    cases z : pEa (psX σ f) with
    | none => show (0 : Int) ≤ 1 ∧ (1 : Int) ≤ 999; decide
    | some v => exact okq.2.1 v z
  · rw [hDr]
    cases z : pDr (psX σ f) with
    | none => show (0 : Int) ≤ 0 ∧ (0 : Int) ≤ 999; decide
    | some v => exact okq.2.2.1 v z
  · have h4 := okq.2.2.2.1 j
    have t : ∀ d, 2 ≤ d → d ≤ 6 → τ (f + d) j = tr (σ f 9).toNat (σ (f + d)) j := fun d d1 d2 => by rw [hτ (f + d) (by omega), ← tr_6 hD d1 d2, tr_in hj]
    rw [t 6 (by omega) (by omega), t 5 (by omega) (by omega), t 4 (by omega) (by omega), t 3 (by omega) (by omega)]
    exact ⟨h4.2.2.2.2, h4.2.2.2.1, h4.2.1, h4.2.2.1⟩
  · unfold okF; rw [hτ (f + 8) (by omega), hτ (f + 8 + 1) (by omega)]; exact w8.2.1
  · unfold okF; rw [hτ (f + 12) (by omega), hτ (f + 12 + 1) (by omega)]; exact w12.2.1
def Rd_read_pre (k f : Nat) (σ : Hp) : Prop := k = 1 ∧ FO f ∧ RT σ
def Rd_read_post (_k f : Nat) (σ : Hp) (r : Int) (σ' : Hp) : Prop := Fr (1 :: fcs f) σ σ' ∧ σ' 1 1 = σ 1 1 ∧ ∃ o, RdA (tpX σ) o ∧ (match o with
  | .inl x => r = 0 ∧ σ' 1 2 = x.1 ∧ σ' 1 3 = (tS (tpX σ) x.2 : Nat)
  | .inr x => r = 1 ∧ σ' 1 2 = 0 ∧ σ' 1 3 = -1 ∧ famX σ' f = famO x.1 ∧ FS σ' f)
def Rd_read_I25 (_k f : Nat) (σ0 : Hp) (n : Nat) (v2 : Int) (σ : Hp) : Prop := ∃ i p : Nat, v2 = i ∧ n = 1601 - i ∧ i ≤ p ∧ Fr (1 :: fcs f) σ0 σ ∧ σ 1 1 = σ0 1 1 ∧ RS σ (tpX σ0) p ∧ DX σ f ∧ σ 1 2 = 0 ∧ σ 1 3 = -1 ∧ itl (tpX σ0) i (.inr (ps0, 0)) = .inr (psX σ f, p)
def Rd_read_bk : List (Nat × List Item) := [(0, [(.aload_n 1, 1, [], []), (.invokevirtual 22, 3, [0], []), (.aload_n 0, 1, [], []), (.iconst 0, 1, [], []), (.putfield 27, 3, [5, 2, 0, 0, 0, 0], []), (.aload_n 0, 1, [], []), (.iconst (-1), 1, [], []), (.putfield 15, 3, [5, 3, 0, 0, 0, 0], []), (.aload_n 0, 1, [], []), (.iconst 0, 1, [], []), (.putfield 30, 3, [5, 4, 0, 0, 0, 0], []), (.aload_n 0, 1, [], []), (.invokevirtual 33, 3, [1], []), (.iconst 0, 1, [], []), (.istore_n 2, 1, [], [])]),
  (25, [(.iload_n 2, 1, [], []), (.sipush 1600, 3, [], []), (.if_icmp .gt 47, 3, [76], []), (.aload_n 0, 1, [], []), (.getfield 36, 3, [5, 5, 0, 0, 0, 0], []), (.ifCond .ne 24, 3, [60], []), (.aload_n 1, 1, [], []), (.aload_n 1, 1, [], []), (.getfield 39, 3, [1, 7, 4, 8, 0, 2], []), (.getfield 43, 3, [2, 4, 0, 0, 0, 0], []), (.aload_n 1, 1, [], []), (.getfield 48, 3, [1, 8, 4, 12, 0, 2], []), (.getfield 43, 3, [2, 4, 0, 0, 0, 0], []), (.iadd, 1, [], []), (.putfield 51, 3, [1, 14, 0, 0, 0, 0], []), (.iconst 1, 1, [], []), (.ireturn, 1, [], [])]),
  (60, [(.aload_n 0, 1, [], []), (.aload_n 1, 1, [], []), (.invokevirtual 52, 3, [2], []), (.ifCond .ne 5, 3, [70], []), (.iconst 0, 1, [], []), (.ireturn, 1, [], [])]),
  (70, [(.iinc 2 1, 3, [], []), (.goto (-48), 3, [25], [])]),
  (76, [(.aload_n 0, 1, [], []), (.invokevirtual 56, 3, [3], []), (.ireturn, 1, [], [])])]
def Rd_read_cl : List (Instr × Nat) := [(.invokevirtual 22, 0), (.invokevirtual 33, 1), (.invokevirtual 52, 2), (.invokevirtual 56, 3)]
set_option maxRecDepth 20000 in
theorem Rd_read_ck : Rd_read_bk.all (fun b => ax_chB 5 3 cX5_read Rd_read_cl b.1 b.2) = true := by decide +kernel
def Rd_read_cs : Ct := (2, 6, 2, (0, 0), fun as σ => (match as with
    | [.inr (.inr (.inl (k, 0, 5))), .inr (.inr (.inl (q1, 0, 1)))] => Rd_read_pre k q1 σ
    | _ => False), fun as σ r σ' => (match as with
    | [.inr (.inr (.inl (k, 0, 5))), .inr (.inr (.inl (q1, 0, 1)))] => Rd_read_post k q1 σ r σ'
    | _ => False))
theorem Rd_read_w : ∀ w ∈ ([.instanceMethod yX5_read, .selects yX5_read.cls yX5_read yX5_read, .initialized yX5_read.cls, .code yX5_read cX5_read 3 (some .boolean)] : List Cond), w ∈ ax_tb := ax_w4 (ax_m2 155 (by decide +kernel) rfl) (ax_m2 156 (by decide +kernel) rfl) (ax_m1 2 (by decide +kernel) rfl) (ax_m2 157 (by decide +kernel) rfl)
theorem Rd_read_ds : yX5_read.cls ≠ "java/lang/invoke/MethodHandle" ∧ yX5_read.cls ≠ "java/lang/invoke/VarHandle" ∧ (parseMethodDescriptor yX5_read.desc).map (fun d => d.parameters.length) = some 1 := by decide +kernel
def Rd_read_vc : Prop := ∀ (k : Nat) (q1 : Nat) (σ : Hp), ax_H σ → Rd_read_pre k q1 σ →
  Fa_clear_pre q1 σ ∧
  ∀ σ1 : Hp, Fa_clear_post q1 σ σ1 →
  ∀ σ2 : Hp, σ2 = hp σ1 k 2 0 →
  ∀ σ3 : Hp, σ3 = hp σ2 k 3 (-1) →
  ∀ σ4 : Hp, σ4 = hp σ3 k 4 0 →
  Rd_advance_pre k σ4 ∧
  ∀ σ5 : Hp, Rd_advance_post k σ4 σ5 →
  ∃ n' : Nat, k = k ∧ q1 = q1 ∧ Rd_read_I25 k q1 σ n' 0 σ5
def Rd_read_vc25 : Prop := ∀ (k : Nat) (q1 : Nat) (σ0 : Hp), Rd_read_pre k q1 σ0 → ∀ (n : Nat) (v2 : Int) (σ : Hp), ax_H σ → Rd_read_I25 k q1 σ0 n v2 σ →
  (1600 < v2 →
    Rd_refuse_pre k σ ∧
    ∀ (r2 : Int) (σ1 : Hp), Rd_refuse_post k σ r2 σ1 →
    (r2 = 0 ∨ r2 = 1) ∧ Rd_read_post k q1 σ0 r2 σ1) ∧
  (¬ (1600 < v2) →
    (¬ σ k 5 = 0 →
      Rd_readLine_pre k q1 σ ∧
      ∀ (r4 : Int) (σ3 : Hp), Rd_readLine_post k q1 σ r4 σ3 →
      (¬ r4 = 0 →
        ∃ n' : Nat, n' < n ∧ k = k ∧ q1 = q1 ∧ Rd_read_I25 k q1 σ0 n' (wr (v2 + 1)) σ3) ∧
      (¬ (¬ r4 = 0) →
        ((0 : Int) = 0 ∨ (0 : Int) = 1) ∧ Rd_read_post k q1 σ0 0 σ3)) ∧
    (¬ (¬ σ k 5 = 0) →
      ∀ σ5 : Hp, σ5 = hp σ q1 14 (wr ((σ (q1 + 8) 4) + (σ (q1 + 12) 4))) →
      ((1 : Int) = 0 ∨ (1 : Int) = 1) ∧ Rd_read_post k q1 σ0 1 σ5))
theorem Rd_read_p : Rd_read_vc := by
  intro k f σ hH hp
  obtain ⟨rfl, hf, hT⟩ := hp
  have hfn := FO_ne hf
  refine ⟨hf, ?_⟩
  rintro σ1 ⟨f1, hD, hps⟩
  have o1 : σ1 1 = σ 1 := off1 hf f1
  have o2 : σ1 2 = σ 2 := f1 2 (fun z => by have := fcs_m.mp z; omega)
  rintro σ2 rfl σ3 rfl σ4 hσ4
  have e1 : σ4 1 1 = σ 1 1 := by rw [hσ4, hp_r2 (by omega), hp_r2 (by omega), hp_r2 (by omega), o1]
  have e2 : σ4 1 2 = 0 := by rw [hσ4, hp_r2 (by omega), hp_r2 (by omega), hp_r1]
  have e3 : σ4 1 3 = -1 := by rw [hσ4, hp_r2 (by omega), hp_r1]
  have e4 : σ4 1 4 = 0 := by rw [hσ4, hp_r1]
  have ec : ∀ c, ¬ c = 1 → σ4 c = σ1 c := fun c hc => by rw [hσ4, hp_ne hc, hp_ne hc, hp_ne hc]
  have eB : tpX σ4 = tpX σ := tpX_eq e1 (by rw [ec 2 (by decide), o2])
  have hT4 : RT σ4 := by unfold RT; rw [e1]; exact hT
  refine ⟨⟨rfl, hT4, by omega, by rw [e4, e1]; exact hT.1⟩, ?_⟩
  rintro σ5 ⟨a1, a2, a3, a4, a5⟩
  rw [e4, eB] at a5
  have P5 := psX_eq (f := f) (σ := σ1) (σ' := σ5) (fun c c1 c2 => by rw [a1 c (by simp; omega), ec c (by omega)])
  have f4 : Fr (1 :: fcs f) σ1 σ4 := fun c hc => ec c (fun z => hc (by rw [z]; exact List.mem_cons_self))
  refine ⟨1601, rfl, rfl, 0, 0, rfl, rfl, Nat.le_refl _, ((frm f1).tr f4).tr (Fr1f a1), by rw [a4, e1], a5, P5.2 hD, by rw [a2, e2], by rw [a3, e3], ?_⟩
  rw [P5.1, hps]; rfl
theorem Rd_read_p25 : Rd_read_vc25 := by
  intro k f σ0 hp n v2 σ hH hI
  obtain ⟨rfl, hf, hT⟩ := hp
  obtain ⟨i, p, rfl, rfl, hip, hfr, h1, hR, hD, h2, h3, hit⟩ := hI
  have hfn := FO_ne hf
  have hn := hT.n
  have hpB := hR.2.2.1
  have h5 := hR.2.2.2.1
  refine ⟨fun h => absurd h (by omega), fun h => ⟨fun hk => ?_, fun hk => ?_⟩⟩
  · obtain ⟨hc, hcB, hcS⟩ := hR.can
    refine ⟨⟨rfl, hf, hD, hc, h2⟩, ?_⟩
    intro r4 σ3 h4
    obtain ⟨g1, g2, g3, g4⟩ := h4
    rw [hcB, hcS] at g4
    have hk0 : ¬ tK (tpX σ0) p = 0 := by omega
    have hst : lnS (tpX σ0) (.inr (psX σ f, p)) = ln (tpX σ0) (tS (tpX σ0) p) (psX σ f) := by
      show (if tK (tpX σ0) p = 0 then _ else _) = _
      rw [if_neg hk0]
    have hs := tS_R hn.1 hpB
    cases hl : ln (tpX σ0) (tS (tpX σ0) p) (psX σ f) with
    | inl x =>
      rw [hl] at g4 hst
      obtain ⟨k1, k2, k3⟩ := g4
      subst k1
      refine ⟨fun z => absurd rfl z, fun _ => ⟨Or.inl rfl, hfr.tr g2, by rw [g3, h1], .inl x, ⟨trivial, i + 1, itl_one hit hst⟩, rfl, k2, k3⟩⟩
    | inr x =>
      rw [hl] at g4 hst
      obtain ⟨k1, k2, k3, k4, k5, k6⟩ := g4
      subst k1
      have ha := ln_adv hn.1 hs.2 hl
      refine ⟨fun _ => ⟨1601 - (i + 1), by omega, rfl, rfl, i + 1, x.2, by rw [wr1 (by omega) (by omega)]; simp, rfl, by omega, hfr.tr g2, by rw [g3, h1], k4, k5, k2, by rw [k3, h3], ?_⟩, fun z => absurd (by decide) z⟩
      rw [k6]
      exact itl_one hit hst
  · have hk0 : tK (tpX σ0) p = 0 := by omega
    have u8 := frX_O hD.2.2.2.2.2.1
    have u12 := frX_O hD.2.2.2.2.2.2
    rintro σ5 hσ5
    have w : wr (σ (f + 8) 4 + σ (f + 12) 4) = σ (f + 8) 4 + σ (f + 12) 4 := wr_id (by omega) (by omega)
    rw [w] at hσ5
    have ne : ∀ c, ¬ c = f → σ5 c = σ c := fun c hc => by rw [hσ5, hp_ne hc]
    have FD := fam_DX (τ := σ5) hD ne (fun j hj => by rw [hσ5, hp_r2 (fun z => hj z.2)]) (by rw [hσ5, hp_r1])
    refine ⟨Or.inr rfl, ?_, by rw [ne 1 (by omega), h1], .inr (psX σ f, p), ⟨hk0, i, hit⟩, rfl, by rw [ne 1 (by omega)]; exact h2, by rw [ne 1 (by omega)]; exact h3, FD.1, FD.2⟩
    rw [hσ5]
    exact Fr.hp hfr (List.mem_cons_of_mem _ (fcs_m.mpr ⟨by omega, by omega⟩))
def Rd_read_I : List AV → Hp → Nat → Nat → List AV → List AV → Hp → Prop := fun as σ0 pc n st ls σ => (match as with
    | [.inr (.inr (.inl (k, 0, 5))), .inr (.inr (.inl (q1, 0, 1)))] => (bif Nat.beq pc 25 then (match st, ls with
      | [], [.inr (.inr (.inl (k', 0, 5))), .inr (.inr (.inl (q1', 0, 1))), .inl v2] => k = k' ∧ q1 = q1' ∧ Rd_read_I25 k q1 σ0 n v2 σ
      | _, _ => False) else False)
    | _ => False)
def Rd_read_ct : Nat → Ct := fun n => match n with
  | 0 => Fa_clear_cs
  | 1 => Rd_advance_cs
  | 2 => Rd_readLine_cs
  | 3 => Rd_refuse_cs
  | _ => Rd_read_cs
set_option maxRecDepth 20000 in
set_option maxHeartbeats 4000000 in
theorem Rd_read_met {l : Launch} {D : va_G} {ad : Nat → Nat} {ca : Nat → ClassId} {L : Nat} {fx : Nat → Int} : ax_MC l D ad ca L fx yX5_read cX5_read 3 (some .boolean) 166 Rd_read_cs := by
  refine ax_met (oc := 5) (ct := Rd_read_ct) (calls := Rd_read_cl) (bs := Rd_read_bk) (cut := fun pc => Nat.beq pc 25) (f := 6) (I := Rd_read_I) (by decide) rfl rfl Rd_read_ck (List.forall_mem_cons.mpr ⟨ax_cwV Fa_clear_met (by decide) (by decide) rfl (by decide) rfl (ax_m2 158 (by decide +kernel) rfl) Fa_clear_w rfl Fa_clear_ds, List.forall_mem_cons.mpr ⟨ax_cwV Rd_advance_met (by decide) (by decide) rfl (by decide) rfl (ax_m2 166 (by decide +kernel) rfl) Rd_advance_w rfl Rd_advance_ds, List.forall_mem_cons.mpr ⟨ax_cwV Rd_readLine_met (by decide) (by decide) rfl (by decide) rfl (ax_m3 33 (by decide +kernel) rfl) Rd_readLine_w rfl Rd_readLine_ds, List.forall_mem_cons.mpr ⟨ax_cwV Rd_refuse_met (by decide) (by decide) rfl (by decide) rfl (ax_m3 37 (by decide +kernel) rfl) Rd_refuse_w rfl Rd_refuse_ds, fun _ h => absurd h List.not_mem_nil⟩⟩⟩⟩) ?_ ?_
  · intro as σ0 hp hH
    match as, hp with
    | [.inr (.inr (.inl (k, 0, 5))), .inr (.inr (.inl (q1, 0, 1)))], hp => exact ⟨rfl, Rd_read_p k q1 σ0 hH hp⟩
  · intro as σ0 hp n pc st ls σ hH hI
    match as, hp, hI with
    | [.inr (.inr (.inl (k, 0, 5))), .inr (.inr (.inl (q1, 0, 1)))], hp, hI =>
      rcases ax_bifE hI with ⟨hpc, hI⟩ | ⟨-, hI⟩
      · have := Nat.eq_of_beq_eq_true hpc
        subst this
        match st, ls, hI with
        | [], [.inr (.inr (.inl (k', 0, 5))), .inr (.inr (.inl (q1', 0, 1))), .inl v2], hI =>
          obtain ⟨rfl, rfl, hI⟩ := hI
          exact Rd_read_p25 k q1 σ0 hp n v2 σ hH hI
      exact False.elim hI
