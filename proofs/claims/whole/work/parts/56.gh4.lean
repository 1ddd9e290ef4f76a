-- THE CLASS: undo, redo, rows that lie, sights, boxes, the text
def Gh_undo_pre (k : Nat) (σ : Hp) : Prop := k = 0 ∧ XP σ
def Gh_undo_post (_k : Nat) (σ : Hp) (r : Int) (σ' : Hp) : Prop := XQ σ σ' ∧ s_undo (xA σ) r (xA σ')
def Gh_undo_bk : List (Nat × List Item) := [(0, [(.aload_n 0, 1, [], []), (.getfield 26, 3, [8, 2, 4, 14, 0, 3], []), (.aload_n 0, 1, [], []), (.getfield 47, 3, [8, 5, 4, 31, 0, 7], []), (.invokevirtual 168, 3, [0], []), (.ireturn, 1, [], [])])]
def Gh_undo_cl : List (Instr × Nat) := [(.invokevirtual 168, 0)]
set_option maxRecDepth 20000 in
theorem Gh_undo_ck : Gh_undo_bk.all (fun b => ax_chB 8 1 cX8_undo Gh_undo_cl b.1 b.2) = true := by decide +kernel
def Gh_undo_cs : Ct := (1, 9, 2, (0, 0), fun as σ => (match as with
    | [.inr (.inr (.inl (k, 0, 8)))] => Gh_undo_pre k σ
    | _ => False), fun as σ r σ' => (match as with
    | [.inr (.inr (.inl (k, 0, 8)))] => Gh_undo_post k σ r σ'
    | _ => False))
theorem Gh_undo_w : ∀ w ∈ ([.instanceMethod yX8_undo, .selects yX8_undo.cls yX8_undo yX8_undo, .initialized yX8_undo.cls, .code yX8_undo cX8_undo 1 (some .boolean)] : List Cond), w ∈ ax_tb := ax_w4 (ax_m4 55 (by decide +kernel) rfl) (ax_m4 56 (by decide +kernel) rfl) (ax_m1 1 (by decide +kernel) rfl) (ax_m4 57 (by decide +kernel) rfl)
theorem Gh_undo_ds : yX8_undo.cls ≠ "java/lang/invoke/MethodHandle" ∧ yX8_undo.cls ≠ "java/lang/invoke/VarHandle" ∧ (parseMethodDescriptor yX8_undo.desc).map (fun d => d.parameters.length) = some 0 := by decide +kernel
def Gh_undo_vc : Prop := ∀ (k : Nat) (σ : Hp), ax_H σ → Gh_undo_pre k σ →
  Hi_stepBack_pre (k + 14) (k + 31) σ ∧
  ∀ (r2 : Int) (σ1 : Hp), Hi_stepBack_post (k + 14) (k + 31) σ r2 σ1 →
  (r2 = 0 ∨ r2 = 1) ∧ Gh_undo_post k σ r2 σ1
/-- steps in the history: the state comes out of it -/
theorem step_x {σ σ' : Hp} (hP : XP σ) (hf : Fr [14, 15, 31, 32, 33] σ σ') (hO : HO σ') (hh : σ' 14 2 < σ' 14 3 → hst σ' (σ' 14 2).toNat = stX σ' 31) : XQ σ σ' ∧ xA σ' = wH (xA σ) (stX σ' 31) (hstL σ') := by
  have hX := hP.1
  have hfo := hX.1.fo
  have e : ∀ c, (c < 14 ∨ (16 ≤ c ∧ c ≤ 30) ∨ 34 ≤ c) → σ' c = σ c := fun c hc => hf c (by simp; omega)
  have hK : FK (tld σ) σ σ' := FK_of hfo hf (fun c z => by simp at z; omega)
  have G := xA_gen hX (by rw [e 0 (by omega)]) (by rw [e 0 (by omega)]) (e 1 (by omega)) (e 2 (by omega)) hK hO (by rw [e 19 (by omega)]; exact hX.2.2.2.2.1) (by rw [e 19 (by omega)]) (e 28 (by omega)) (by rw [e 0 (by omega)]; exact hX.2.2.2.2.2.2.1) hh (fun c hcc => e c (by omega))
  refine ⟨G.1, ?_⟩
  rw [G.2]
  have eG : sgX σ' = sgX σ := sgX_eq (by rw [e 19 (by omega)]) (fun c c1 c2 => e c (by omega))
  rw [bxX_eq (e 17 (by omega)) (e 18 (by omega)), eG, e 0 (by omega), e 34 (by omega)]
  rfl
theorem Gh_undo_p : Gh_undo_vc := by
  intro k σ hH hp
  obtain ⟨rfl, hP⟩ := hp
  have hX := hP.1
  have hO := hX.2.2.2.1
  obtain ⟨o1, o2, o3, o4⟩ := hO
  have inH : ¬ σ 14 2 = 0 → hst σ ((σ 14 2).toNat - 1) ∈ (aH (xA σ)).1 := fun z => List.mem_map.mpr ⟨(σ 14 2).toNat - 1, List.mem_range.mpr (by omega), rfl⟩
  refine ⟨⟨rfl, rfl, hX.2.2.2.1, fun z => (hP.2.2.2.2.1 _ (inH z)).2.2.2⟩, ?_⟩
  intro r2 σ1 h
  unfold Hi_stepBack_post at h
  by_cases z : σ 14 2 = 0
  · rw [if_pos z] at h
    obtain ⟨rfl, rfl⟩ := h
    refine ⟨Or.inl rfl, same0 hX, ?_⟩
    unfold s_undo
    rw [if_pos (show (aH (xA σ1)).1 = [] from by show List.map _ (List.range (σ1 14 2).toNat) = []; rw [z]; rfl)]
    exact ⟨rfl, rfl⟩
  · rw [if_neg z] at h
    obtain ⟨rfl, g1, g2, g3, g4, g5, g6, g7⟩ := h
    obtain ⟨n, hn⟩ : ∃ n : Nat, σ 14 2 = ((n + 1 : Nat) : Int) := ⟨(σ 14 2).toNat - 1, by omega⟩
    have en : (σ 14 2).toNat = n + 1 := by omega
    have en' : (σ1 14 2).toNat = n := by rw [g3, hn]; omega
    rw [en] at g5 g6
    simp only [Nat.add_sub_cancel] at g5
    have S := step_x hP g1 g2 (fun _ => by rw [en', g7 n (by omega) (by omega)]; exact g5.symm)
    refine ⟨Or.inr rfl, S.1, ?_⟩
    unfold s_undo
    have hlist : (aH (xA σ)).1 = (List.range n).map (hst σ) ++ [hst σ n] := by
      show List.map (hst σ) (List.range (σ 14 2).toNat) = _
      rw [en, List.range_succ, List.map_append]; rfl
    rw [if_neg (by rw [hlist]; simp)]
    refine ⟨rfl, hst σ n, by rw [hlist]; simp, ?_⟩
    have e1 : List.map (hst σ1) (List.range n) = List.map (hst σ) (List.range n) := List.map_congr_left (fun i hi => g7 i (by have := List.mem_range.mp hi; omega) (by have := List.mem_range.mp hi; omega))
    have e2 : List.map (fun i => hst σ1 (n + 1 + i)) (List.range ((σ1 14 3).toNat - n)) = aS (xA σ) :: (aH (xA σ)).2 := by
      rw [g4, show (σ 14 3).toNat - n = ((σ 14 3).toNat - (n + 1)) + 1 by omega, List.range_succ_eq_map, List.map_cons, List.map_map, Nat.add_zero, g6]
      show _ = stX σ 31 :: List.map (fun i => hst σ ((σ 14 2).toNat + 1 + i)) (List.range ((σ 14 3).toNat - (σ 14 2).toNat))
      rw [en]
      refine congrArg (List.cons (stX σ 31)) (List.map_congr_left (fun i hi => ?_))
      have := List.mem_range.mp hi
      show hst σ1 (n + 1 + (i + 1)) = hst σ (n + 1 + 1 + i)
      rw [show n + 1 + (i + 1) = n + 1 + 1 + i by omega]
      exact g7 _ (by omega) (by omega)
    rw [S.2, g5, hlist, List.dropLast_concat]
    unfold hstL
    rw [en', e1, e2]
def Gh_undo_I : List AV → Hp → Nat → Nat → List AV → List AV → Hp → Prop := fun as σ0 pc n st ls σ => (match as with
    | [.inr (.inr (.inl (k, 0, 8)))] => False
    | _ => False)
def Gh_undo_ct : Nat → Ct := fun n => match n with
  | 0 => Hi_stepBack_cs
  | _ => Gh_undo_cs
set_option maxRecDepth 20000 in
set_option maxHeartbeats 4000000 in
theorem Gh_undo_met {l : Launch} {D : va_G} {ad : Nat → Nat} {ca : Nat → ClassId} {L : Nat} {fx : Nat → Int} : ax_MC l D ad ca L fx yX8_undo cX8_undo 1 (some .boolean) 3 Gh_undo_cs := by
  refine ax_met (oc := 8) (ct := Gh_undo_ct) (calls := Gh_undo_cl) (bs := Gh_undo_bk) (cut := fun pc => false) (f := 2) (I := Gh_undo_I) (by decide) rfl rfl Gh_undo_ck (List.forall_mem_cons.mpr ⟨ax_cwV Hi_stepBack_met (by decide) (by decide) rfl (by decide) rfl (ax_m4 58 (by decide +kernel) rfl) Hi_stepBack_w rfl Hi_stepBack_ds, fun _ h => absurd h List.not_mem_nil⟩) ?_ ?_
  · intro as σ0 hp hH
    match as, hp with
    | [.inr (.inr (.inl (k, 0, 8)))], hp => exact ⟨rfl, Gh_undo_p k σ0 hH hp⟩
  · intro as σ0 hp n pc st ls σ hH hI
    match as, hp, hI with
    | [.inr (.inr (.inl (k, 0, 8)))], hp, hI => exact False.elim hI
def Gh_redo_pre (k : Nat) (σ : Hp) : Prop := k = 0 ∧ XP σ
def Gh_redo_post (_k : Nat) (σ : Hp) (r : Int) (σ' : Hp) : Prop := XQ σ σ' ∧ s_redo (xA σ) r (xA σ')
def Gh_redo_bk : List (Nat × List Item) := [(0, [(.aload_n 0, 1, [], []), (.getfield 26, 3, [8, 2, 4, 14, 0, 3], []), (.aload_n 0, 1, [], []), (.getfield 47, 3, [8, 5, 4, 31, 0, 7], []), (.invokevirtual 172, 3, [0], []), (.ireturn, 1, [], [])])]
def Gh_redo_cl : List (Instr × Nat) := [(.invokevirtual 172, 0)]
set_option maxRecDepth 20000 in
theorem Gh_redo_ck : Gh_redo_bk.all (fun b => ax_chB 8 1 cX8_redo Gh_redo_cl b.1 b.2) = true := by decide +kernel
def Gh_redo_cs : Ct := (1, 9, 2, (0, 0), fun as σ => (match as with
    | [.inr (.inr (.inl (k, 0, 8)))] => Gh_redo_pre k σ
    | _ => False), fun as σ r σ' => (match as with
    | [.inr (.inr (.inl (k, 0, 8)))] => Gh_redo_post k σ r σ'
    | _ => False))
theorem Gh_redo_w : ∀ w ∈ ([.instanceMethod yX8_redo, .selects yX8_redo.cls yX8_redo yX8_redo, .initialized yX8_redo.cls, .code yX8_redo cX8_redo 1 (some .boolean)] : List Cond), w ∈ ax_tb := ax_w4 (ax_m4 67 (by decide +kernel) rfl) (ax_m4 68 (by decide +kernel) rfl) (ax_m1 1 (by decide +kernel) rfl) (ax_m4 69 (by decide +kernel) rfl)
theorem Gh_redo_ds : yX8_redo.cls ≠ "java/lang/invoke/MethodHandle" ∧ yX8_redo.cls ≠ "java/lang/invoke/VarHandle" ∧ (parseMethodDescriptor yX8_redo.desc).map (fun d => d.parameters.length) = some 0 := by decide +kernel
def Gh_redo_vc : Prop := ∀ (k : Nat) (σ : Hp), ax_H σ → Gh_redo_pre k σ →
  Hi_stepOn_pre (k + 14) (k + 31) σ ∧
  ∀ (r2 : Int) (σ1 : Hp), Hi_stepOn_post (k + 14) (k + 31) σ r2 σ1 →
  (r2 = 0 ∨ r2 = 1) ∧ Gh_redo_post k σ r2 σ1
theorem Gh_redo_p : Gh_redo_vc := by
  intro k σ hH hp
  obtain ⟨rfl, hP⟩ := hp
  have hX := hP.1
  obtain ⟨o1, o2, o3, o4⟩ := hX.2.2.2.1
  have inH : ¬ σ 14 2 = σ 14 3 → hst σ ((σ 14 2).toNat + 1) ∈ (aH (xA σ)).2 := fun z => List.mem_map.mpr ⟨0, List.mem_range.mpr (by omega), rfl⟩
  refine ⟨⟨rfl, rfl, hX.2.2.2.1, fun z => (hP.2.2.2.2.2.1 _ (inH z)).2.2.2⟩, ?_⟩
  intro r2 σ1 h
  unfold Hi_stepOn_post at h
  by_cases z : σ 14 2 = σ 14 3
  · rw [if_pos z] at h
    obtain ⟨rfl, rfl⟩ := h
    refine ⟨Or.inl rfl, same0 hX, ?_⟩
    have hR : (aH (xA σ1)).2 = [] := by show List.map _ (List.range ((σ1 14 3).toNat - (σ1 14 2).toNat)) = []; rw [z, Nat.sub_self]; rfl
    unfold s_redo
    rw [hR]
    exact ⟨rfl, rfl⟩
  · rw [if_neg z] at h
    obtain ⟨rfl, g1, g2, g3, g4, g5, g6⟩ := h
    obtain ⟨n, hn⟩ : ∃ n : Nat, σ 14 2 = (n : Int) := ⟨(σ 14 2).toNat, by omega⟩
    have en : (σ 14 2).toNat = n := by omega
    have en' : (σ1 14 2).toNat = n + 1 := by rw [g3, hn]; omega
    rw [en] at g5
    have S := step_x hP (g1.mono (by simp)) g2 (fun _ => by rw [en', g6]; exact g5.symm)
    refine ⟨Or.inr rfl, S.1, ?_⟩
    have hs : hst σ n = stX σ 31 := by
      have := hX.2.2.2.2.2.2.2 (by omega)
      rw [en] at this
      exact this
    have hR : (aH (xA σ)).2 = hst σ (n + 1) :: (List.range ((σ 14 3).toNat - (n + 1))).map (fun i => hst σ (n + 1 + 1 + i)) := by
      show List.map (fun i => hst σ ((σ 14 2).toNat + 1 + i)) (List.range ((σ 14 3).toNat - (σ 14 2).toNat)) = _
      rw [en, show (σ 14 3).toNat - n = ((σ 14 3).toNat - (n + 1)) + 1 by omega, List.range_succ_eq_map, List.map_cons, List.map_map]
      refine congrArg (List.cons _) (List.map_congr_left (fun i hi => ?_))
      show hst σ (n + 1 + (i + 1)) = hst σ (n + 1 + 1 + i)
      rw [show n + 1 + (i + 1) = n + 1 + 1 + i by omega]
    unfold s_redo
    rw [hR]
    refine ⟨rfl, ?_⟩
    rw [S.2, g5]
    have eh : hst σ1 = hst σ := funext g6
    have eL : hstL σ1 = ((aH (xA σ)).1 ++ [aS (xA σ)], (List.range ((σ 14 3).toNat - (n + 1))).map (fun i => hst σ (n + 1 + 1 + i))) := by
      unfold hstL
      rw [en', eh, g4, List.range_succ, List.map_append]
      refine Prod.ext ?_ rfl
      show List.map (hst σ) (List.range n) ++ List.map (hst σ) [n] = List.map (hst σ) (List.range (σ 14 2).toNat) ++ [stX σ 31]
      rw [en, ← hs]; rfl
    rw [eL]
def Gh_redo_I : List AV → Hp → Nat → Nat → List AV → List AV → Hp → Prop := fun as σ0 pc n st ls σ => (match as with
    | [.inr (.inr (.inl (k, 0, 8)))] => False
    | _ => False)
def Gh_redo_ct : Nat → Ct := fun n => match n with
  | 0 => Hi_stepOn_cs
  | _ => Gh_redo_cs
set_option maxRecDepth 20000 in
set_option maxHeartbeats 4000000 in
theorem Gh_redo_met {l : Launch} {D : va_G} {ad : Nat → Nat} {ca : Nat → ClassId} {L : Nat} {fx : Nat → Int} : ax_MC l D ad ca L fx yX8_redo cX8_redo 1 (some .boolean) 3 Gh_redo_cs := by
  refine ax_met (oc := 8) (ct := Gh_redo_ct) (calls := Gh_redo_cl) (bs := Gh_redo_bk) (cut := fun pc => false) (f := 2) (I := Gh_redo_I) (by decide) rfl rfl Gh_redo_ck (List.forall_mem_cons.mpr ⟨ax_cwV Hi_stepOn_met (by decide) (by decide) rfl (by decide) rfl (ax_m4 70 (by decide +kernel) rfl) Hi_stepOn_w rfl Hi_stepOn_ds, fun _ h => absurd h List.not_mem_nil⟩) ?_ ?_
  · intro as σ0 hp hH
    match as, hp with
    | [.inr (.inr (.inl (k, 0, 8)))], hp => exact ⟨rfl, Gh_redo_p k σ0 hH hp⟩
  · intro as σ0 hp n pc st ls σ hH hI
    match as, hp, hI with
    | [.inr (.inr (.inl (k, 0, 8)))], hp, hI => exact False.elim hI
/-- a row that lies, and how many -/
theorem lie_x {σ σ' : Hp} {cs : List Nat} {n : Nat} (hX : XIr σ) (hf : Fr cs σ σ') (hc : ∀ c ∈ cs, scx (tld σ) c ∨ (c = 0 ∨ c = 34)) (h0 : ∀ j, ¬ j = 7 → σ' 0 j = σ 0 j) (h7 : σ' 0 7 = (n : Int)) (hn : n ≤ 6) : XQ σ σ' ∧ xA σ' = wL (xA σ) n (tr n (σ' 34)) := by
  have hfo := hX.1.fo
  have e : ∀ c, (c = 1 ∨ c = 2 ∨ (14 ≤ c ∧ c ≤ 24) ∨ c = 28 ∨ (31 ≤ c ∧ c ≤ 33) ∨ 67 ≤ c) → σ' c = σ c := fun c hcc => frx hf hc (scx_no hfo (by omega)) (by omega)
  have hK : FK (tld σ) σ σ' := FK_of hfo hf (fun c z => by
    have := hc c z
    unfold scx at this
    omega)
  have eh : hst σ' = hst σ := by funext i; unfold hst; rw [e 14 (by omega), e 15 (by omega)]
  have es : stX σ' 31 = stX σ 31 := stX_eq (fun d hd => e _ (by omega))
  have G := xA_gen hX (h0 8 (by decide)) (h0 9 (by decide)) (e 1 (by omega)) (e 2 (by omega)) hK (by unfold HO; rw [e 14 (by omega)]; exact hX.2.2.2.1) (by rw [e 19 (by omega)]; exact hX.2.2.2.2.1) (by rw [e 19 (by omega)]) (e 28 (by omega)) (by omega) (by rw [e 14 (by omega), eh, es]; exact hX.2.2.2.2.2.2.2) (fun c hcc => e c (by omega))
  refine ⟨G.1, ?_⟩
  rw [G.2]
  have eG : sgX σ' = sgX σ := sgX_eq (by rw [e 19 (by omega)]) (fun c c1 c2 => e c (by omega))
  have eL : hstL σ' = hstL σ := by unfold hstL; rw [eh, e 14 (by omega)]
  rw [bxX_eq (e 17 (by omega)) (e 18 (by omega)), eG, h7, Int.toNat_natCast, h0 10 (by decide), es, eL]
  rfl
def Gh_wed_pre (k : Nat) (σ : Hp) : Prop := k = 0 ∧ XP σ
def Gh_wed_post (_k : Nat) (σ : Hp) (r : Int) (σ' : Hp) : Prop := XQ σ σ' ∧ s_wed (xA σ) r (xA σ')
def Gh_wed_bk : List (Nat × List Item) := [(0, [(.aload_n 0, 1, [], []), (.getfield 19, 3, [8, 1, 4, 3, 0, 4], []), (.aload_n 0, 1, [], []), (.getfield 58, 3, [8, 8, 5, 0, 0, 1], []), (.aload_n 0, 1, [], []), (.getfield 47, 3, [8, 5, 4, 31, 0, 7], []), (.aload_n 0, 1, [], []), (.getfield 51, 3, [8, 6, 4, 34, 1, 6], []), (.invokevirtual 200, 3, [0], []), (.istore_n 1, 1, [], []), (.aload_n 0, 1, [], []), (.iload_n 1, 1, [], []), (.iconst (-1), 1, [], []), (.if_icmp .ne 7, 3, [30], []), (.iconst 0, 1, [], []), (.goto 10, 3, [37], [])]),
  (30, [(.aload_n 0, 1, [], []), (.getfield 58, 3, [8, 8, 5, 0, 0, 1], []), (.getfield 93, 3, [1, 9, 0, 0, 0, 0], [])]),
  (37, [(.putfield 90, 3, [8, 7, 0, 0, 0, 0], []), (.iload_n 1, 1, [], []), (.ireturn, 1, [], [])])]
def Gh_wed_cl : List (Instr × Nat) := [(.invokevirtual 200, 0)]
set_option maxRecDepth 20000 in
theorem Gh_wed_ck : Gh_wed_bk.all (fun b => ax_chB 8 2 cX8_wed Gh_wed_cl b.1 b.2) = true := by decide +kernel
def Gh_wed_cs : Ct := (1, 9, 1, (0, 0), fun as σ => (match as with
    | [.inr (.inr (.inl (k, 0, 8)))] => Gh_wed_pre k σ
    | _ => False), fun as σ r σ' => (match as with
    | [.inr (.inr (.inl (k, 0, 8)))] => Gh_wed_post k σ r σ'
    | _ => False))
theorem Gh_wed_w : ∀ w ∈ ([.instanceMethod yX8_wed, .selects yX8_wed.cls yX8_wed yX8_wed, .initialized yX8_wed.cls, .code yX8_wed cX8_wed 2 (some .int)] : List Cond), w ∈ ax_tb := ax_w4 (ax_m4 158 (by decide +kernel) rfl) (ax_m4 159 (by decide +kernel) rfl) (ax_m1 1 (by decide +kernel) rfl) (ax_m4 160 (by decide +kernel) rfl)
theorem Gh_wed_ds : yX8_wed.cls ≠ "java/lang/invoke/MethodHandle" ∧ yX8_wed.cls ≠ "java/lang/invoke/VarHandle" ∧ (parseMethodDescriptor yX8_wed.desc).map (fun d => d.parameters.length) = some 0 := by decide +kernel
def Gh_wed_vc : Prop := ∀ (k : Nat) (σ : Hp), ax_H σ → Gh_wed_pre k σ →
  Ou_findWedding_pre (k + 3) ((σ k 8).toNat) (k + 31) (k + 34) 6 σ ∧
  ∀ (r2 : Int) (σ1 : Hp), Ou_findWedding_post (k + 3) ((σ k 8).toNat) (k + 31) (k + 34) 6 σ r2 σ1 →
  (¬ r2 = (-1) →
    ∀ σ3 : Hp, σ3 = hp σ1 k 7 (σ1 (σ1 k 8).toNat 9) →
    Gh_wed_post k σ r2 σ3) ∧
  (¬ (¬ r2 = (-1)) →
    ∀ σ4 : Hp, σ4 = hp σ1 k 7 0 →
    Gh_wed_post k σ r2 σ4)
theorem Gh_wed_p : Gh_wed_vc := by
  intro k σ hH hp
  obtain ⟨rfl, hP⟩ := hp
  have hX := hP.1
  have hfo := hX.1.fo
  refine ⟨⟨rfl, rfl, hP.ow, rfl, rfl⟩, ?_⟩
  rintro r2 σ1 ⟨g1, g2⟩
  have e0 : σ1 0 = σ 0 := g1 0 (by decide)
  have hK : FK (tld σ) σ σ1 := FK_of hfo g1 (fun c z => by simp at z; omega)
  have e9 : σ1 (σ1 0 8).toNat 9 = ((fN (aF (xA σ)) : Nat) : Int) := by
    rw [e0]
    show σ1 (tld σ) 9 = _
    rw [hK.1]; exact xN hX
  rw [e9]
  have hc : ∀ c ∈ (0 :: [12, 13, 34] : List Nat), scx (tld σ) c ∨ (c = 0 ∨ c = 34) := by
    intro c hc
    simp only [List.mem_cons, List.not_mem_nil, or_false] at hc
    unfold scx
    omega
  refine ⟨fun h => ?_, fun h => ?_⟩
  · rintro σ3 rfl
    have A := lie_x (cs := 0 :: [12, 13, 34]) (σ' := hp σ1 0 7 ((fN (aF (xA σ)) : Nat) : Int)) (n := fN (aF (xA σ))) hX (Fr.hp (g1.mono (fun c hc => List.mem_cons_of_mem _ hc)) List.mem_cons_self) hc (fun j hj => by rw [hp_r2 (fun z => hj z.2), e0]) hp_r1 hP.n6
    refine ⟨A.1, σ1 34, g2, ?_⟩
    rw [if_neg h, A.2, hp_ne (by decide)]
  · rintro σ3 rfl
    have A := lie_x (cs := 0 :: [12, 13, 34]) (σ' := hp σ1 0 7 0) (n := 0) hX (Fr.hp (g1.mono (fun c hc => List.mem_cons_of_mem _ hc)) List.mem_cons_self) hc (fun j hj => by rw [hp_r2 (fun z => hj z.2), e0]) hp_r1 (Nat.zero_le _)
    refine ⟨A.1, σ1 34, g2, ?_⟩
    rw [if_pos (Classical.not_not.mp h), A.2, tr_0]
def Gh_wed_I : List AV → Hp → Nat → Nat → List AV → List AV → Hp → Prop := fun as σ0 pc n st ls σ => (match as with
    | [.inr (.inr (.inl (k, 0, 8)))] => False
    | _ => False)
def Gh_wed_ct : Nat → Ct := fun n => match n with
  | 0 => Ou_findWedding_cs
  | _ => Gh_wed_cs
set_option maxRecDepth 20000 in
set_option maxHeartbeats 4000000 in
theorem Gh_wed_met {l : Launch} {D : va_G} {ad : Nat → Nat} {ca : Nat → ClassId} {L : Nat} {fx : Nat → Int} : ax_MC l D ad ca L fx yX8_wed cX8_wed 2 (some .int) 4 Gh_wed_cs := by
  refine ax_met (oc := 8) (ct := Gh_wed_ct) (calls := Gh_wed_cl) (bs := Gh_wed_bk) (cut := fun pc => false) (f := 4) (I := Gh_wed_I) (by decide) rfl rfl Gh_wed_ck (List.forall_mem_cons.mpr ⟨ax_cwV Ou_findWedding_met (by decide) (by decide) rfl (by decide) rfl (ax_m4 161 (by decide +kernel) rfl) Ou_findWedding_w rfl Ou_findWedding_ds, fun _ h => absurd h List.not_mem_nil⟩) ?_ ?_
  · intro as σ0 hp hH
    match as, hp with
    | [.inr (.inr (.inl (k, 0, 8)))], hp => exact ⟨rfl, Gh_wed_p k σ0 hH hp⟩
  · intro as σ0 hp n pc st ls σ hH hI
    match as, hp, hI with
    | [.inr (.inr (.inl (k, 0, 8)))], hp, hI => exact False.elim hI
def Gh_rank_pre (k : Nat) (σ : Hp) : Prop := k = 0 ∧ XP σ
def Gh_rank_post (_k : Nat) (σ : Hp) (r : Int) (σ' : Hp) : Prop := XQ σ σ' ∧ s_rank (xA σ) r (xA σ')
def Gh_rank_bk : List (Nat × List Item) := [(0, [(.aload_n 0, 1, [], []), (.getfield 19, 3, [8, 1, 4, 3, 0, 4], []), (.aload_n 0, 1, [], []), (.getfield 58, 3, [8, 8, 5, 0, 0, 1], []), (.aload_n 0, 1, [], []), (.getfield 47, 3, [8, 5, 4, 31, 0, 7], []), (.aload_n 0, 1, [], []), (.getfield 51, 3, [8, 6, 4, 34, 1, 6], []), (.invokevirtual 211, 3, [0], []), (.aload_n 0, 1, [], []), (.aload_n 0, 1, [], []), (.getfield 58, 3, [8, 8, 5, 0, 0, 1], []), (.getfield 93, 3, [1, 9, 0, 0, 0, 0], []), (.putfield 90, 3, [8, 7, 0, 0, 0, 0], []), (.aload_n 0, 1, [], []), (.getfield 90, 3, [8, 7, 0, 0, 0, 0], []), (.ireturn, 1, [], [])])]
def Gh_rank_cl : List (Instr × Nat) := [(.invokevirtual 211, 0)]
set_option maxRecDepth 20000 in
theorem Gh_rank_ck : Gh_rank_bk.all (fun b => ax_chB 8 1 cX8_rank Gh_rank_cl b.1 b.2) = true := by decide +kernel
def Gh_rank_cs : Ct := (1, 9, 1, (0, 0), fun as σ => (match as with
    | [.inr (.inr (.inl (k, 0, 8)))] => Gh_rank_pre k σ
    | _ => False), fun as σ r σ' => (match as with
    | [.inr (.inr (.inl (k, 0, 8)))] => Gh_rank_post k σ r σ'
    | _ => False))
theorem Gh_rank_w : ∀ w ∈ ([.instanceMethod yX8_rank, .selects yX8_rank.cls yX8_rank yX8_rank, .initialized yX8_rank.cls, .code yX8_rank cX8_rank 1 (some .int)] : List Cond), w ∈ ax_tb := ax_w4 (ax_m4 195 (by decide +kernel) rfl) (ax_m4 196 (by decide +kernel) rfl) (ax_m1 1 (by decide +kernel) rfl) (ax_m4 197 (by decide +kernel) rfl)
theorem Gh_rank_ds : yX8_rank.cls ≠ "java/lang/invoke/MethodHandle" ∧ yX8_rank.cls ≠ "java/lang/invoke/VarHandle" ∧ (parseMethodDescriptor yX8_rank.desc).map (fun d => d.parameters.length) = some 0 := by decide +kernel
def Gh_rank_vc : Prop := ∀ (k : Nat) (σ : Hp), ax_H σ → Gh_rank_pre k σ →
  Ou_putInOrder_pre (k + 3) ((σ k 8).toNat) (k + 31) (k + 34) 6 σ ∧
  ∀ σ1 : Hp, Ou_putInOrder_post (k + 3) ((σ k 8).toNat) (k + 31) (k + 34) 6 σ σ1 →
  ∀ σ2 : Hp, σ2 = hp σ1 k 7 (σ1 (σ1 k 8).toNat 9) →
  Gh_rank_post k σ (σ2 k 7) σ2
theorem fo0 {f : Nat} (hf : FO f) : (0 : Nat) ∉ sg f 4 := by
  intro z
  simp only [sg, List.mem_cons, List.not_mem_nil, or_false] at z
  rcases hf with rfl | rfl <;> omega
theorem Gh_rank_p : Gh_rank_vc := by
  intro k σ hH hp
  obtain ⟨rfl, hP⟩ := hp
  have hX := hP.1
  have hfo := hX.1.fo
  refine ⟨⟨rfl, rfl, hP.ow, rfl, rfl⟩, ?_⟩
  rintro σ1 ⟨g1, g2⟩
  have e0 : σ1 0 = σ 0 := g1 0 (by
    intro z
    rcases List.mem_cons.mp z with z | z
    · cases z
    · exact fo0 hfo z)
  have hc : ∀ c ∈ (0 :: 34 :: sg (tld σ) 4 : List Nat), scx (tld σ) c ∨ (c = 0 ∨ c = 34) := by
    intro c hc
    rcases List.mem_cons.mp hc with z | z
    · exact Or.inr (Or.inl z)
    · rcases List.mem_cons.mp z with z | z
      · exact Or.inr (Or.inr z)
      · exact Or.inl (scx_sg c z)
  have hK : FK (tld σ) σ σ1 := FK_of hfo g1 (fun c z => by
    have := hc c (List.mem_cons_of_mem _ z)
    unfold scx at this
    omega)
  have e9 : σ1 (σ1 0 8).toNat 9 = ((fN (aF (xA σ)) : Nat) : Int) := by
    rw [e0]
    show σ1 (tld σ) 9 = _
    rw [hK.1]; exact xN hX
  rw [e9]
  rintro σ3 rfl
  have A := lie_x (cs := 0 :: 34 :: sg (tld σ) 4) (σ' := hp σ1 0 7 ((fN (aF (xA σ)) : Nat) : Int)) (n := fN (aF (xA σ))) hX (Fr.hp (g1.mono (fun c hc => List.mem_cons_of_mem _ hc)) List.mem_cons_self) hc (fun j hj => by rw [hp_r2 (fun z => hj z.2), e0]) hp_r1 hP.n6
  refine ⟨A.1, σ1 34, g2, hp_r1, ?_⟩
  rw [A.2, hp_ne (by decide)]
def Gh_rank_I : List AV → Hp → Nat → Nat → List AV → List AV → Hp → Prop := fun as σ0 pc n st ls σ => (match as with
    | [.inr (.inr (.inl (k, 0, 8)))] => False
    | _ => False)
def Gh_rank_ct : Nat → Ct := fun n => match n with
  | 0 => Ou_putInOrder_cs
  | _ => Gh_rank_cs
set_option maxRecDepth 20000 in
set_option maxHeartbeats 4000000 in
theorem Gh_rank_met {l : Launch} {D : va_G} {ad : Nat → Nat} {ca : Nat → ClassId} {L : Nat} {fx : Nat → Int} : ax_MC l D ad ca L fx yX8_rank cX8_rank 1 (some .int) 5 Gh_rank_cs := by
  refine ax_met (oc := 8) (ct := Gh_rank_ct) (calls := Gh_rank_cl) (bs := Gh_rank_bk) (cut := fun pc => false) (f := 2) (I := Gh_rank_I) (by decide) rfl rfl Gh_rank_ck (List.forall_mem_cons.mpr ⟨ax_cwV Ou_putInOrder_met (by decide) (by decide) rfl (by decide) rfl (ax_m4 198 (by decide +kernel) rfl) Ou_putInOrder_w rfl Ou_putInOrder_ds, fun _ h => absurd h List.not_mem_nil⟩) ?_ ?_
  · intro as σ0 hp hH
    match as, hp with
    | [.inr (.inr (.inl (k, 0, 8)))], hp => exact ⟨rfl, Gh_rank_p k σ0 hH hp⟩
  · intro as σ0 hp n pc st ls σ hH hI
    match as, hp, hI with
    | [.inr (.inr (.inl (k, 0, 8)))], hp, hI => exact False.elim hI
/-- with nothing lying -/
theorem lie0 {σ : Hp} {n : Nat} (hP : XP σ) (hn : n ≤ 6) : XIr (hp σ 0 7 (n : Int)) ∧ xA (hp σ 0 7 (n : Int)) = wL (xA σ) n (tr n (σ 34)) ∧ XQ σ (hp σ 0 7 (n : Int)) ∧ XP (hp σ 0 7 (n : Int)) := by
  have A := lie_x (cs := [0]) (σ' := hp σ 0 7 (n : Int)) (n := n) hP.1 (Fr.hp Fr.rf List.mem_cons_self) (fun c hc => Or.inr (Or.inl (List.mem_singleton.mp hc))) (fun j hj => by rw [hp_r2 (fun z => hj z.2)]) hp_r1 hn
  rw [hp_ne (by decide)] at A
  exact ⟨A.1.1, A.2, A.1, A.1.1, by rw [A.2]; exact hP.2.L hn⟩
theorem wL_wL {A : AS} {n m : Nat} {f g : Nat → Int} : wL (wL A n f) m g = wL A m g := rfl
def Gh_duel_pre (k : Nat) (_a _b : Int) (σ : Hp) : Prop := k = 0 ∧ XP σ
def Gh_duel_post (_k : Nat) (a b : Int) (σ : Hp) (r : Int) (σ' : Hp) : Prop := XQ σ σ' ∧ s_duel (xA σ) a b r (xA σ')
def Gh_duel_bk : List (Nat × List Item) := [(0, [(.aload_n 0, 1, [], []), (.iconst 0, 1, [], []), (.putfield 90, 3, [8, 7, 0, 0, 0, 0], []), (.aload_n 0, 1, [], []), (.iload_n 1, 1, [], []), (.iload_n 2, 1, [], []), (.invokevirtual 150, 3, [0], []), (.ifCond .ne 5, 3, [16], []), (.iconst (-1), 1, [], []), (.ireturn, 1, [], [])]),
  (16, [(.aload_n 0, 1, [], []), (.getfield 19, 3, [8, 1, 4, 3, 0, 4], []), (.aload_n 0, 1, [], []), (.getfield 58, 3, [8, 8, 5, 0, 0, 1], []), (.aload_n 0, 1, [], []), (.getfield 47, 3, [8, 5, 4, 31, 0, 7], []), (.iload_n 1, 1, [], []), (.iload_n 2, 1, [], []), (.aload_n 0, 1, [], []), (.getfield 51, 3, [8, 6, 4, 34, 1, 6], []), (.invokevirtual 227, 3, [1], []), (.istore_n 3, 1, [], []), (.aload_n 0, 1, [], []), (.iload_n 3, 1, [], []), (.ifCond .ne 7, 3, [47], []), (.iconst 0, 1, [], []), (.goto 4, 3, [48], [])]),
  (47, [(.iconst 2, 1, [], [])]),
  (48, [(.putfield 90, 3, [8, 7, 0, 0, 0, 0], []), (.iload_n 3, 1, [], []), (.ireturn, 1, [], [])])]
def Gh_duel_cl : List (Instr × Nat) := [(.invokevirtual 150, 0), (.invokevirtual 227, 1)]
set_option maxRecDepth 20000 in
theorem Gh_duel_ck : Gh_duel_bk.all (fun b => ax_chB 8 4 cX8_duel Gh_duel_cl b.1 b.2) = true := by decide +kernel
def Gh_duel_cs : Ct := (3, 9, 1, (0, 0), fun as σ => (match as with
    | [.inr (.inr (.inl (k, 0, 8))), .inl a1, .inl a2] => Gh_duel_pre k a1 a2 σ
    | _ => False), fun as σ r σ' => (match as with
    | [.inr (.inr (.inl (k, 0, 8))), .inl a1, .inl a2] => Gh_duel_post k a1 a2 σ r σ'
    | _ => False))
theorem Gh_duel_w : ∀ w ∈ ([.instanceMethod yX8_duel, .selects yX8_duel.cls yX8_duel yX8_duel, .initialized yX8_duel.cls, .code yX8_duel cX8_duel 4 (some .int)] : List Cond), w ∈ ax_tb := ax_w4 (ax_m5 13 (by decide +kernel) rfl) (ax_m5 14 (by decide +kernel) rfl) (ax_m1 1 (by decide +kernel) rfl) (ax_m5 15 (by decide +kernel) rfl)
theorem Gh_duel_ds : yX8_duel.cls ≠ "java/lang/invoke/MethodHandle" ∧ yX8_duel.cls ≠ "java/lang/invoke/VarHandle" ∧ (parseMethodDescriptor yX8_duel.desc).map (fun d => d.parameters.length) = some 2 := by decide +kernel
def Gh_duel_vc : Prop := ∀ (k : Nat) (a1 : Int) (a2 : Int) (σ : Hp), ax_H σ → Gh_duel_pre k a1 a2 σ →
  ∀ σ1 : Hp, σ1 = hp σ k 7 0 →
  Gh_areTwo_pre k a1 a2 σ1 ∧
  ∀ (r3 : Int) (σ2 : Hp), Gh_areTwo_post k a1 a2 σ1 r3 σ2 →
  (¬ r3 = 0 →
    Ou_countRests_pre (k + 3) ((σ2 k 8).toNat) (k + 31) a1 a2 (k + 34) 6 σ2 ∧
    ∀ (r5 : Int) (σ4 : Hp), Ou_countRests_post (k + 3) ((σ2 k 8).toNat) (k + 31) a1 a2 (k + 34) 6 σ2 r5 σ4 →
    (¬ r5 = 0 →
      ∀ σ6 : Hp, σ6 = hp σ4 k 7 2 →
      Gh_duel_post k a1 a2 σ r5 σ6) ∧
    (¬ (¬ r5 = 0) →
      ∀ σ7 : Hp, σ7 = hp σ4 k 7 0 →
      Gh_duel_post k a1 a2 σ r5 σ7)) ∧
  (¬ (¬ r3 = 0) →
    Gh_duel_post k a1 a2 σ (-1) σ2)
theorem Gh_duel_p : Gh_duel_vc := by
  intro k a b σ hH hp
  obtain ⟨rfl, hP⟩ := hp
  have hn6 := hP.n6
  have nf : fN (aF (xA σ)) = fN (famX σ (tld σ)) := rfl
  have L0 := lie0 (n := 0) hP (Nat.zero_le _)
  rintro σ1 hσ1
  have hσ1' : σ1 = hp σ 0 7 ((0 : Nat) : Int) := hσ1
  rw [← hσ1'] at L0
  obtain ⟨X1, A1, Q1, P1⟩ := L0
  rw [tr_0] at A1
  have hfo := X1.1.fo
  have et : tld σ1 = tld σ := by unfold tld; rw [hσ1, hp_r2 (by omega)]
  refine ⟨⟨rfl, X1⟩, ?_⟩
  rintro r3 σ2 ⟨rfl, rfl⟩
  rw [A1]
  have htwo : two (wL (xA σ) 0 zr) a b = two (xA σ) a b := rfl
  refine ⟨fun h => ?_, fun h => ⟨Q1, ?_⟩⟩
  · have hw : two (xA σ) a b := ite1 h
    refine ⟨⟨rfl, rfl, P1.ow, hw.1.1.1, by have := hw.1.1.2; omega, hw.1.2.1, by have := hw.1.2.2; omega, rfl, rfl⟩, ?_⟩
    rintro r5 σ4 ⟨g1, g2, g3⟩
    have eF : famX σ2 (σ2 0 8).toNat = aF (xA σ) := by
      have : aF (xA σ2) = aF (xA σ) := by rw [A1]; rfl
      exact this
    have eS : stX σ2 31 = aS (xA σ) := by
      have : aS (xA σ2) = aS (xA σ) := by rw [A1]; rfl
      exact this
    rw [eF, eS] at g2 g3
    have hc : ∀ c ∈ (0 :: 34 :: 11 :: sg (tld σ2) 4 : List Nat), scx (tld σ2) c ∨ (c = 0 ∨ c = 34) := by
      intro c hc
      rcases List.mem_cons.mp hc with z | z
      · exact Or.inr (Or.inl z)
      · rcases List.mem_cons.mp z with z | z
        · exact Or.inr (Or.inr z)
        · rcases List.mem_cons.mp z with z | z
          · left; unfold scx; omega
          · exact Or.inl (scx_sg c z)
    have e0 : σ4 0 = σ2 0 := g1 0 (by
      intro z
      rcases List.mem_cons.mp z with z | z
      · cases z
      · rcases List.mem_cons.mp z with z | z
        · cases z
        · exact fo0 hfo z)
    have fin : ∀ (n : Nat), n ≤ 6 → XQ σ (hp σ4 0 7 (n : Int)) ∧ xA (hp σ4 0 7 (n : Int)) = wL (xA σ) n (tr n (σ4 34)) := by
      intro n hn
      have A := lie_x (cs := 0 :: 34 :: 11 :: sg (tld σ2) 4) (σ' := hp σ4 0 7 (n : Int)) (n := n) X1 (Fr.hp (g1.mono (fun c hc => List.mem_cons_of_mem _ hc)) List.mem_cons_self) hc (fun j hj => by rw [hp_r2 (fun z => hj z.2), e0]) hp_r1 hn
      refine ⟨⟨A.1.1, fun c hc => (A.1.2 c hc).trans (Q1.2 c hc)⟩, ?_⟩
      rw [A.2, A1, hp_ne (by decide)]; rfl
    refine ⟨fun h5 => ?_, fun h5 => ?_⟩
    · rintro σ6 rfl
      have A := fin 2 (by decide)
      refine ⟨A.1, ?_⟩
      unfold s_duel
      rw [if_pos hw]
      refine ⟨g2, σ4 34, g3, ?_⟩
      rw [if_neg h5]; exact A.2
    · rintro σ6 rfl
      have A := fin 0 (by decide)
      refine ⟨A.1, ?_⟩
      unfold s_duel
      rw [if_pos hw]
      refine ⟨g2, σ4 34, g3, ?_⟩
      rw [if_pos (Classical.not_not.mp h5)]
      have := A.2
      rw [tr_0] at this
      exact this
  · unfold s_duel
    rw [if_neg (show ¬ two (xA σ) a b from ite0' h)]
    exact ⟨rfl, A1⟩
def Gh_duel_I : List AV → Hp → Nat → Nat → List AV → List AV → Hp → Prop := fun as σ0 pc n st ls σ => (match as with
    | [.inr (.inr (.inl (k, 0, 8))), .inl a1, .inl a2] => False
    | _ => False)
def Gh_duel_ct : Nat → Ct := fun n => match n with
  | 0 => Gh_areTwo_cs
  | 1 => Ou_countRests_cs
  | _ => Gh_duel_cs
set_option maxRecDepth 20000 in
set_option maxHeartbeats 4000000 in
theorem Gh_duel_met {l : Launch} {D : va_G} {ad : Nat → Nat} {ca : Nat → ClassId} {L : Nat} {fx : Nat → Int} : ax_MC l D ad ca L fx yX8_duel cX8_duel 4 (some .int) 7 Gh_duel_cs := by
  refine ax_met (oc := 8) (ct := Gh_duel_ct) (calls := Gh_duel_cl) (bs := Gh_duel_bk) (cut := fun pc => false) (f := 5) (I := Gh_duel_I) (by decide) rfl rfl Gh_duel_ck (List.forall_mem_cons.mpr ⟨ax_cwV Gh_areTwo_met (by decide) (by decide) rfl (by decide) rfl (ax_m4 26 (by decide +kernel) rfl) Gh_areTwo_w rfl Gh_areTwo_ds, List.forall_mem_cons.mpr ⟨ax_cwV Ou_countRests_met (by decide) (by decide) rfl (by decide) rfl (ax_m5 16 (by decide +kernel) rfl) Ou_countRests_w rfl Ou_countRests_ds, fun _ h => absurd h List.not_mem_nil⟩⟩) ?_ ?_
  · intro as σ0 hp hH
    match as, hp with
    | [.inr (.inr (.inl (k, 0, 8))), .inl a1, .inl a2], hp => exact ⟨rfl, Gh_duel_p k a1 a2 σ0 hH hp⟩
  · intro as σ0 hp n pc st ls σ hH hI
    match as, hp, hI with
    | [.inr (.inr (.inl (k, 0, 8))), .inl a1, .inl a2], hp, hI => exact False.elim hI
def Gh_path_pre (k : Nat) (_a : Int) (σ : Hp) : Prop := k = 0 ∧ XP σ
def Gh_path_post (_k : Nat) (a : Int) (σ : Hp) (r : Int) (σ' : Hp) : Prop := XQ σ σ' ∧ s_path (xA σ) a r (xA σ')
def Gh_path_bk : List (Nat × List Item) := [(0, [(.aload_n 0, 1, [], []), (.iconst 0, 1, [], []), (.putfield 90, 3, [8, 7, 0, 0, 0, 0], []), (.iload_n 1, 1, [], []), (.iconst 1, 1, [], []), (.if_icmp .lt 9, 3, [16], []), (.iload_n 1, 1, [], []), (.bipush 6, 2, [], []), (.if_icmp .le 5, 3, [18], [])]),
  (16, [(.iconst (-1), 1, [], []), (.ireturn, 1, [], [])]),
  (18, [(.aload_n 0, 1, [], []), (.iload_n 1, 1, [], []), (.putfield 90, 3, [8, 7, 0, 0, 0, 0], []), (.aload_n 0, 1, [], []), (.getfield 19, 3, [8, 1, 4, 3, 0, 4], []), (.aload_n 0, 1, [], []), (.getfield 58, 3, [8, 8, 5, 0, 0, 1], []), (.aload_n 0, 1, [], []), (.getfield 47, 3, [8, 5, 4, 31, 0, 7], []), (.iload_n 1, 1, [], []), (.aload_n 0, 1, [], []), (.getfield 51, 3, [8, 6, 4, 34, 1, 6], []), (.invokevirtual 231, 3, [0], []), (.ireturn, 1, [], [])])]
def Gh_path_cl : List (Instr × Nat) := [(.invokevirtual 231, 0)]
set_option maxRecDepth 20000 in
theorem Gh_path_ck : Gh_path_bk.all (fun b => ax_chB 8 2 cX8_path Gh_path_cl b.1 b.2) = true := by decide +kernel
def Gh_path_cs : Ct := (2, 9, 1, (0, 0), fun as σ => (match as with
    | [.inr (.inr (.inl (k, 0, 8))), .inl a1] => Gh_path_pre k a1 σ
    | _ => False), fun as σ r σ' => (match as with
    | [.inr (.inr (.inl (k, 0, 8))), .inl a1] => Gh_path_post k a1 σ r σ'
    | _ => False))
theorem Gh_path_w : ∀ w ∈ ([.instanceMethod yX8_path, .selects yX8_path.cls yX8_path yX8_path, .initialized yX8_path.cls, .code yX8_path cX8_path 2 (some .int)] : List Cond), w ∈ ax_tb := ax_w4 (ax_m5 25 (by decide +kernel) rfl) (ax_m5 26 (by decide +kernel) rfl) (ax_m1 1 (by decide +kernel) rfl) (ax_m5 27 (by decide +kernel) rfl)
theorem Gh_path_ds : yX8_path.cls ≠ "java/lang/invoke/MethodHandle" ∧ yX8_path.cls ≠ "java/lang/invoke/VarHandle" ∧ (parseMethodDescriptor yX8_path.desc).map (fun d => d.parameters.length) = some 1 := by decide +kernel
def Gh_path_vc : Prop := ∀ (k : Nat) (a1 : Int) (σ : Hp), ax_H σ → Gh_path_pre k a1 σ →
  ∀ σ1 : Hp, σ1 = hp σ k 7 0 →
  (a1 < 1 →
    Gh_path_post k a1 σ (-1) σ1) ∧
  (¬ (a1 < 1) →
    (a1 ≤ 6 →
      ∀ σ2 : Hp, σ2 = hp σ1 k 7 a1 →
      Ou_followPath_pre (k + 3) ((σ2 k 8).toNat) (k + 31) a1 (k + 34) 6 σ2 ∧
      ∀ (r4 : Int) (σ3 : Hp), Ou_followPath_post (k + 3) ((σ2 k 8).toNat) (k + 31) a1 (k + 34) 6 σ2 r4 σ3 →
      Gh_path_post k a1 σ r4 σ3) ∧
    (¬ (a1 ≤ 6) →
      Gh_path_post k a1 σ (-1) σ1))
theorem Gh_path_p : Gh_path_vc := by
  intro k a σ hH hp
  obtain ⟨rfl, hP⟩ := hp
  have L0 := lie0 (n := 0) hP (Nat.zero_le _)
  rintro σ1 hσ1
  have hσ1' : σ1 = hp σ 0 7 ((0 : Nat) : Int) := hσ1
  rw [← hσ1'] at L0
  obtain ⟨X1, A1, Q1, P1⟩ := L0
  rw [tr_0] at A1
  refine ⟨fun h => ⟨Q1, ?_⟩, fun h => ⟨fun h2 => ?_, fun h2 => ⟨Q1, ?_⟩⟩⟩
  · unfold s_path; rw [if_neg (by omega)]; exact ⟨rfl, A1⟩
  · rintro σ2 hσ2
    have L2 := lie0 (n := a.toNat) P1 (by omega)
    have hσ2' : σ2 = hp σ1 0 7 ((a.toNat : Nat) : Int) := by rw [hσ2, Int.toNat_of_nonneg (by omega)]
    rw [← hσ2'] at L2
    obtain ⟨X2, A2, Q2, P2⟩ := L2
    have hfo := X2.1.fo
    refine ⟨⟨rfl, rfl, P2.ow, by omega, h2, rfl, rfl⟩, ?_⟩
    rintro r4 σ3 ⟨g1, g2, g3⟩
    have eF : famX σ2 (σ2 0 8).toNat = aF (xA σ) := by
      have : aF (xA σ2) = aF (xA σ) := by rw [A2, A1]; rfl
      exact this
    have eS : stX σ2 31 = aS (xA σ) := by
      have : aS (xA σ2) = aS (xA σ) := by rw [A2, A1]; rfl
      exact this
    rw [eF, eS] at g2 g3
    have e0 : σ3 0 = σ2 0 := g1 0 (by
      intro z
      rcases List.mem_cons.mp z with z | z
      · cases z
      · exact fo0 hfo z)
    have A := lie_x (cs := 34 :: sg (tld σ2) 4) (σ' := σ3) (n := a.toNat) X2 g1 (fun c hc => by
      rcases List.mem_cons.mp hc with z | z
      · exact Or.inr (Or.inr z)
      · exact Or.inl (scx_sg c z)) (fun j hj => by rw [e0]) (by rw [e0, hσ2', hp_r1]) (by omega)
    refine ⟨⟨A.1.1, fun c hc => ((A.1.2 c hc).trans (Q2.2 c hc)).trans (Q1.2 c hc)⟩, ?_⟩
    unfold s_path
    rw [if_pos ⟨by omega, h2⟩]
    refine ⟨g2, ?_⟩
    rw [A.2, A2, A1, tr_ext g3]
    rfl
  · unfold s_path; rw [if_neg (by omega)]; exact ⟨rfl, A1⟩
def Gh_path_I : List AV → Hp → Nat → Nat → List AV → List AV → Hp → Prop := fun as σ0 pc n st ls σ => (match as with
    | [.inr (.inr (.inl (k, 0, 8))), .inl a1] => False
    | _ => False)
def Gh_path_ct : Nat → Ct := fun n => match n with
  | 0 => Ou_followPath_cs
  | _ => Gh_path_cs
set_option maxRecDepth 20000 in
set_option maxHeartbeats 4000000 in
theorem Gh_path_met {l : Launch} {D : va_G} {ad : Nat → Nat} {ca : Nat → ClassId} {L : Nat} {fx : Nat → Int} : ax_MC l D ad ca L fx yX8_path cX8_path 2 (some .int) 7 Gh_path_cs := by
  refine ax_met (oc := 8) (ct := Gh_path_ct) (calls := Gh_path_cl) (bs := Gh_path_bk) (cut := fun pc => false) (f := 4) (I := Gh_path_I) (by decide) rfl rfl Gh_path_ck (List.forall_mem_cons.mpr ⟨ax_cwV Ou_followPath_met (by decide) (by decide) rfl (by decide) rfl (ax_m5 28 (by decide +kernel) rfl) Ou_followPath_w rfl Ou_followPath_ds, fun _ h => absurd h List.not_mem_nil⟩) ?_ ?_
  · intro as σ0 hp hH
    match as, hp with
    | [.inr (.inr (.inl (k, 0, 8))), .inl a1], hp => exact ⟨rfl, Gh_path_p k a1 σ0 hH hp⟩
  · intro as σ0 hp n pc st ls σ hH hI
    match as, hp, hI with
    | [.inr (.inr (.inl (k, 0, 8))), .inl a1], hp, hI => exact False.elim hI
-- sights
theorem sgt_x {σ σ' : Hp} {cs : List Nat} (hX : XIr σ) (hf : Fr cs σ σ') (hc : ∀ c ∈ cs, 19 ≤ c ∧ c ≤ 24) (hG : 0 ≤ σ' 19 9 ∧ σ' 19 9 ≤ 30) (hM : σ' 19 10 = σ 19 10) : XQ σ σ' ∧ xA σ' = wG (xA σ) (sgX σ') := by
  have hfo := hX.1.fo
  have e : ∀ c, (c < 19 ∨ 25 ≤ c) → σ' c = σ c := fun c hcc => hf c (fun z => by have := hc c z; omega)
  have hK : FK (tld σ) σ σ' := FK_of hfo hf (fun c z => by have := hc c z; omega)
  have eh : hst σ' = hst σ := by funext i; unfold hst; rw [e 14 (by omega), e 15 (by omega)]
  have es : stX σ' 31 = stX σ 31 := stX_eq (fun d hd => e _ (by omega))
  have G := xA_gen hX (by rw [e 0 (by omega)]) (by rw [e 0 (by omega)]) (e 1 (by omega)) (e 2 (by omega)) hK (by unfold HO; rw [e 14 (by omega)]; exact hX.2.2.2.1) hG hM (e 28 (by omega)) (by rw [e 0 (by omega)]; exact hX.2.2.2.2.2.2.1) (by rw [e 14 (by omega), eh, es]; exact hX.2.2.2.2.2.2.2) (fun c hcc => e c (by omega))
  refine ⟨G.1, ?_⟩
  rw [G.2]
  have eL : hstL σ' = hstL σ := by unfold hstL; rw [eh, e 14 (by omega)]
  rw [bxX_eq (e 17 (by omega)) (e 18 (by omega)), e 0 (by omega), e 34 (by omega), es, eL]
  rfl
theorem add_x {σ σ1 : Hp} {d p w r : Int} (hP : XP σ) (hN : ¬ fN (aF (xA σ)) = 0) (hp : p = -1 ∨ isP (xA σ) p) (h : Si_add_post 19 d p w (σ 0 10) σ r σ1) : XQ σ σ1 ∧ s_seen (xA σ) d p w r (xA σ1) := by
  have hX := hP.1
  have hG := hX.2.2.2.2.1
  have eG : (aG (xA σ)).1 = (σ 19 9).toNat := rfl
  unfold Si_add_post at h
  unfold s_seen
  by_cases z : 0 ≤ d ∧ d < 10 ∧ σ 19 9 < 30
  · rw [if_pos z] at h
    obtain ⟨h1, h2, h3, h4, ⟨h5, h6, h7, h8, h9⟩, h10⟩ := h
    have A := sgt_x hX h2 (fun c hc => by simp only [sgc, List.mem_cons, List.not_mem_nil, or_false] at hc; omega) (by omega) h4
    refine ⟨A.1, ?_⟩
    rw [if_pos ⟨⟨hN, hp⟩, ⟨z.1, z.2.1⟩, by omega⟩]
    refine ⟨by rw [h1, eG]; omega, ?_⟩
    rw [A.2]
    have en : (σ1 19 9).toNat = (σ 19 9).toNat + 1 := by rw [h3]; omega
    have t : ∀ q v, 20 ≤ q → q ≤ 24 → σ1 q (σ 19 9).toNat = v → tr (σ1 19 9).toNat (σ1 q) = va_up (tr (σ 19 9).toNat (σ q)) (σ 19 9).toNat v := by
      intro q v q1 q2 hv
      rw [en]
      refine tr_up (fun j => ?_)
      by_cases e : j = (σ 19 9).toNat
      · rw [if_pos e, e]; exact hv
      · rw [if_neg e]; exact h10 q q1 q2 j e
    have : sgX σ1 = adG' (aG (xA σ)) d p w (aT (xA σ)) := by
      unfold sgX
      rw [t 20 d (by omega) (by omega) h5, t 21 p (by omega) (by omega) h6, t 22 w (by omega) (by omega) h7, t 23 (σ 0 10) (by omega) (by omega) h8, t 24 (-1) (by omega) (by omega) h9, en]
      rfl
    rw [this]
  · rw [if_neg z] at h
    obtain ⟨rfl, rfl⟩ := h
    refine ⟨same0 hX, ?_⟩
    rw [if_neg (fun y => z ⟨y.2.1.1, y.2.1.2, by have := y.2.2; rw [eG] at this; omega⟩)]
    exact ⟨rfl, rfl⟩
def Gh_seen_pre (k : Nat) (_a _b c : Int) (σ : Hp) : Prop := k = 0 ∧ XP σ ∧ (c = 0 ∨ c = 1)
def Gh_seen_post (_k : Nat) (a b c : Int) (σ : Hp) (r : Int) (σ' : Hp) : Prop := XQ σ σ' ∧ s_seen (xA σ) a b c r (xA σ')
def Gh_seen_bk : List (Nat × List Item) := [(0, [(.aload_n 0, 1, [], []), (.getfield 58, 3, [8, 8, 5, 0, 0, 1], []), (.getfield 93, 3, [1, 9, 0, 0, 0, 0], []), (.ifCond .eq 16, 3, [23], []), (.iload_n 2, 1, [], []), (.iconst (-1), 1, [], []), (.if_icmp .eq 13, 3, [25], []), (.aload_n 0, 1, [], []), (.iload_n 2, 1, [], []), (.invokevirtual 102, 3, [0], []), (.ifCond .ne 5, 3, [25], [])]),
  (23, [(.iconst (-1), 1, [], []), (.ireturn, 1, [], [])]),
  (25, [(.aload_n 0, 1, [], []), (.getfield 40, 3, [8, 4, 4, 19, 0, 6], []), (.iload_n 1, 1, [], []), (.iload_n 2, 1, [], []), (.iload_n 3, 1, [], []), (.aload_n 0, 1, [], []), (.getfield 238, 3, [8, 10, 0, 0, 0, 0], []), (.invokevirtual 241, 3, [1], []), (.ireturn, 1, [], [])])]
def Gh_seen_cl : List (Instr × Nat) := [(.invokevirtual 102, 0), (.invokevirtual 241, 1)]
set_option maxRecDepth 20000 in
theorem Gh_seen_ck : Gh_seen_bk.all (fun b => ax_chB 8 4 cX8_seen Gh_seen_cl b.1 b.2) = true := by decide +kernel
def Gh_seen_cs : Ct := (4, 9, 1, (0, 0), fun as σ => (match as with
    | [.inr (.inr (.inl (k, 0, 8))), .inl a1, .inl a2, .inl a3] => Gh_seen_pre k a1 a2 a3 σ
    | _ => False), fun as σ r σ' => (match as with
    | [.inr (.inr (.inl (k, 0, 8))), .inl a1, .inl a2, .inl a3] => Gh_seen_post k a1 a2 a3 σ r σ'
    | _ => False))
theorem Gh_seen_w : ∀ w ∈ ([.instanceMethod yX8_seen, .selects yX8_seen.cls yX8_seen yX8_seen, .initialized yX8_seen.cls, .code yX8_seen cX8_seen 4 (some .int)] : List Cond), w ∈ ax_tb := ax_w4 (ax_m5 54 (by decide +kernel) rfl) (ax_m5 55 (by decide +kernel) rfl) (ax_m1 1 (by decide +kernel) rfl) (ax_m5 56 (by decide +kernel) rfl)
theorem Gh_seen_ds : yX8_seen.cls ≠ "java/lang/invoke/MethodHandle" ∧ yX8_seen.cls ≠ "java/lang/invoke/VarHandle" ∧ (parseMethodDescriptor yX8_seen.desc).map (fun d => d.parameters.length) = some 3 := by decide +kernel
def Gh_seen_vc : Prop := ∀ (k : Nat) (a1 : Int) (a2 : Int) (a3 : Int) (σ : Hp), ax_H σ → Gh_seen_pre k a1 a2 a3 σ →
  (σ (σ k 8).toNat 9 = 0 →
    Gh_seen_post k a1 a2 a3 σ (-1) σ) ∧
  (¬ (σ (σ k 8).toNat 9 = 0) →
    (a2 = (-1) →
      Si_add_pre (k + 19) a1 a2 a3 (σ k 10) σ ∧
      ∀ (r2 : Int) (σ1 : Hp), Si_add_post (k + 19) a1 a2 a3 (σ k 10) σ r2 σ1 →
      Gh_seen_post k a1 a2 a3 σ r2 σ1) ∧
    (¬ (a2 = (-1)) →
      Gh_isPerson_pre k a2 σ ∧
      ∀ (r4 : Int) (σ3 : Hp), Gh_isPerson_post k a2 σ r4 σ3 →
      (¬ r4 = 0 →
        Si_add_pre (k + 19) a1 a2 a3 (σ3 k 10) σ3 ∧
        ∀ (r6 : Int) (σ5 : Hp), Si_add_post (k + 19) a1 a2 a3 (σ3 k 10) σ3 r6 σ5 →
        Gh_seen_post k a1 a2 a3 σ r6 σ5) ∧
      (¬ (¬ r4 = 0) →
        Gh_seen_post k a1 a2 a3 σ (-1) σ3)))
theorem Gh_seen_p : Gh_seen_vc := by
  intro k a b c σ hH hp
  obtain ⟨rfl, hP, hc⟩ := hp
  have hX := hP.1
  have hG := hX.2.2.2.2.1
  have e9 : σ (σ 0 8).toNat 9 = (fN (aF (xA σ)) : Int) := xN hX
  rw [e9]
  refine ⟨fun h => ⟨same0 hX, ?_⟩, fun h => ⟨fun h2 => ⟨⟨rfl, hG, hc⟩, fun r σ1 g => add_x hP (by omega) (Or.inl h2) g⟩, fun h2 => ⟨⟨rfl, hX⟩, ?_⟩⟩⟩
  · unfold s_seen; rw [if_neg (fun z => z.1.1 (by omega))]; exact ⟨rfl, rfl⟩
  · rintro r4 σ3 ⟨rfl, rfl⟩
    refine ⟨fun h3 => ⟨⟨rfl, hG, hc⟩, fun r σ1 g => add_x hP (by omega) (Or.inr (ite1 h3)) g⟩, fun h3 => ⟨same0 hX, ?_⟩⟩
    unfold s_seen; rw [if_neg (fun z => z.1.2.elim h2 (ite0' h3))]; exact ⟨rfl, rfl⟩
def Gh_seen_I : List AV → Hp → Nat → Nat → List AV → List AV → Hp → Prop := fun as σ0 pc n st ls σ => (match as with
    | [.inr (.inr (.inl (k, 0, 8))), .inl a1, .inl a2, .inl a3] => False
    | _ => False)
def Gh_seen_ct : Nat → Ct := fun n => match n with
  | 0 => Gh_isPerson_cs
  | 1 => Si_add_cs
  | _ => Gh_seen_cs
set_option maxRecDepth 20000 in
set_option maxHeartbeats 4000000 in
theorem Gh_seen_met {l : Launch} {D : va_G} {ad : Nat → Nat} {ca : Nat → ClassId} {L : Nat} {fx : Nat → Int} : ax_MC l D ad ca L fx yX8_seen cX8_seen 4 (some .int) 2 Gh_seen_cs := by
  refine ax_met (oc := 8) (ct := Gh_seen_ct) (calls := Gh_seen_cl) (bs := Gh_seen_bk) (cut := fun pc => false) (f := 4) (I := Gh_seen_I) (by decide) rfl rfl Gh_seen_ck (List.forall_mem_cons.mpr ⟨ax_cwV Gh_isPerson_met (by decide) (by decide) rfl (by decide) rfl (ax_m3 188 (by decide +kernel) rfl) Gh_isPerson_w rfl Gh_isPerson_ds, List.forall_mem_cons.mpr ⟨ax_cwV Si_add_met (by decide) (by decide) rfl (by decide) rfl (ax_m5 57 (by decide +kernel) rfl) Si_add_w rfl Si_add_ds, fun _ h => absurd h List.not_mem_nil⟩⟩) ?_ ?_
  · intro as σ0 hp hH
    match as, hp with
    | [.inr (.inr (.inl (k, 0, 8))), .inl a1, .inl a2, .inl a3], hp => exact ⟨rfl, Gh_seen_p k a1 a2 a3 σ0 hH hp⟩
  · intro as σ0 hp n pc st ls σ hH hI
    match as, hp, hI with
    | [.inr (.inr (.inl (k, 0, 8))), .inl a1, .inl a2, .inl a3], hp, hI => exact False.elim hI
def Gh_untell_pre (k : Nat) (_a : Int) (σ : Hp) : Prop := k = 0 ∧ XP σ
def Gh_untell_post (_k : Nat) (a : Int) (σ : Hp) (r : Int) (σ' : Hp) : Prop := XQ σ σ' ∧ s_untell (xA σ) a r (xA σ')
def Gh_untell_bk : List (Nat × List Item) := [(0, [(.aload_n 0, 1, [], []), (.getfield 40, 3, [8, 4, 4, 19, 0, 6], []), (.iload_n 1, 1, [], []), (.aload_n 0, 1, [], []), (.getfield 238, 3, [8, 10, 0, 0, 0, 0], []), (.invokevirtual 245, 3, [0], []), (.ireturn, 1, [], [])])]
def Gh_untell_cl : List (Instr × Nat) := [(.invokevirtual 245, 0)]
set_option maxRecDepth 20000 in
theorem Gh_untell_ck : Gh_untell_bk.all (fun b => ax_chB 8 2 cX8_untell Gh_untell_cl b.1 b.2) = true := by decide +kernel
def Gh_untell_cs : Ct := (2, 9, 2, (0, 0), fun as σ => (match as with
    | [.inr (.inr (.inl (k, 0, 8))), .inl a1] => Gh_untell_pre k a1 σ
    | _ => False), fun as σ r σ' => (match as with
    | [.inr (.inr (.inl (k, 0, 8))), .inl a1] => Gh_untell_post k a1 σ r σ'
    | _ => False))
theorem Gh_untell_w : ∀ w ∈ ([.instanceMethod yX8_untell, .selects yX8_untell.cls yX8_untell yX8_untell, .initialized yX8_untell.cls, .code yX8_untell cX8_untell 2 (some .boolean)] : List Cond), w ∈ ax_tb := ax_w4 (ax_m5 62 (by decide +kernel) rfl) (ax_m5 63 (by decide +kernel) rfl) (ax_m1 1 (by decide +kernel) rfl) (ax_m5 64 (by decide +kernel) rfl)
theorem Gh_untell_ds : yX8_untell.cls ≠ "java/lang/invoke/MethodHandle" ∧ yX8_untell.cls ≠ "java/lang/invoke/VarHandle" ∧ (parseMethodDescriptor yX8_untell.desc).map (fun d => d.parameters.length) = some 1 := by decide +kernel
def Gh_untell_vc : Prop := ∀ (k : Nat) (a1 : Int) (σ : Hp), ax_H σ → Gh_untell_pre k a1 σ →
  Si_takeBack_pre (k + 19) a1 (σ k 10) σ ∧
  ∀ (r2 : Int) (σ1 : Hp), Si_takeBack_post (k + 19) a1 (σ k 10) σ r2 σ1 →
  (r2 = 0 ∨ r2 = 1) ∧ Gh_untell_post k a1 σ r2 σ1
theorem Gh_untell_p : Gh_untell_vc := by
  intro k a σ hH hp
  obtain ⟨rfl, hP⟩ := hp
  have hX := hP.1
  have hG := hX.2.2.2.2.1
  have eG : (aG (xA σ)).1 = (σ 19 9).toNat := rfl
  refine ⟨⟨rfl, hG⟩, ?_⟩
  intro r2 σ1 h
  unfold Si_takeBack_post at h
  by_cases z : 0 ≤ a ∧ a < σ 19 9 ∧ σ 24 a.toNat = -1
  · rw [if_pos z] at h
    obtain ⟨rfl, rfl⟩ := h
    have ha : a.toNat < (σ 19 9).toNat := by omega
    have eu : (aG (xA σ)).2.2.2.2.2 a.toNat = σ 24 a.toNat := tr_in ha
    have A := sgt_x (cs := [24]) (σ' := hp σ 24 a.toNat (σ 0 10)) hX (Fr.hp Fr.rf List.mem_cons_self) (fun c hc => by rw [List.mem_singleton.mp hc]; omega) (by rw [hp_ne (by decide)]; exact hG) (by rw [hp_ne (by decide)])
    refine ⟨Or.inr rfl, A.1, ?_⟩
    unfold s_untell
    rw [if_pos ⟨⟨z.1, by rw [eG]; omega⟩, by rw [eu]; exact z.2.2⟩]
    refine ⟨rfl, ?_⟩
    have : sgX (hp σ 24 a.toNat (σ 0 10)) = unG (aG (xA σ)) a.toNat (aT (xA σ)) := by
      unfold sgX
      rw [hp_ne (show (19 : Nat) ≠ 24 by decide), hp_ne (show (20 : Nat) ≠ 24 by decide), hp_ne (show (21 : Nat) ≠ 24 by decide), hp_ne (show (22 : Nat) ≠ 24 by decide), hp_ne (show (23 : Nat) ≠ 24 by decide)]
      have : tr (σ 19 9).toNat (hp σ 24 a.toNat (σ 0 10) 24) = va_up (tr (σ 19 9).toNat (σ 24)) a.toNat (σ 0 10) := by
        funext j
        by_cases e : j = a.toNat
        · rw [e, vu_at, tr_in ha, hp_r1]
        · rw [vu_ne e]
          unfold tr
          by_cases y : j < (σ 19 9).toNat
          · rw [if_pos y, if_pos y, hp_r2 (fun w => e w.2)]
          · rw [if_neg y, if_neg y]
      rw [this]; rfl
    rw [← this]; exact A.2
  · rw [if_neg z] at h
    obtain ⟨rfl, rfl⟩ := h
    refine ⟨Or.inl rfl, same0 hX, ?_⟩
    unfold s_untell
    rw [if_neg]
    · exact ⟨rfl, rfl⟩
    · intro y
      have ha : a.toNat < (σ1 19 9).toNat := by have := y.1.2; rw [eG] at this; have := y.1.1; omega
      have eu : (aG (xA σ1)).2.2.2.2.2 a.toNat = σ1 24 a.toNat := tr_in ha
      exact z ⟨y.1.1, by have := y.1.1; omega, by rw [← eu]; exact y.2⟩
def Gh_untell_I : List AV → Hp → Nat → Nat → List AV → List AV → Hp → Prop := fun as σ0 pc n st ls σ => (match as with
    | [.inr (.inr (.inl (k, 0, 8))), .inl a1] => False
    | _ => False)
def Gh_untell_ct : Nat → Ct := fun n => match n with
  | 0 => Si_takeBack_cs
  | _ => Gh_untell_cs
set_option maxRecDepth 20000 in
set_option maxHeartbeats 4000000 in
theorem Gh_untell_met {l : Launch} {D : va_G} {ad : Nat → Nat} {ca : Nat → ClassId} {L : Nat} {fx : Nat → Int} : ax_MC l D ad ca L fx yX8_untell cX8_untell 2 (some .boolean) 2 Gh_untell_cs := by
  refine ax_met (oc := 8) (ct := Gh_untell_ct) (calls := Gh_untell_cl) (bs := Gh_untell_bk) (cut := fun pc => false) (f := 2) (I := Gh_untell_I) (by decide) rfl rfl Gh_untell_ck (List.forall_mem_cons.mpr ⟨ax_cwV Si_takeBack_met (by decide) (by decide) rfl (by decide) rfl (ax_m5 65 (by decide +kernel) rfl) Si_takeBack_w rfl Si_takeBack_ds, fun _ h => absurd h List.not_mem_nil⟩) ?_ ?_
  · intro as σ0 hp hH
    match as, hp with
    | [.inr (.inr (.inl (k, 0, 8))), .inl a1], hp => exact ⟨rfl, Gh_untell_p k a1 σ0 hH hp⟩
  · intro as σ0 hp n pc st ls σ hH hI
    match as, hp, hI with
    | [.inr (.inr (.inl (k, 0, 8))), .inl a1], hp, hI => exact False.elim hI
def Gh_later_pre (k : Nat) (_a : Int) (σ : Hp) : Prop := k = 0 ∧ XP σ
def Gh_later_post (_k : Nat) (a : Int) (σ : Hp) (r : Int) (σ' : Hp) : Prop := XQ σ σ' ∧ s_later (xA σ) a r (xA σ')
def Gh_later_bk : List (Nat × List Item) := [(0, [(.iload_n 1, 1, [], []), (.ifCond .lt 21, 3, [22], []), (.iload_n 1, 1, [], []), (.sipush 1000, 3, [], []), (.if_icmp .gt 14, 3, [22], []), (.aload_n 0, 1, [], []), (.getfield 238, 3, [8, 10, 0, 0, 0, 0], []), (.iload_n 1, 1, [], []), (.iadd, 1, [], []), (.ldc 248, 2, [], [(100000, 0)]), (.if_icmp .le 5, 3, [24], [])]),
  (22, [(.iconst (-1), 1, [], []), (.ireturn, 1, [], [])]),
  (24, [(.aload_n 0, 1, [], []), (.dup, 1, [], []), (.getfield 238, 3, [8, 10, 0, 0, 0, 0], []), (.iload_n 1, 1, [], []), (.iadd, 1, [], []), (.putfield 238, 3, [8, 10, 0, 0, 0, 0], []), (.aload_n 0, 1, [], []), (.getfield 238, 3, [8, 10, 0, 0, 0, 0], []), (.ireturn, 1, [], [])])]
def Gh_later_cl : List (Instr × Nat) := []
set_option maxRecDepth 20000 in
theorem Gh_later_ck : Gh_later_bk.all (fun b => ax_chB 8 2 cX8_later Gh_later_cl b.1 b.2) = true := by decide +kernel
def Gh_later_cs : Ct := (2, 9, 1, (0, 0), fun as σ => (match as with
    | [.inr (.inr (.inl (k, 0, 8))), .inl a1] => Gh_later_pre k a1 σ
    | _ => False), fun as σ r σ' => (match as with
    | [.inr (.inr (.inl (k, 0, 8))), .inl a1] => Gh_later_post k a1 σ r σ'
    | _ => False))
theorem Gh_later_w : ∀ w ∈ ([.instanceMethod yX8_later, .selects yX8_later.cls yX8_later yX8_later, .initialized yX8_later.cls, .code yX8_later cX8_later 2 (some .int)] : List Cond), w ∈ ax_tb := ax_w4 (ax_m5 70 (by decide +kernel) rfl) (ax_m5 71 (by decide +kernel) rfl) (ax_m1 1 (by decide +kernel) rfl) (ax_m5 72 (by decide +kernel) rfl)
theorem Gh_later_ds : yX8_later.cls ≠ "java/lang/invoke/MethodHandle" ∧ yX8_later.cls ≠ "java/lang/invoke/VarHandle" ∧ (parseMethodDescriptor yX8_later.desc).map (fun d => d.parameters.length) = some 1 := by decide +kernel
def Gh_later_vc : Prop := ∀ (k : Nat) (a1 : Int) (σ : Hp), ax_H σ → Gh_later_pre k a1 σ →
  (a1 < 0 →
    Gh_later_post k a1 σ (-1) σ) ∧
  (¬ (a1 < 0) →
    (1000 < a1 →
      Gh_later_post k a1 σ (-1) σ) ∧
    (¬ (1000 < a1) →
      (wr ((σ k 10) + a1) ≤ 100000 →
        ∀ σ1 : Hp, σ1 = hp σ k 10 (wr ((σ k 10) + a1)) →
        Gh_later_post k a1 σ (σ1 k 10) σ1) ∧
      (¬ (wr ((σ k 10) + a1) ≤ 100000) →
        Gh_later_post k a1 σ (-1) σ)))
theorem Gh_later_p : Gh_later_vc := by
  intro k a σ hH hp
  obtain ⟨rfl, hP⟩ := hp
  have hX := hP.1
  have hT := hP.2.2.2.2.2.2.2.2.2.2
  have eT : aT (xA σ) = σ 0 10 := rfl
  refine ⟨fun h => ⟨same0 hX, ?_⟩, fun h => ⟨fun h2 => ⟨same0 hX, ?_⟩, fun h2 => ?_⟩⟩
  · unfold s_later; rw [if_neg (by omega)]; exact ⟨rfl, rfl⟩
  · unfold s_later; rw [if_neg (by omega)]; exact ⟨rfl, rfl⟩
  · have hT1 : 0 ≤ σ 0 10 ∧ σ 0 10 ≤ 100000 := hT
    rw [wr_id (x := σ 0 10 + a) (by omega) (by omega)]
    refine ⟨fun h3 => ?_, fun h3 => ⟨same0 hX, ?_⟩⟩
    · rintro σ1 hσ1
      have ne : ∀ c, ¬ c = 0 → σ1 c = σ c := fun c hc => by rw [hσ1, hp_ne hc]
      have n0 : ∀ j, ¬ j = 10 → σ1 0 j = σ 0 j := fun j hj => by rw [hσ1, hp_r2 (fun z => hj z.2)]
      have hfo := hX.1.fo
      have hK : FK (tld σ) σ σ1 := FK_of (cs := [0]) hfo (fun c hc => ne c (fun z => hc (by rw [z]; exact List.mem_cons_self))) (fun c hc => by rw [List.mem_singleton.mp hc]; omega)
      have eh : hst σ1 = hst σ := by funext i; unfold hst; rw [ne 14 (by omega), ne 15 (by omega)]
      have es : stX σ1 31 = stX σ 31 := stX_eq (fun d hd => ne _ (by omega))
      have G := xA_gen hX (n0 8 (by decide)) (n0 9 (by decide)) (ne 1 (by omega)) (ne 2 (by omega)) hK (by unfold HO; rw [ne 14 (by omega)]; exact hX.2.2.2.1) (by rw [ne 19 (by omega)]; exact hX.2.2.2.2.1) (by rw [ne 19 (by omega)]) (ne 28 (by omega)) (by rw [n0 7 (by decide)]; exact hX.2.2.2.2.2.2.1) (by rw [ne 14 (by omega), eh, es]; exact hX.2.2.2.2.2.2.2) (fun c hcc => ne c (by omega))
      refine ⟨G.1, ?_⟩
      unfold s_later
      rw [if_pos ⟨⟨by omega, by omega⟩, by rw [eT]; exact h3⟩]
      have e10 : σ1 0 10 = σ 0 10 + a := by rw [hσ1, hp_r1]
      refine ⟨by rw [e10, eT], ?_⟩
      have eG : sgX σ1 = sgX σ := sgX_eq (by rw [ne 19 (by omega)]) (fun c c1 c2 => ne c (by omega))
      have eL : hstL σ1 = hstL σ := by unfold hstL; rw [eh, ne 14 (by omega)]
      rw [G.2, bxX_eq (ne 17 (by omega)) (ne 18 (by omega)), eG, n0 7 (by decide), e10, ne 34 (by omega), es, eL]
      rfl
    · unfold s_later; rw [if_neg (fun z => h3 (by have := z.2; rw [eT] at this; exact this))]; exact ⟨rfl, rfl⟩
def Gh_later_I : List AV → Hp → Nat → Nat → List AV → List AV → Hp → Prop := fun as σ0 pc n st ls σ => (match as with
    | [.inr (.inr (.inl (k, 0, 8))), .inl a1] => False
    | _ => False)
def Gh_later_ct : Nat → Ct := fun n => match n with
  | _ => Gh_later_cs
set_option maxRecDepth 20000 in
set_option maxHeartbeats 4000000 in
theorem Gh_later_met {l : Launch} {D : va_G} {ad : Nat → Nat} {ca : Nat → ClassId} {L : Nat} {fx : Nat → Int} : ax_MC l D ad ca L fx yX8_later cX8_later 2 (some .int) 1 Gh_later_cs := by
  refine ax_met (oc := 8) (ct := Gh_later_ct) (calls := Gh_later_cl) (bs := Gh_later_bk) (cut := fun pc => false) (f := 4) (I := Gh_later_I) (by decide) rfl rfl Gh_later_ck (fun _ h => absurd h List.not_mem_nil) ?_ ?_
  · intro as σ0 hp hH
    match as, hp with
    | [.inr (.inr (.inl (k, 0, 8))), .inl a1], hp => exact ⟨rfl, Gh_later_p k a1 σ0 hH hp⟩
  · intro as σ0 hp n pc st ls σ hH hI
    match as, hp, hI with
    | [.inr (.inr (.inl (k, 0, 8))), .inl a1], hp, hI => exact False.elim hI
