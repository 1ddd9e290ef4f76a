-- THE MODEL: whom the hair goes to, a day
theorem hst_air {σ σ' : Hp} (h : σ' 91 = σ 91) : airM σ' = airM σ := by unfold airM; rw [h]
theorem AP.keep {σ σ' : Hp} (h : AP σ) (h67 : σ' 67 = σ 67) (h91 : σ' 91 = σ 91) (hc : ∀ c, (73 ≤ c ∧ c ≤ 75) ∨ (85 ≤ c ∧ c ≤ 89) → σ' c = σ c) : AP σ' ∧ ∀ d, famM d σ' = famM d σ := by
  have hK := h.1.keep (σ' := σ') (by rw [h67]) (by rw [h67]) (by rw [h67]) hc
  refine ⟨⟨hK.1, ?_, ?_⟩, hK.2⟩
  · rw [hst_air h91]; exact h.2.1
  · rw [hst_air h91, h67]; exact h.2.2
theorem AP.fr {σ σ' : Hp} {cs : List Nat} (h : AP σ) (hf : Fr cs σ σ') (hc : ∀ c ∈ cs, 76 ≤ c ∧ c ≤ 84 ∨ c = 90 ∨ 92 ≤ c) : AP σ' ∧ (∀ d, famM d σ' = famM d σ) ∧ airM σ' = airM σ := by
  have e : ∀ c, ((c = 67 ∨ c = 91) ∨ (73 ≤ c ∧ c ≤ 75) ∨ (85 ≤ c ∧ c ≤ 89)) → σ' c = σ c := fun c hcc => hf c (fun z => by have := hc c z; omega)
  have := h.keep (e 67 (by omega)) (e 91 (by omega)) (fun c hcc => e c (by omega))
  exact ⟨this.1, this.2, hst_air (e 91 (by omega))⟩
def Mo_worryOf_pre (k : Nat) (a : Int) (σ : Hp) : Prop := k = 67 ∧ 0 ≤ a ∧ a < (((σ 67 42).toNat : Nat) : Int) ∧ AP σ
def Mo_worryOf_post (_k : Nat) (a : Int) (σ : Hp) (r : Int) (σ' : Hp) : Prop := Fr [77, 79] σ σ' ∧ ∀ d, r = wry (famM d σ) (airM σ) a.toNat
def Mo_worryOf_bk : List (Nat × List Item) := [(0, [(.aload_n 0, 1, [], []), (.iconst 0, 1, [], []), (.iload_n 1, 1, [], []), (.aload_n 0, 1, [], []), (.getfield 88, 3, [9, 47, 4, 24, 1, 16], []), (.iload_n 1, 1, [], []), (.iaload, 1, [], []), (.aload_n 0, 1, [], []), (.iload_n 1, 1, [], []), (.invokevirtual 307, 3, [0], []), (.iconst 2, 1, [], []), (.idiv, 1, [], []), (.iadd, 1, [], []), (.invokevirtual 383, 3, [1], []), (.sipush 999, 3, [], []), (.invokestatic 386, 3, [2], []), (.ireturn, 1, [], [])])]
def Mo_worryOf_cl : List (Instr × Nat) := [(.invokevirtual 307, 0), (.invokevirtual 383, 1), (.invokestatic 386, 2)]
set_option maxRecDepth 20000 in
theorem Mo_worryOf_ck : Mo_worryOf_bk.all (fun b => ax_chB 9 2 cX9_worryOf Mo_worryOf_cl b.1 b.2) = true := by decide +kernel
def Mo_worryOf_cs : Ct := (2, 10, 1, (0, 0), fun as σ => (match as with
    | [.inr (.inr (.inl (k, 0, 9))), .inl a1] => Mo_worryOf_pre k a1 σ
    | _ => False), fun as σ r σ' => (match as with
    | [.inr (.inr (.inl (k, 0, 9))), .inl a1] => Mo_worryOf_post k a1 σ r σ'
    | _ => False))
theorem Mo_worryOf_w : ∀ w ∈ ([.instanceMethod yX9_worryOf, .selects yX9_worryOf.cls yX9_worryOf yX9_worryOf, .initialized yX9_worryOf.cls, .code yX9_worryOf cX9_worryOf 2 (some .int)] : List Cond), w ∈ ax_tb := ax_w4 (ax_m7 48 (by decide +kernel) rfl) (ax_m0 36 (by decide +kernel) rfl) (ax_m1 10 (by decide +kernel) rfl) (ax_m7 49 (by decide +kernel) rfl)
theorem Mo_worryOf_ds : yX9_worryOf.cls ≠ "java/lang/invoke/MethodHandle" ∧ yX9_worryOf.cls ≠ "java/lang/invoke/VarHandle" ∧ (parseMethodDescriptor yX9_worryOf.desc).map (fun d => d.parameters.length) = some 1 := by decide +kernel
def Mo_worryOf_vc : Prop := ∀ (k : Nat) (a1 : Int) (σ : Hp), ax_H σ → Mo_worryOf_pre k a1 σ →
  (0 ≤ a1 ∧ a1 < 16) ∧
  Mo_knownTo_pre k a1 σ ∧
  ∀ (r2 : Int) (σ1 : Hp), Mo_knownTo_post k a1 σ r2 σ1 →
  ¬ (2 : Int) = 0 ∧
  Mo_worked_pre k 0 a1 (wr ((σ (k + 24) a1.toNat) + (iDiv r2 2))) σ1 ∧
  ∀ (r4 : Int) (σ3 : Hp), Mo_worked_post k 0 a1 (wr ((σ (k + 24) a1.toNat) + (iDiv r2 2))) σ1 r4 σ3 →
  Mo_within_pre r4 999 σ3 ∧
  ∀ (r6 : Int) (σ5 : Hp), Mo_within_post r4 999 σ3 r6 σ5 →
  Mo_worryOf_post k a1 σ r6 σ5
theorem Mo_worryOf_p : Mo_worryOf_vc := by
  intro k a σ hH hp
  obtain ⟨rfl, a0, a1, hA⟩ := hp
  have hn := hA.1.1
  refine ⟨⟨a0, by omega⟩, ⟨rfl, a0, by omega, hA⟩, ?_⟩
  rintro r2 σ1 ⟨rfl, rfl⟩
  refine ⟨by decide, ⟨rfl, Or.inl rfl, a0, by omega, hA⟩, ?_⟩
  rintro r4 σ3 ⟨g1, rfl⟩
  refine ⟨(by decide : (0 : Int) ≤ 999), ?_⟩
  rintro r6 σ5 ⟨rfl, rfl⟩
  refine ⟨g1, fun d => ?_⟩
  have hk := sm_R (c := (airM σ1).1) (x := (airM σ1).2.1 a.toNat) (n := 6) (fun j _ => hA.2.1.1 j)
  have hc := hA.2.1.1 a.toNat
  have ek : knw (airM σ1) a.toNat = sm (airM σ1).1 ((airM σ1).2.1 a.toNat) 6 := rfl
  unfold wry
  by_cases z : σ1 75 0 = 0
  · rw [if_pos (show σ1 75 (0 : Int).toNat = 0 from z), if_neg (show ¬ ¬ (fWor (famM d σ1)).1 = 0 from fun y => y (show (if σ1 75 0 = 0 then (0 : Int) else 1) = 0 by rw [if_pos z]))]
    have e1 : σ1 (67 + 24) a.toNat = (airM σ1).1 a.toNat := (air_c (by omega)).symm
    rw [e1, show (2 : Int) = ((2 : Nat) : Int) from rfl, iDiv_p (by omega) (by omega) (by omega) (by omega), wr_id (by omega) (by omega)]
  · rw [if_neg (show ¬ σ1 75 (0 : Int).toNat = 0 from z), if_pos (show ¬ (fWor (famM d σ1)).1 = 0 from fun y => by
      have y' : (if σ1 75 0 = 0 then (0 : Int) else 1) = 0 := y
      rw [if_neg z] at y'
      exact absurd y' (by decide))]
    have eh : fHou (famM d σ1) a.toNat = σ1 85 a.toNat := tr_in (by omega)
    rw [eh]
    rfl
def Mo_worryOf_I : List AV → Hp → Nat → Nat → List AV → List AV → Hp → Prop := fun as σ0 pc n st ls σ => (match as with
    | [.inr (.inr (.inl (k, 0, 9))), .inl a1] => False
    | _ => False)
def Mo_worryOf_ct : Nat → Ct := fun n => match n with
  | 0 => Mo_knownTo_cs
  | 1 => Mo_worked_cs
  | 2 => Mo_within_cs
  | _ => Mo_worryOf_cs
set_option maxRecDepth 20000 in
set_option maxHeartbeats 4000000 in
theorem Mo_worryOf_met {l : Launch} {D : va_G} {ad : Nat → Nat} {ca : Nat → ClassId} {L : Nat} {fx : Nat → Int} : ax_MC l D ad ca L fx yX9_worryOf cX9_worryOf 2 (some .int) 4 Mo_worryOf_cs := by
  refine ax_met (oc := 9) (ct := Mo_worryOf_ct) (calls := Mo_worryOf_cl) (bs := Mo_worryOf_bk) (cut := fun pc => false) (f := 2) (I := Mo_worryOf_I) (by decide) rfl rfl Mo_worryOf_ck (List.forall_mem_cons.mpr ⟨ax_cwV Mo_knownTo_met (by decide) (by decide) rfl (by decide) rfl (ax_m7 50 (by decide +kernel) rfl) Mo_knownTo_w rfl Mo_knownTo_ds, List.forall_mem_cons.mpr ⟨ax_cwV Mo_worked_met (by decide) (by decide) rfl (by decide) rfl (ax_m7 54 (by decide +kernel) rfl) Mo_worked_w rfl Mo_worked_ds, List.forall_mem_cons.mpr ⟨ax_cwS Mo_within_met (by decide) (by decide) (ax_m7 64 (by decide +kernel) rfl) Mo_within_w rfl Mo_within_ds, fun _ h => absurd h List.not_mem_nil⟩⟩⟩) ?_ ?_
  · intro as σ0 hp hH
    match as, hp with
    | [.inr (.inr (.inl (k, 0, 9))), .inl a1], hp => exact ⟨rfl, Mo_worryOf_p k a1 σ0 hH hp⟩
  · intro as σ0 hp n pc st ls σ hH hI
    match as, hp, hI with
    | [.inr (.inr (.inl (k, 0, 9))), .inl a1], hp, hI => exact False.elim hI
/-- the first who worries most among the first i, one left out -/
def bsw (F : Fam) (s : Sta) (out : Int) : Nat → Int
  | 0 => -1
  | i + 1 => if ¬ (i : Int) = out ∧ (bsw F s out i < 0 ∨ wry F s (bsw F s out i).toNat < wry F s i) then (i : Int) else bsw F s out i
theorem bsw_s (F : Fam) (s : Sta) (out : Int) (i : Nat) : bsw F s out (i + 1) = if ¬ (i : Int) = out ∧ (bsw F s out i < 0 ∨ wry F s (bsw F s out i).toNat < wry F s i) then (i : Int) else bsw F s out i := rfl
theorem bsw_R (F : Fam) (s : Sta) (out : Int) : ∀ i, -1 ≤ bsw F s out i ∧ bsw F s out i < (i : Int) := by
  intro i
  induction i with
  | zero => exact ⟨Int.le_refl (-1), (by decide : (-1 : Int) < 0)⟩
  | succ i ih => rw [bsw_s]; split <;> omega
theorem mwr_bsw (F : Fam) (s : Sta) (out : Int) : ∀ i, mwr F s out i = if 0 ≤ bsw F s out i ∧ fEas F ≤ wry F s (bsw F s out i).toNat then (bsw F s out i, wry F s (bsw F s out i).toNat) else (-1, fEas F - 1) := by
  intro i
  induction i with
  | zero => rw [if_neg (fun z => absurd z.1 (by decide : ¬ (0 : Int) ≤ -1))]; rfl
  | succ i ih =>
    rw [mwr_s]
    by_cases e : (i : Int) = out
    · have hb : bsw F s out (i + 1) = bsw F s out i := by rw [bsw_s]; exact if_neg (fun z => z.1 e)
      rw [if_pos e, hb, ih]
    · by_cases h : bsw F s out i < 0 ∨ wry F s (bsw F s out i).toNat < wry F s i
      · have hb : bsw F s out (i + 1) = i := by rw [bsw_s]; exact if_pos ⟨e, h⟩
        rw [hb, if_neg e, Int.toNat_natCast]
        by_cases y : fEas F ≤ wry F s i
        · have e2 : (if 0 ≤ (i : Int) ∧ fEas F ≤ wry F s i then ((i : Int), wry F s i) else (-1, fEas F - 1)) = ((i : Int), wry F s i) := if_pos ⟨by omega, y⟩
          rw [e2]
          refine if_pos ?_
          rw [ih]
          split
          · rename_i z; show wry F s (bsw F s out i).toNat < _; omega
          · show fEas F - 1 < _; omega
        · have e2 : (if 0 ≤ (i : Int) ∧ fEas F ≤ wry F s i then ((i : Int), wry F s i) else (-1, fEas F - 1)) = (-1, fEas F - 1) := if_neg (fun z => y z.2)
          rw [e2]
          have e1 : ¬ (0 ≤ bsw F s out i ∧ fEas F ≤ wry F s (bsw F s out i).toNat) := by omega
          rw [if_neg e1] at ih
          rw [ih]
          exact if_neg (by show ¬ fEas F - 1 < _; omega)
      · have hb : bsw F s out (i + 1) = bsw F s out i := by rw [bsw_s]; exact if_neg (fun z => h z.2)
        rw [hb, if_neg e, ← ih]
        refine if_neg ?_
        rw [ih]
        split
        · show ¬ wry F s (bsw F s out i).toNat < _; omega
        · show ¬ fEas F - 1 < _; omega
theorem goes_bsw (F : Fam) (s : Sta) (out : Int) : goes F s out = if 0 ≤ bsw F s out (fN F) ∧ fEas F ≤ wry F s (bsw F s out (fN F)).toNat then bsw F s out (fN F) else -1 := by
  unfold goes
  rw [mwr_bsw]
  split <;> rfl
def Mo_goHair_pre (k : Nat) (_a : Int) (σ : Hp) : Prop := k = 67 ∧ AP σ
def Mo_goHair_post (_k : Nat) (a : Int) (σ σ' : Hp) : Prop := Fr [77, 79, 91] σ σ' ∧ (∀ j, ¬ j = 12 → σ' 91 j = σ 91 j) ∧ ∀ d, σ' 91 12 = goes (famM d σ) (airM σ) a
def Mo_goHair_I4 (_k : Nat) (a : Int) (σ0 : Hp) (n : Nat) (v2 v3 : Int) (σ : Hp) : Prop := ∃ i : Nat, v3 = i ∧ i ≤ (σ0 67 42).toNat ∧ n = 6 - i ∧ Fr [77, 79] σ0 σ ∧ ∀ d, v2 = bsw (famM d σ0) (airM σ0) a i
def Mo_goHair_bk : List (Nat × List Item) := [(0, [(.iconst (-1), 1, [], []), (.istore_n 2, 1, [], []), (.iconst 0, 1, [], []), (.istore_n 3, 1, [], [])]),
  (4, [(.iload_n 3, 1, [], []), (.aload_n 0, 1, [], []), (.getfield 304, 3, [9, 42, 0, 0, 0, 0], []), (.if_icmp .ge 33, 3, [42], []), (.iload_n 3, 1, [], []), (.iload_n 1, 1, [], []), (.if_icmp .eq 22, 3, [36], []), (.iload_n 2, 1, [], []), (.ifCond .lt 16, 3, [34], []), (.aload_n 0, 1, [], []), (.iload_n 3, 1, [], []), (.invokevirtual 389, 3, [0], []), (.aload_n 0, 1, [], []), (.iload_n 2, 1, [], []), (.invokevirtual 389, 3, [0], []), (.if_icmp .le 5, 3, [36], [])]),
  (34, [(.iload_n 3, 1, [], []), (.istore_n 2, 1, [], [])]),
  (36, [(.iinc 3 1, 3, [], []), (.goto (-35), 3, [4], [])]),
  (42, [(.aload_n 0, 1, [], []), (.getfield 88, 3, [9, 47, 4, 24, 1, 16], []), (.bipush 12, 2, [], []), (.iload_n 2, 1, [], []), (.ifCond .lt 19, 3, [68], []), (.aload_n 0, 1, [], []), (.iload_n 2, 1, [], []), (.invokevirtual 389, 3, [0], []), (.aload_n 0, 1, [], []), (.getfield 82, 3, [9, 43, 0, 0, 0, 0], []), (.if_icmp .lt 7, 3, [68], []), (.iload_n 2, 1, [], []), (.goto 4, 3, [69], [])]),
  (68, [(.iconst (-1), 1, [], [])]),
  (69, [(.iastore, 1, [], []), (.return_, 1, [], [])])]
def Mo_goHair_cl : List (Instr × Nat) := [(.invokevirtual 389, 0)]
set_option maxRecDepth 20000 in
theorem Mo_goHair_ck : Mo_goHair_bk.all (fun b => ax_chB 9 4 cX9_goHair Mo_goHair_cl b.1 b.2) = true := by decide +kernel
def Mo_goHair_cs : Ct := (2, 10, 0, (0, 0), fun as σ => (match as with
    | [.inr (.inr (.inl (k, 0, 9))), .inl a1] => Mo_goHair_pre k a1 σ
    | _ => False), fun as σ r σ' => (match as with
    | [.inr (.inr (.inl (k, 0, 9))), .inl a1] => Mo_goHair_post k a1 σ σ'
    | _ => False))
theorem Mo_goHair_w : ∀ w ∈ ([.instanceMethod yX9_goHair, .selects yX9_goHair.cls yX9_goHair yX9_goHair, .initialized yX9_goHair.cls, .code yX9_goHair cX9_goHair 4 none] : List Cond), w ∈ ax_tb := ax_w4 (ax_m7 44 (by decide +kernel) rfl) (ax_m0 35 (by decide +kernel) rfl) (ax_m1 10 (by decide +kernel) rfl) (ax_m7 45 (by decide +kernel) rfl)
theorem Mo_goHair_ds : yX9_goHair.cls ≠ "java/lang/invoke/MethodHandle" ∧ yX9_goHair.cls ≠ "java/lang/invoke/VarHandle" ∧ (parseMethodDescriptor yX9_goHair.desc).map (fun d => d.parameters.length) = some 1 := by decide +kernel
def Mo_goHair_vc : Prop := ∀ (k : Nat) (a1 : Int) (σ : Hp), ax_H σ → Mo_goHair_pre k a1 σ →
  ∃ n' : Nat, k = k ∧ a1 = a1 ∧ Mo_goHair_I4 k a1 σ n' (-1) 0 σ
def Mo_goHair_vc4 : Prop := ∀ (k : Nat) (a1 : Int) (σ0 : Hp), Mo_goHair_pre k a1 σ0 → ∀ (n : Nat) (v2 : Int) (v3 : Int) (σ : Hp), ax_H σ → Mo_goHair_I4 k a1 σ0 n v2 v3 σ →
  (σ k 42 ≤ v3 →
    (v2 < 0 →
      (0 ≤ (12 : Int) ∧ (12 : Int) < 16) ∧
      ∀ σ1 : Hp, σ1 = hp σ (k + 24) 12 (-1) →
      Mo_goHair_post k a1 σ0 σ1) ∧
    (¬ (v2 < 0) →
      Mo_worryOf_pre k v2 σ ∧
      ∀ (r3 : Int) (σ2 : Hp), Mo_worryOf_post k v2 σ r3 σ2 →
      (r3 < σ2 k 43 →
        (0 ≤ (12 : Int) ∧ (12 : Int) < 16) ∧
        ∀ σ4 : Hp, σ4 = hp σ2 (k + 24) 12 (-1) →
        Mo_goHair_post k a1 σ0 σ4) ∧
      (¬ (r3 < σ2 k 43) →
        (0 ≤ (12 : Int) ∧ (12 : Int) < 16) ∧
        ∀ σ5 : Hp, σ5 = hp σ2 (k + 24) 12 v2 →
        Mo_goHair_post k a1 σ0 σ5))) ∧
  (¬ (σ k 42 ≤ v3) →
    (v3 = a1 →
      ∃ n' : Nat, n' < n ∧ k = k ∧ a1 = a1 ∧ Mo_goHair_I4 k a1 σ0 n' v2 (wr (v3 + 1)) σ) ∧
    (¬ (v3 = a1) →
      (v2 < 0 →
        ∃ n' : Nat, n' < n ∧ k = k ∧ a1 = a1 ∧ Mo_goHair_I4 k a1 σ0 n' v3 (wr (v3 + 1)) σ) ∧
      (¬ (v2 < 0) →
        Mo_worryOf_pre k v3 σ ∧
        ∀ (r7 : Int) (σ6 : Hp), Mo_worryOf_post k v3 σ r7 σ6 →
        Mo_worryOf_pre k v2 σ6 ∧
        ∀ (r9 : Int) (σ8 : Hp), Mo_worryOf_post k v2 σ6 r9 σ8 →
        (r7 ≤ r9 →
          ∃ n' : Nat, n' < n ∧ k = k ∧ a1 = a1 ∧ Mo_goHair_I4 k a1 σ0 n' v2 (wr (v3 + 1)) σ8) ∧
        (¬ (r7 ≤ r9) →
          ∃ n' : Nat, n' < n ∧ k = k ∧ a1 = a1 ∧ Mo_goHair_I4 k a1 σ0 n' v3 (wr (v3 + 1)) σ8))))
theorem Mo_goHair_p : Mo_goHair_vc := by
  intro k a σ hH hp
  obtain ⟨rfl, hA⟩ := hp
  exact ⟨6, rfl, rfl, 0, rfl, Nat.zero_le _, rfl, Fr.rf, fun d => rfl⟩
theorem Mo_goHair_p4 : Mo_goHair_vc4 := by
  intro k a σ0 hp n v2 v3 σ hH hI
  obtain ⟨rfl, hA⟩ := hp
  obtain ⟨i, rfl, hi, rfl, hf, hv⟩ := hI
  have hn := hA.1.1
  have K := fun (τ : Hp) (h : Fr [77, 79] σ0 τ) => hA.fr h (by simp)
  have hb := bsw_R (famM 0 σ0) (airM σ0) a i
  rw [← hv 0] at hb
  have e67 : σ 67 = σ0 67 := hf 67 (by decide)
  rw [e67]
  have fin : ∀ (τ : Hp), Fr [77, 79] σ0 τ → ∀ v : Int, (∀ d, v = goes (famM d σ0) (airM σ0) a) → Mo_goHair_post 67 a σ0 (hp τ (67 + 24) 12 v) := by
    intro τ hτ v hv1
    refine ⟨Fr.hp (hτ.mono (by simp)) (by simp), fun j hj => ?_, fun d => ?_⟩
    · show hp τ 91 12 v 91 j = _
      rw [hp_r2 (fun z => hj z.2), hτ 91 (by decide)]
    · show hp τ 91 12 v 91 12 = _
      rw [hp_r1]; exact hv1 d
  refine ⟨fun h => ?_, fun h => ⟨fun h2 => ?_, fun h2 => ⟨fun h3 => ?_, fun h3 => ?_⟩⟩⟩
  · have ei : i = (σ0 67 42).toNat := by omega
    have gb : ∀ d, goes (famM d σ0) (airM σ0) a = if 0 ≤ v2 ∧ fEas (famM d σ0) ≤ wry (famM d σ0) (airM σ0) v2.toNat then v2 else -1 := by
      intro d
      rw [goes_bsw, show fN (famM d σ0) = i from ei.symm, ← hv d]
    refine ⟨fun h2 => ⟨⟨by decide, by decide⟩, ?_⟩, fun h2 => ⟨⟨rfl, by omega, by rw [e67]; omega, (K σ hf).1⟩, ?_⟩⟩
    · rintro σ1 rfl
      exact fin σ hf (-1) (fun d => by rw [gb d, if_neg (fun z => by omega)])
    · rintro r3 σ2 ⟨g1, g2⟩
      have e43 : σ2 67 43 = σ0 67 43 := by rw [g1 67 (by decide), e67]
      rw [e43]
      have gr : ∀ d, r3 = wry (famM d σ0) (airM σ0) v2.toNat := fun d => by rw [g2 d, (K σ hf).2.1 d, (K σ hf).2.2]
      refine ⟨fun h3 => ⟨⟨by decide, by decide⟩, ?_⟩, fun h3 => ⟨⟨by decide, by decide⟩, ?_⟩⟩
      · rintro σ4 rfl
        exact fin σ2 (hf.tr g1) (-1) (fun d => by rw [gb d, if_neg (fun z => by have := z.2; rw [← gr d] at this; exact absurd h3 (Int.not_lt.mpr this))])
      · rintro σ5 rfl
        exact fin σ2 (hf.tr g1) v2 (fun d => by rw [gb d, if_pos ⟨by omega, by rw [← gr d]; exact Int.not_lt.mp h3⟩])
  · rw [wr1 (by omega) (by omega)]
    refine ⟨6 - (i + 1), by omega, rfl, rfl, i + 1, by simp, by omega, rfl, hf, fun d => ?_⟩
    rw [bsw_s, if_neg (fun z => z.1 h2)]; exact hv d
  · rw [wr1 (by omega) (by omega)]
    refine ⟨6 - (i + 1), by omega, rfl, rfl, i + 1, by simp, by omega, rfl, hf, fun d => ?_⟩
    rw [bsw_s, if_pos ⟨h2, Or.inl (by rw [← hv d]; exact h3)⟩]
  · refine ⟨⟨rfl, by omega, by rw [e67]; omega, (K σ hf).1⟩, ?_⟩
    rintro r7 σ6 ⟨g1, g2⟩
    have hf6 := hf.tr g1
    refine ⟨⟨rfl, by omega, by rw [hf6 67 (by decide)]; omega, (K σ6 hf6).1⟩, ?_⟩
    rintro r9 σ8 ⟨g3, g4⟩
    have r7' : ∀ d, r7 = wry (famM d σ0) (airM σ0) i := fun d => by rw [g2 d, (K σ hf).2.1 d, (K σ hf).2.2, Int.toNat_natCast]
    have r9' : ∀ d, r9 = wry (famM d σ0) (airM σ0) v2.toNat := fun d => by rw [g4 d, (K σ6 hf6).2.1 d, (K σ6 hf6).2.2]
    rw [wr1 (by omega) (by omega)]
    refine ⟨fun h4 => ⟨6 - (i + 1), by omega, rfl, rfl, i + 1, by simp, by omega, rfl, hf6.tr g3, fun d => ?_⟩, fun h4 => ⟨6 - (i + 1), by omega, rfl, rfl, i + 1, by simp, by omega, rfl, hf6.tr g3, fun d => ?_⟩⟩
    · rw [bsw_s, if_neg]
      · exact hv d
      · rintro ⟨-, z | z⟩
        · rw [← hv d] at z; omega
        · rw [← hv d, ← r9' d, ← r7' d] at z; omega
    · rw [bsw_s, if_pos]
      exact ⟨h2, Or.inr (by rw [← hv d, ← r9' d, ← r7' d]; omega)⟩
def Mo_goHair_I : List AV → Hp → Nat → Nat → List AV → List AV → Hp → Prop := fun as σ0 pc n st ls σ => (match as with
    | [.inr (.inr (.inl (k, 0, 9))), .inl a1] => (bif Nat.beq pc 4 then (match st, ls with
      | [], [.inr (.inr (.inl (k', 0, 9))), .inl a1', .inl v2, .inl v3] => k = k' ∧ a1 = a1' ∧ Mo_goHair_I4 k a1 σ0 n v2 v3 σ
      | _, _ => False) else False)
    | _ => False)
def Mo_goHair_ct : Nat → Ct := fun n => match n with
  | 0 => Mo_worryOf_cs
  | _ => Mo_goHair_cs
set_option maxRecDepth 20000 in
set_option maxHeartbeats 4000000 in
theorem Mo_goHair_met {l : Launch} {D : va_G} {ad : Nat → Nat} {ca : Nat → ClassId} {L : Nat} {fx : Nat → Int} : ax_MC l D ad ca L fx yX9_goHair cX9_goHair 4 none 5 Mo_goHair_cs := by
  refine ax_met (oc := 9) (ct := Mo_goHair_ct) (calls := Mo_goHair_cl) (bs := Mo_goHair_bk) (cut := fun pc => Nat.beq pc 4) (f := 8) (I := Mo_goHair_I) (by decide) rfl rfl Mo_goHair_ck (List.forall_mem_cons.mpr ⟨ax_cwV Mo_worryOf_met (by decide) (by decide) rfl (by decide) rfl (ax_m7 46 (by decide +kernel) rfl) Mo_worryOf_w rfl Mo_worryOf_ds, fun _ h => absurd h List.not_mem_nil⟩) ?_ ?_
  · intro as σ0 hp hH
    match as, hp with
    | [.inr (.inr (.inl (k, 0, 9))), .inl a1], hp => exact ⟨rfl, Mo_goHair_p k a1 σ0 hH hp⟩
  · intro as σ0 hp n pc st ls σ hH hI
    match as, hp, hI with
    | [.inr (.inr (.inl (k, 0, 9))), .inl a1], hp, hI =>
      rcases ax_bifE hI with ⟨hpc, hI⟩ | ⟨-, hI⟩
      · have := Nat.eq_of_beq_eq_true hpc
        subst this
        match st, ls, hI with
        | [], [.inr (.inr (.inl (k', 0, 9))), .inl a1', .inl v2, .inl v3], hI =>
          obtain ⟨rfl, rfl, hI⟩ := hI
          exact Mo_goHair_p4 k a1 σ0 hp n v2 v3 σ hH hI
      exact False.elim hI
def Mo_growAll_pre (k : Nat) (σ : Hp) : Prop := k = 67 ∧ AP σ
def Mo_growAll_post (_k : Nat) (σ σ' : Hp) : Prop := Fr [77, 79, 91, 92] σ σ' ∧ (∀ j, 6 ≤ j → σ' 91 j = σ 91 j) ∧ ∀ d, ∀ j, j < 6 → σ' 91 j = grA (famM d σ) (airM σ) j
def Mo_growAll_I2 (_k : Nat) (σ0 : Hp) (n : Nat) (v1 : Int) (σ : Hp) : Prop := ∃ i : Nat, v1 = i ∧ i ≤ (σ0 67 42).toNat ∧ n = 20 - i ∧ Fr [77, 79, 92] σ0 σ ∧ ∀ d, ∀ j, j < i → σ 92 j = grA (famM d σ0) (airM σ0) j
def Mo_growAll_I43 (_k : Nat) (σ0 : Hp) (n : Nat) (v1 : Int) (σ : Hp) : Prop := ∃ i : Nat, v1 = i ∧ i ≤ (σ0 67 42).toNat ∧ n = 6 - i ∧ Fr [77, 79, 91, 92] σ0 σ ∧ (∀ d, ∀ j, j < (σ0 67 42).toNat → σ 92 j = grA (famM d σ0) (airM σ0) j) ∧ ∀ d, ∀ j, σ 91 j = if j < i then grA (famM d σ0) (airM σ0) j else σ0 91 j
def Mo_growAll_bk : List (Nat × List Item) := [(0, [(.iconst 0, 1, [], []), (.istore_n 1, 1, [], [])]),
  (2, [(.iload_n 1, 1, [], []), (.aload_n 0, 1, [], []), (.getfield 304, 3, [9, 42, 0, 0, 0, 0], []), (.if_icmp .ge 34, 3, [41], []), (.aload_n 0, 1, [], []), (.getfield 91, 3, [9, 48, 4, 25, 1, 6], []), (.iload_n 1, 1, [], []), (.aload_n 0, 1, [], []), (.getfield 88, 3, [9, 47, 4, 24, 1, 16], []), (.iload_n 1, 1, [], []), (.iaload, 1, [], []), (.aload_n 0, 1, [], []), (.iconst 1, 1, [], []), (.iload_n 1, 1, [], []), (.iconst 0, 1, [], []), (.invokevirtual 383, 3, [0], []), (.iadd, 1, [], []), (.bipush 99, 2, [], []), (.invokestatic 386, 3, [1], []), (.iastore, 1, [], []), (.iinc 1 1, 3, [], []), (.goto (-36), 3, [2], [])]),
  (41, [(.iconst 0, 1, [], []), (.istore_n 1, 1, [], [])]),
  (43, [(.iload_n 1, 1, [], []), (.aload_n 0, 1, [], []), (.getfield 304, 3, [9, 42, 0, 0, 0, 0], []), (.if_icmp .ge 21, 3, [69], []), (.aload_n 0, 1, [], []), (.getfield 88, 3, [9, 47, 4, 24, 1, 16], []), (.iload_n 1, 1, [], []), (.aload_n 0, 1, [], []), (.getfield 91, 3, [9, 48, 4, 25, 1, 6], []), (.iload_n 1, 1, [], []), (.iaload, 1, [], []), (.iastore, 1, [], []), (.iinc 1 1, 3, [], []), (.goto (-23), 3, [43], [])]),
  (69, [(.return_, 1, [], [])])]
def Mo_growAll_cl : List (Instr × Nat) := [(.invokevirtual 383, 0), (.invokestatic 386, 1)]
set_option maxRecDepth 20000 in
theorem Mo_growAll_ck : Mo_growAll_bk.all (fun b => ax_chB 9 2 cX9_growAll Mo_growAll_cl b.1 b.2) = true := by decide +kernel
def Mo_growAll_cs : Ct := (1, 10, 0, (0, 0), fun as σ => (match as with
    | [.inr (.inr (.inl (k, 0, 9)))] => Mo_growAll_pre k σ
    | _ => False), fun as σ r σ' => (match as with
    | [.inr (.inr (.inl (k, 0, 9)))] => Mo_growAll_post k σ σ'
    | _ => False))
theorem Mo_growAll_w : ∀ w ∈ ([.instanceMethod yX9_growAll, .selects yX9_growAll.cls yX9_growAll yX9_growAll, .initialized yX9_growAll.cls, .code yX9_growAll cX9_growAll 2 none] : List Cond), w ∈ ax_tb := ax_w4 (ax_m7 112 (by decide +kernel) rfl) (ax_m0 45 (by decide +kernel) rfl) (ax_m1 10 (by decide +kernel) rfl) (ax_m7 113 (by decide +kernel) rfl)
theorem Mo_growAll_ds : yX9_growAll.cls ≠ "java/lang/invoke/MethodHandle" ∧ yX9_growAll.cls ≠ "java/lang/invoke/VarHandle" ∧ (parseMethodDescriptor yX9_growAll.desc).map (fun d => d.parameters.length) = some 0 := by decide +kernel
def Mo_growAll_vc : Prop := ∀ (k : Nat) (σ : Hp), ax_H σ → Mo_growAll_pre k σ →
  ∃ n' : Nat, k = k ∧ Mo_growAll_I2 k σ n' 0 σ
def Mo_growAll_vc2 : Prop := ∀ (k : Nat) (σ0 : Hp), Mo_growAll_pre k σ0 → ∀ (n : Nat) (v1 : Int) (σ : Hp), ax_H σ → Mo_growAll_I2 k σ0 n v1 σ →
  (σ k 42 ≤ v1 →
    ∃ n' : Nat, n' < n ∧ k = k ∧ Mo_growAll_I43 k σ0 n' 0 σ) ∧
  (¬ (σ k 42 ≤ v1) →
    (0 ≤ v1 ∧ v1 < 16) ∧
    Mo_worked_pre k 1 v1 0 σ ∧
    ∀ (r2 : Int) (σ1 : Hp), Mo_worked_post k 1 v1 0 σ r2 σ1 →
    Mo_within_pre (wr ((σ (k + 24) v1.toNat) + r2)) 99 σ1 ∧
    ∀ (r4 : Int) (σ3 : Hp), Mo_within_post (wr ((σ (k + 24) v1.toNat) + r2)) 99 σ1 r4 σ3 →
    (0 ≤ v1 ∧ v1 < 6) ∧
    ∀ σ5 : Hp, σ5 = hp σ3 (k + 25) v1.toNat r4 →
    ∃ n' : Nat, n' < n ∧ k = k ∧ Mo_growAll_I2 k σ0 n' (wr (v1 + 1)) σ5)
def Mo_growAll_vc43 : Prop := ∀ (k : Nat) (σ0 : Hp), Mo_growAll_pre k σ0 → ∀ (n : Nat) (v1 : Int) (σ : Hp), ax_H σ → Mo_growAll_I43 k σ0 n v1 σ →
  (σ k 42 ≤ v1 →
    Mo_growAll_post k σ0 σ) ∧
  (¬ (σ k 42 ≤ v1) →
    (0 ≤ v1 ∧ v1 < 6) ∧
    (0 ≤ v1 ∧ v1 < 16) ∧
    ∀ σ1 : Hp, σ1 = hp σ (k + 24) v1.toNat (σ (k + 25) v1.toNat) →
    ∃ n' : Nat, n' < n ∧ k = k ∧ Mo_growAll_I43 k σ0 n' (wr (v1 + 1)) σ1)
theorem Mo_growAll_p : Mo_growAll_vc := by
  intro k σ hH hp
  obtain ⟨rfl, hA⟩ := hp
  exact ⟨20, rfl, 0, rfl, Nat.zero_le _, rfl, Fr.rf, fun d j hj => absurd hj (Nat.not_lt_zero j)⟩
theorem grA_M {σ : Hp} {d : Int} {j : Nat} (hA : AP σ) (hj : j < (σ 67 42).toNat) : grA (famM d σ) (airM σ) j = wth (wr ((airM σ).1 j + (if σ 75 1 = 0 then 0 else fval (frM σ 1) (env_p σ j)))) 99 := by
  have hn := hA.1.1
  have hc := hA.2.1.1 j
  unfold grA
  rw [if_pos (show j < fN (famM d σ) from hj)]
  unfold grc
  by_cases z : σ 75 1 = 0
  · rw [if_pos z, if_neg (show ¬ ¬ (fGro (famM d σ)).1 = 0 from fun y => y (show (if σ 75 1 = 0 then (0 : Int) else 1) = 0 by rw [if_pos z])), Int.add_zero, wr_id (by omega) (by omega)]
    unfold wth; omega
  · rw [if_neg z, if_pos (show ¬ (fGro (famM d σ)).1 = 0 from fun y => by
      have y' : (if σ 75 1 = 0 then (0 : Int) else 1) = 0 := y
      rw [if_neg z] at y'
      exact absurd y' (by decide))]
    have eh : fHou (famM d σ) j = σ 85 j := tr_in hj
    rw [eh]
    rfl
theorem Mo_growAll_p2 : Mo_growAll_vc2 := by
  intro k σ0 hp n v1 σ hH hI
  obtain ⟨rfl, hA⟩ := hp
  obtain ⟨i, rfl, hi, rfl, hf, hr⟩ := hI
  have hn := hA.1.1
  have K := hA.fr hf (by simp)
  have e67 : σ 67 = σ0 67 := hf 67 (by decide)
  have e91 : σ 91 = σ0 91 := hf 91 (by decide)
  rw [e67]
  refine ⟨fun h => ⟨6, by omega, rfl, 0, rfl, Nat.zero_le _, rfl, hf.mono (by simp), fun d j hj => hr d j (by omega), fun d j => by rw [if_neg (Nat.not_lt_zero j), e91]⟩, fun h => ⟨⟨by omega, by omega⟩, ⟨rfl, Or.inr rfl, by omega, by omega, K.1⟩, ?_⟩⟩
  rintro r2 σ1 ⟨g1, rfl⟩
  refine ⟨(by decide : (0 : Int) ≤ 99), ?_⟩
  rintro r4 σ3 ⟨rfl, rfl⟩
  refine ⟨⟨by omega, by omega⟩, ?_⟩
  rintro σ5 rfl
  rw [wr1 (by omega) (by omega), Int.toNat_natCast]
  refine ⟨20 - (i + 1), by omega, rfl, i + 1, by simp, by omega, rfl, Fr.hp (hf.tr (g1.mono (by simp))) (by simp), fun d j hj => ?_⟩
  show hp σ3 92 i _ 92 j = _
  rw [hp_rd]
  by_cases e : j = i
  · rw [if_pos ⟨rfl, e⟩, e, grA_M hA (by omega)]
    have e1 : σ (67 + 24) i = (airM σ0).1 i := by show σ 91 i = _; rw [e91]; exact (air_c (by omega)).symm
    have e75 : σ 75 = σ0 75 := hf 75 (by decide)
    have efr : frM σ 1 = frM σ0 1 := by have := K.2.1 0; exact congrArg (fun F => fGro F) this
    have een : env_p σ i = env_p σ0 i := by unfold env_p; rw [K.2.2, hf 85 (by decide)]
    rw [e1]
    show wth (wr ((airM σ0).1 i + (if σ 75 1 = 0 then 0 else fval (frM σ 1) (env_p σ i)))) 99 = _
    rw [e75, efr, een]
  · rw [if_neg (fun z => e z.2), g1 92 (by decide)]; exact hr d j (by omega)
theorem Mo_growAll_p43 : Mo_growAll_vc43 := by
  intro k σ0 hp n v1 σ hH hI
  obtain ⟨rfl, hA⟩ := hp
  obtain ⟨i, rfl, hi, rfl, hf, h92, h91⟩ := hI
  have hn := hA.1.1
  have e67 : σ 67 = σ0 67 := hf 67 (by decide)
  rw [e67]
  refine ⟨fun h => ⟨hf, fun j hj => by rw [h91 0 j, if_neg (by omega)], fun d j hj => ?_⟩, fun h => ⟨⟨by omega, by omega⟩, ⟨by omega, by omega⟩, ?_⟩⟩
  · rw [h91 d j]
    by_cases z : j < i
    · rw [if_pos z]
    · rw [if_neg z]
      unfold grA
      rw [if_neg (show ¬ j < fN (famM d σ0) from by show ¬ j < (σ0 67 42).toNat; omega)]
      exact (air_c hj).symm
  · rintro σ1 rfl
    rw [wr1 (by omega) (by omega), Int.toNat_natCast]
    refine ⟨6 - (i + 1), by omega, rfl, i + 1, by simp, by omega, rfl, Fr.hp hf (by simp), fun d j hj => by rw [hp_ne (by decide)]; exact h92 d j hj, fun d j => ?_⟩
    show hp σ 91 i (σ 92 i) 91 j = _
    rw [hp_rd]
    by_cases e : j = i
    · rw [if_pos ⟨rfl, e⟩, e, if_pos (by omega)]; exact h92 d i (by omega)
    · rw [if_neg (fun z => e z.2), h91 d j]
      by_cases z : j < i
      · rw [if_pos z, if_pos (by omega)]
      · rw [if_neg z, if_neg (by omega)]
def Mo_growAll_I : List AV → Hp → Nat → Nat → List AV → List AV → Hp → Prop := fun as σ0 pc n st ls σ => (match as with
    | [.inr (.inr (.inl (k, 0, 9)))] => (bif Nat.beq pc 2 then (match st, ls with
      | [], [.inr (.inr (.inl (k', 0, 9))), .inl v1] => k = k' ∧ Mo_growAll_I2 k σ0 n v1 σ
      | _, _ => False) else (bif Nat.beq pc 43 then (match st, ls with
      | [], [.inr (.inr (.inl (k', 0, 9))), .inl v1] => k = k' ∧ Mo_growAll_I43 k σ0 n v1 σ
      | _, _ => False) else False))
    | _ => False)
def Mo_growAll_ct : Nat → Ct := fun n => match n with
  | 0 => Mo_worked_cs
  | 1 => Mo_within_cs
  | _ => Mo_growAll_cs
set_option maxRecDepth 20000 in
set_option maxHeartbeats 4000000 in
theorem Mo_growAll_met {l : Launch} {D : va_G} {ad : Nat → Nat} {ca : Nat → ClassId} {L : Nat} {fx : Nat → Int} : ax_MC l D ad ca L fx yX9_growAll cX9_growAll 2 none 4 Mo_growAll_cs := by
  refine ax_met (oc := 9) (ct := Mo_growAll_ct) (calls := Mo_growAll_cl) (bs := Mo_growAll_bk) (cut := fun pc => Nat.beq pc 2 || Nat.beq pc 43) (f := 6) (I := Mo_growAll_I) (by decide) rfl rfl Mo_growAll_ck (List.forall_mem_cons.mpr ⟨ax_cwV Mo_worked_met (by decide) (by decide) rfl (by decide) rfl (ax_m7 54 (by decide +kernel) rfl) Mo_worked_w rfl Mo_worked_ds, List.forall_mem_cons.mpr ⟨ax_cwS Mo_within_met (by decide) (by decide) (ax_m7 64 (by decide +kernel) rfl) Mo_within_w rfl Mo_within_ds, fun _ h => absurd h List.not_mem_nil⟩⟩) ?_ ?_
  · intro as σ0 hp hH
    match as, hp with
    | [.inr (.inr (.inl (k, 0, 9)))], hp => exact ⟨rfl, Mo_growAll_p k σ0 hH hp⟩
  · intro as σ0 hp n pc st ls σ hH hI
    match as, hp, hI with
    | [.inr (.inr (.inl (k, 0, 9)))], hp, hI =>
      rcases ax_bifE hI with ⟨hpc, hI⟩ | ⟨-, hI⟩
      · have := Nat.eq_of_beq_eq_true hpc
        subst this
        match st, ls, hI with
        | [], [.inr (.inr (.inl (k', 0, 9))), .inl v1], hI =>
          obtain ⟨rfl, hI⟩ := hI
          exact Mo_growAll_p2 k σ0 hp n v1 σ hH hI
      rcases ax_bifE hI with ⟨hpc, hI⟩ | ⟨-, hI⟩
      · have := Nat.eq_of_beq_eq_true hpc
        subst this
        match st, ls, hI with
        | [], [.inr (.inr (.inl (k', 0, 9))), .inl v1], hI =>
          obtain ⟨rfl, hI⟩ := hI
          exact Mo_growAll_p43 k σ0 hp n v1 σ hH hI
      exact False.elim hI
/-- the end of a day -/
def eday (F : Fam) (s : Sta) : Sta := (s.1, s.2.1, if ¬ s.2.2.2.2.2 = 0 ∧ ¬ s.2.2.1 = -1 then s.2.2.1 else goes F (s.1, s.2.1, s.2.2.1, s.2.2.2.1 + 1, s.2.2.2.2.1, s.2.2.2.2.2) (-1), s.2.2.2.1 + 1, s.2.2.2.2.1, 0)
theorem pss_eday (F : Fam) (s : Sta) (x d : Int) : pss F s x d = eday F (pssC F s x, s.2.1, s.2.2.1, s.2.2.2.1, d, s.2.2.2.2.2) := rfl
theorem stR_eq {f g : Nat → Int} (h : ∀ j, j < 16 → f j = g j) : stR f 0 = stR g 0 := by
  unfold stR
  refine Prod.ext (tr_ext fun j hj => h _ (by omega)) (Prod.ext (tr_ext fun j hj => h _ (by omega)) ?_)
  show (f 12, f 14, f 15, f 13) = (g 12, g 14, g 15, g 13)
  rw [h 12 (by omega), h 13 (by omega), h 14 (by omega), h 15 (by omega)]
def af : List Nat := [77, 79, 91, 92]
def Mo_endDay_pre (k : Nat) (σ : Hp) : Prop := k = 67 ∧ AP σ ∧ σ 91 14 < 100000
def Mo_endDay_post (_k : Nat) (σ σ' : Hp) : Prop := Fr af σ σ' ∧ ∀ d, airM σ' = eday (famM d σ) (airM σ)
def Mo_endDay_bk : List (Nat × List Item) := [(0, [(.aload_n 0, 1, [], []), (.getfield 88, 3, [9, 47, 4, 24, 1, 16], []), (.bipush 14, 2, [], []), (.dup2, 1, [], []), (.iaload, 1, [], []), (.iconst 1, 1, [], []), (.iadd, 1, [], []), (.iastore, 1, [], []), (.aload_n 0, 1, [], []), (.getfield 88, 3, [9, 47, 4, 24, 1, 16], []), (.bipush 13, 2, [], []), (.iaload, 1, [], []), (.ifCond .eq 13, 3, [31], []), (.aload_n 0, 1, [], []), (.getfield 88, 3, [9, 47, 4, 24, 1, 16], []), (.bipush 12, 2, [], []), (.iaload, 1, [], []), (.ifCond .ge 8, 3, [36], [])]),
  (31, [(.aload_n 0, 1, [], []), (.iconst (-1), 1, [], []), (.invokevirtual 361, 3, [0], [])]),
  (36, [(.aload_n 0, 1, [], []), (.getfield 88, 3, [9, 47, 4, 24, 1, 16], []), (.bipush 13, 2, [], []), (.iconst 0, 1, [], []), (.iastore, 1, [], []), (.return_, 1, [], [])])]
def Mo_endDay_cl : List (Instr × Nat) := [(.invokevirtual 361, 0)]
set_option maxRecDepth 20000 in
theorem Mo_endDay_ck : Mo_endDay_bk.all (fun b => ax_chB 9 1 cX9_endDay Mo_endDay_cl b.1 b.2) = true := by decide +kernel
def Mo_endDay_cs : Ct := (1, 10, 0, (0, 0), fun as σ => (match as with
    | [.inr (.inr (.inl (k, 0, 9)))] => Mo_endDay_pre k σ
    | _ => False), fun as σ r σ' => (match as with
    | [.inr (.inr (.inl (k, 0, 9)))] => Mo_endDay_post k σ σ'
    | _ => False))
theorem Mo_endDay_w : ∀ w ∈ ([.instanceMethod yX9_endDay, .selects yX9_endDay.cls yX9_endDay yX9_endDay, .initialized yX9_endDay.cls, .code yX9_endDay cX9_endDay 1 none] : List Cond), w ∈ ax_tb := ax_w4 (ax_m7 116 (by decide +kernel) rfl) (ax_m0 46 (by decide +kernel) rfl) (ax_m1 10 (by decide +kernel) rfl) (ax_m7 117 (by decide +kernel) rfl)
theorem Mo_endDay_ds : yX9_endDay.cls ≠ "java/lang/invoke/MethodHandle" ∧ yX9_endDay.cls ≠ "java/lang/invoke/VarHandle" ∧ (parseMethodDescriptor yX9_endDay.desc).map (fun d => d.parameters.length) = some 0 := by decide +kernel
def Mo_endDay_vc : Prop := ∀ (k : Nat) (σ : Hp), ax_H σ → Mo_endDay_pre k σ →
  (0 ≤ (14 : Int) ∧ (14 : Int) < 16) ∧
  (0 ≤ (14 : Int) ∧ (14 : Int) < 16) ∧
  ∀ σ1 : Hp, σ1 = hp σ (k + 24) 14 (wr ((σ (k + 24) 14) + 1)) →
  (0 ≤ (13 : Int) ∧ (13 : Int) < 16) ∧
  (σ1 (k + 24) 13 = 0 →
    Mo_goHair_pre k (-1) σ1 ∧
    ∀ σ2 : Hp, Mo_goHair_post k (-1) σ1 σ2 →
    (0 ≤ (13 : Int) ∧ (13 : Int) < 16) ∧
    ∀ σ3 : Hp, σ3 = hp σ2 (k + 24) 13 0 →
    Mo_endDay_post k σ σ3) ∧
  (¬ (σ1 (k + 24) 13 = 0) →
    (0 ≤ (12 : Int) ∧ (12 : Int) < 16) ∧
    (0 ≤ σ1 (k + 24) 12 →
      (0 ≤ (13 : Int) ∧ (13 : Int) < 16) ∧
      ∀ σ4 : Hp, σ4 = hp σ1 (k + 24) 13 0 →
      Mo_endDay_post k σ σ4) ∧
    (¬ (0 ≤ σ1 (k + 24) 12) →
      Mo_goHair_pre k (-1) σ1 ∧
      ∀ σ5 : Hp, Mo_goHair_post k (-1) σ1 σ5 →
      (0 ≤ (13 : Int) ∧ (13 : Int) < 16) ∧
      ∀ σ6 : Hp, σ6 = hp σ5 (k + 24) 13 0 →
      Mo_endDay_post k σ σ6))
theorem Mo_endDay_p : Mo_endDay_vc := by
  intro k σ hH hp
  obtain ⟨rfl, hA, h14⟩ := hp
  have hday := hA.2.1.2.2.1
  have hd : 0 ≤ σ 91 14 := hday.1
  have hV := hA.2.2
  refine ⟨by decide, by decide, ?_⟩
  show ∀ σ1 : Hp, σ1 = hp σ 91 14 (wr (σ 91 14 + 1)) → _
  rw [wr1 hd (by omega)]
  intro σ1 hσ1
  refine ⟨by decide, ?_⟩
  have f1 : Fr [91] σ σ1 := by rw [hσ1]; exact Fr.hp Fr.rf (by simp)
  have r1 : ∀ j, ¬ j = 14 → σ1 91 j = σ 91 j := fun j hj => by rw [hσ1, hp_r2 (fun z => hj z.2)]
  have r14 : σ1 91 14 = σ 91 14 + 1 := by rw [hσ1, hp_r1]
  have air1 : airM σ1 = ((airM σ).1, (airM σ).2.1, (airM σ).2.2.1, (airM σ).2.2.2.1 + 1, (airM σ).2.2.2.2.1, (airM σ).2.2.2.2.2) := by
    unfold airM stR
    refine Prod.ext (tr_ext fun j hj => r1 _ (by omega)) (Prod.ext (tr_ext fun j hj => r1 _ (by omega)) ?_)
    show (σ1 91 12, σ1 91 14, σ1 91 15, σ1 91 13) = (σ 91 12, σ 91 14 + 1, σ 91 15, σ 91 13)
    rw [r1 12 (by decide), r14, r1 15 (by decide), r1 13 (by decide)]
  have K := hA.1.keep (σ' := σ1) (by rw [f1 67 (by decide)]) (by rw [f1 67 (by decide)]) (by rw [f1 67 (by decide)]) (fun c hc => f1 c (by simp; omega))
  have hA1 : AP σ1 := by
    refine ⟨K.1, ?_, ?_⟩
    · rw [air1]; exact ⟨hA.2.1.1, hA.2.1.2.1, ⟨by show 0 ≤ σ 91 14 + 1; omega, by show σ 91 14 + 1 ≤ 100000; omega⟩, hA.2.1.2.2.2⟩
    · rw [air1, f1 67 (by decide)]; exact ⟨hV.1, hV.2.1, hV.2.2⟩
  have fin : ∀ (τ : Hp) (v : Int), Fr af σ τ → (∀ j, ¬ j = 12 → τ 91 j = σ1 91 j) → τ 91 12 = v → (∀ d, v = if ¬ (airM σ).2.2.2.2.2 = 0 ∧ ¬ (airM σ).2.2.1 = -1 then (airM σ).2.2.1 else goes (famM d σ) ((airM σ).1, (airM σ).2.1, (airM σ).2.2.1, (airM σ).2.2.2.1 + 1, (airM σ).2.2.2.2.1, (airM σ).2.2.2.2.2) (-1)) → Mo_endDay_post 67 σ (hp τ (67 + 24) 13 0) := by
    intro τ v hτ hr hv hg
    refine ⟨Fr.hp hτ (by simp [af]), fun d => ?_⟩
    have q : ∀ j, ¬ j = 13 → hp τ 91 13 0 91 j = τ 91 j := fun j hj => hp_r2 (fun z => hj z.2)
    unfold eday
    rw [← hg d]
    show stR (hp τ 91 13 0 91) 0 = _
    unfold stR
    refine Prod.ext (tr_ext fun j hj => ?_) (Prod.ext (tr_ext fun j hj => ?_) ?_)
    · rw [q _ (by omega), hr _ (by omega), r1 _ (by omega)]
    · rw [q _ (by omega), hr _ (by omega), r1 _ (by omega)]
    · show (hp τ 91 13 0 91 12, hp τ 91 13 0 91 14, hp τ 91 13 0 91 15, hp τ 91 13 0 91 13) = (v, σ 91 14 + 1, σ 91 15, 0)
      rw [q 12 (by decide), q 14 (by decide), q 15 (by decide), hp_r1, hv, hr 14 (by decide), r14, hr 15 (by decide), r1 15 (by decide)]
  have e13 : σ1 (67 + 24) 13 = (airM σ).2.2.2.2.2 := r1 13 (by decide)
  have e12 : σ1 (67 + 24) 12 = (airM σ).2.2.1 := r1 12 (by decide)
  have go : ¬ (¬ (airM σ).2.2.2.2.2 = 0 ∧ ¬ (airM σ).2.2.1 = -1) → Mo_goHair_pre 67 (-1) σ1 ∧ ∀ σ2 : Hp, Mo_goHair_post 67 (-1) σ1 σ2 → (0 ≤ (13 : Int) ∧ (13 : Int) < 16) ∧ ∀ σ3 : Hp, σ3 = hp σ2 (67 + 24) 13 0 → Mo_endDay_post 67 σ σ3 := by
    intro hz
    refine ⟨⟨rfl, hA1⟩, ?_⟩
    rintro σ2 ⟨g1, g2, g3⟩
    refine ⟨by decide, ?_⟩
    rintro σ3 rfl
    exact fin σ2 _ ((f1.mono (by simp [af])).tr (g1.mono (by simp [af]))) g2 rfl (fun d => by rw [if_neg hz, g3 d, K.2 d, air1])
  rw [e13, e12]
  refine ⟨fun h => go (fun z => z.1 h), fun h => ⟨by decide, fun h2 => ⟨by decide, ?_⟩, fun h2 => go (fun z => ?_)⟩⟩
  · rintro σ4 rfl
    refine fin σ1 _ (f1.mono (by simp [af])) (fun _ _ => rfl) rfl (fun d => ?_)
    rw [if_pos ⟨h, by omega⟩]; exact e12
  · have := hV.1.1
    exact z.2 (by omega)
def Mo_endDay_I : List AV → Hp → Nat → Nat → List AV → List AV → Hp → Prop := fun as σ0 pc n st ls σ => (match as with
    | [.inr (.inr (.inl (k, 0, 9)))] => False
    | _ => False)
def Mo_endDay_ct : Nat → Ct := fun n => match n with
  | 0 => Mo_goHair_cs
  | _ => Mo_endDay_cs
set_option maxRecDepth 20000 in
set_option maxHeartbeats 4000000 in
theorem Mo_endDay_met {l : Launch} {D : va_G} {ad : Nat → Nat} {ca : Nat → ClassId} {L : Nat} {fx : Nat → Int} : ax_MC l D ad ca L fx yX9_endDay cX9_endDay 1 none 6 Mo_endDay_cs := by
  refine ax_met (oc := 9) (ct := Mo_endDay_ct) (calls := Mo_endDay_cl) (bs := Mo_endDay_bk) (cut := fun pc => false) (f := 4) (I := Mo_endDay_I) (by decide) rfl rfl Mo_endDay_ck (List.forall_mem_cons.mpr ⟨ax_cwV Mo_goHair_met (by decide) (by decide) rfl (by decide) rfl (ax_m7 42 (by decide +kernel) rfl) Mo_goHair_w rfl Mo_goHair_ds, fun _ h => absurd h List.not_mem_nil⟩) ?_ ?_
  · intro as σ0 hp hH
    match as, hp with
    | [.inr (.inr (.inl (k, 0, 9)))], hp => exact ⟨rfl, Mo_endDay_p k σ0 hH hp⟩
  · intro as σ0 hp n pc st ls σ hH hI
    match as, hp, hI with
    | [.inr (.inr (.inl (k, 0, 9)))], hp, hI => exact False.elim hI
