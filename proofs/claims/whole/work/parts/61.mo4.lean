-- THE MODEL: its picture, and the calls that only answer
def sgn (u : Int) : Int := if u < 128 then u else u - 256
def tpM (σ : Hp) : Tp := (tr (σ 67 1).toNat (fun i => sgn (σ 68 i)), (σ 67 1).toNat)
def hstM (σ : Hp) : List Sta × List Sta := ((List.range (σ 67 50).toNat).map (fun i => stR (σ 93) (16 * i)), (List.range (σ 67 51).toNat).map (fun i => stR (σ 93) (16 * ((σ 67 50).toNat + i))))
def bxM (σ : Hp) (i : Nat) : Option Sta := if i < 3 ∧ ¬ σ 106 i = 0 then some (stR (σ 107) (16 * i)) else none
def sgM (σ : Hp) : Sgt := ((σ 67 64).toNat, tr (σ 67 64).toNat (σ 99), tr (σ 67 64).toNat (σ 100), tr (σ 67 64).toNat (σ 103), tr (σ 67 64).toNat (σ 101), tr (σ 67 64).toNat (σ 102))
def lsM (σ : Hp) : Nat × (Nat → Int) := ((σ 67 56).toNat, tr (σ 67 56).toNat (σ 97))
def mA (d : Int) (σ : Hp) : AS := (tpM σ, (σ 67 2, σ 67 3), famM d σ, nowM σ, hstM σ, bxM σ, sgM σ, lsM σ, σ 67 65)
def MIr (σ : Hp) : Prop := MF σ ∧ (0 ≤ σ 67 1 ∧ σ 67 1 ≤ 1600) ∧ (∀ i, i < 1600 → 0 ≤ σ 68 i ∧ σ 68 i ≤ 255) ∧ (0 ≤ σ 67 50 ∧ 0 ≤ σ 67 51) ∧ (0 ≤ σ 67 56 ∧ σ 67 56 ≤ 6) ∧ (0 ≤ σ 67 64 ∧ σ 67 64 ≤ 30)
def MP (σ : Hp) : Prop := MIr σ ∧ ∃ d, WA (mA d σ)
def MQo (σ σ' : Hp) : Prop := MIr σ' ∧ ∀ c, c < 67 → σ' c = σ c
def shS (j : Nat) : Prop := j = 1 ∨ j = 2 ∨ j = 3 ∨ j = 23 ∨ j = 42 ∨ j = 43 ∨ j = 50 ∨ j = 51 ∨ j = 56 ∨ j = 64 ∨ j = 65
def shC (c : Nat) : Prop := c < 67 ∨ c = 68 ∨ (73 ≤ c ∧ c ≤ 75) ∨ (85 ≤ c ∧ c ≤ 90) ∨ c = 93 ∨ c = 97 ∨ (99 ≤ c ∧ c ≤ 103) ∨ 106 ≤ c
theorem mA_keep {σ σ' : Hp} (hX : MIr σ) (h67 : ∀ j, shS j → σ' 67 j = σ 67 j) (hc : ∀ c, shC c → σ' c = σ c) : MQo σ σ' ∧ ∀ d, mA d σ' = mA d σ := by
  obtain ⟨h1, h2, h3, h4, h5, h6⟩ := hX
  have s1 := h67 1 (by unfold shS; omega)
  have s2 := h67 2 (by unfold shS; omega)
  have s3 := h67 3 (by unfold shS; omega)
  have s23 := h67 23 (by unfold shS; omega)
  have s42 := h67 42 (by unfold shS; omega)
  have s43 := h67 43 (by unfold shS; omega)
  have s50 := h67 50 (by unfold shS; omega)
  have s51 := h67 51 (by unfold shS; omega)
  have s56 := h67 56 (by unfold shS; omega)
  have s64 := h67 64 (by unfold shS; omega)
  have s65 := h67 65 (by unfold shS; omega)
  have K := h1.keep (σ' := σ') s42 s43 s23 (fun c z => hc c (by unfold shC; omega))
  have c68 := hc 68 (by unfold shC; omega)
  refine ⟨⟨⟨K.1, by rw [s1]; exact h2, by rw [c68]; exact h3, by rw [s50, s51]; exact h4, by rw [s56]; exact h5, by rw [s64]; exact h6⟩, fun c z => hc c (by unfold shC; omega)⟩, fun d => ?_⟩
  have eX : bxM σ' = bxM σ := by funext i; unfold bxM; rw [hc 106 (by unfold shC; omega), hc 107 (by unfold shC; omega)]
  unfold mA tpM hstM sgM lsM nowM
  rw [s1, s2, s3, K.2 d, s50, s51, s56, s64, s65, c68, hc 90 (by unfold shC; omega), hc 93 (by unfold shC; omega), eX, hc 97 (by unfold shC; omega), hc 99 (by unfold shC; omega), hc 100 (by unfold shC; omega), hc 101 (by unfold shC; omega), hc 102 (by unfold shC; omega), hc 103 (by unfold shC; omega)]
def scm (c : Nat) : Prop := 67 < c ∧ ¬ shC c
theorem om0 {σ : Hp} {Q : Int → Int → Prop} {r : Int} (hX : MIr σ) (hQ : ∀ d, Q d r) : MQo σ σ ∧ ∀ d, Ob (mA d σ) (Q d) r (mA d σ) := ⟨⟨hX, fun _ _ => rfl⟩, fun d => ⟨rfl, hQ d⟩⟩
theorem mA_fr {σ σ' : Hp} {cs : List Nat} (hX : MIr σ) (hf : Fr cs σ σ') (hc : ∀ c ∈ cs, scm c) : MQo σ σ' ∧ ∀ d, mA d σ' = mA d σ :=
  mA_keep hX (fun j _ => by rw [hf 67 (fun z => by have := (hc 67 z).1; omega)]) (fun c h => hf c (fun z => (hc c z).2 h))
theorem om1 {σ σ' : Hp} {cs : List Nat} {Q : Int → Int → Prop} {r : Int} (hX : MIr σ) (hf : Fr cs σ σ') (hc : ∀ c ∈ cs, scm c) (hQ : ∀ d, Q d r) : MQo σ σ' ∧ ∀ d, Ob (mA d σ) (Q d) r (mA d σ') :=
  ⟨(mA_fr hX hf hc).1, fun d => ⟨(mA_fr hX hf hc).2 d, hQ d⟩⟩
theorem scm_af : ∀ c ∈ af, scm c := by
  intro c hc
  simp only [af, List.mem_cons, List.not_mem_nil, or_false] at hc
  unfold scm shC
  omega
theorem MP.np {σ : Hp} (h : MP σ) : NP σ := by
  obtain ⟨d, hd⟩ := h.2
  exact ⟨h.1.1, hd.2.2.1.1, hd.2.2.1.2.1⟩
theorem MP.d01 {σ : Hp} (h : MP σ) : d01 (nowM σ) := by
  obtain ⟨d, hd⟩ := h.2
  exact hd.2.2.1.2.2.2
theorem MP.kn {σ : Hp} (h : MP σ) : kn (nowM σ).2.1 6 ≤ 12 := by
  obtain ⟨d, hd⟩ := h.2
  exact hd.2.2.1.2.2.1
theorem MP.n6 {σ : Hp} (h : MP σ) : 0 ≤ σ 67 42 ∧ σ 67 42 ≤ 6 := h.1.1.1
theorem now_c {σ : Hp} {j : Nat} (hj : j < 6) : (nowM σ).1 j = σ 90 j := by
  show tr 6 (fun j => σ 90 (0 + j)) j = _
  rw [tr_in hj, Nat.zero_add]
theorem now_k {σ : Hp} {j : Nat} (hj : j < 6) : (nowM σ).2.1 j = σ 90 (6 + j) := by
  show tr 6 (fun j => σ 90 (0 + 6 + j)) j = _
  rw [tr_in hj]
def Mo_fault_pre (k : Nat) (_a : Int) (σ : Hp) : Prop := k = 67 ∧ MP σ
def Mo_fault_post (_k : Nat) (a : Int) (σ : Hp) (r : Int) (σ' : Hp) : Prop := MQo σ σ' ∧ ∀ d, s_fault (mA d σ) a r (mA d σ')
def Mo_fault_bk : List (Nat × List Item) := [(0, [(.iload_n 1, 1, [], []), (.ifCond .ne 10, 3, [11], []), (.aload_n 0, 1, [], []), (.getfield 179, 3, [9, 2, 0, 0, 0, 0], []), (.goto 16, 3, [24], [])]),
  (11, [(.iload_n 1, 1, [], []), (.iconst 1, 1, [], []), (.if_icmp .ne 10, 3, [23], []), (.aload_n 0, 1, [], []), (.getfield 13, 3, [9, 3, 0, 0, 0, 0], []), (.goto 4, 3, [24], [])]),
  (23, [(.iconst (-1), 1, [], [])]),
  (24, [(.ireturn, 1, [], [])])]
def Mo_fault_cl : List (Instr × Nat) := []
set_option maxRecDepth 20000 in
theorem Mo_fault_ck : Mo_fault_bk.all (fun b => ax_chB 9 2 cX9_fault Mo_fault_cl b.1 b.2) = true := by decide +kernel
def Mo_fault_cs : Ct := (2, 10, 1, (0, 0), fun as σ => (match as with
    | [.inr (.inr (.inl (k, 0, 9))), .inl a1] => Mo_fault_pre k a1 σ
    | _ => False), fun as σ r σ' => (match as with
    | [.inr (.inr (.inl (k, 0, 9))), .inl a1] => Mo_fault_post k a1 σ r σ'
    | _ => False))
theorem Mo_fault_w : ∀ w ∈ ([.instanceMethod yX9_fault, .selects yX9_fault.cls yX9_fault yX9_fault, .initialized yX9_fault.cls, .code yX9_fault cX9_fault 2 (some .int)] : List Cond), w ∈ ax_tb := ax_w4 (ax_m7 72 (by decide +kernel) rfl) (ax_m7 73 (by decide +kernel) rfl) (ax_m1 10 (by decide +kernel) rfl) (ax_m7 74 (by decide +kernel) rfl)
theorem Mo_fault_ds : yX9_fault.cls ≠ "java/lang/invoke/MethodHandle" ∧ yX9_fault.cls ≠ "java/lang/invoke/VarHandle" ∧ (parseMethodDescriptor yX9_fault.desc).map (fun d => d.parameters.length) = some 1 := by decide +kernel
def Mo_fault_vc : Prop := ∀ (k : Nat) (a1 : Int) (σ : Hp), ax_H σ → Mo_fault_pre k a1 σ →
  (¬ a1 = 0 →
    (¬ a1 = 1 →
      Mo_fault_post k a1 σ (-1) σ) ∧
    (¬ (¬ a1 = 1) →
      Mo_fault_post k a1 σ (σ k 3) σ)) ∧
  (¬ (¬ a1 = 0) →
    Mo_fault_post k a1 σ (σ k 2) σ)
theorem Mo_fault_p : Mo_fault_vc := by
  intro k a σ hH hp
  obtain ⟨rfl, hP⟩ := hp
  refine ⟨fun h => ⟨fun h2 => om0 hP.1 (fun d => ?_), fun h2 => om0 hP.1 (fun d => ?_)⟩, fun h => om0 hP.1 (fun d => ?_)⟩
  · show _ = _; rw [if_neg h, if_neg h2]
  · show _ = _; rw [if_neg h, if_pos (Classical.not_not.mp h2)]; rfl
  · show _ = _; rw [if_pos (Classical.not_not.mp h)]; rfl
def Mo_fault_I : List AV → Hp → Nat → Nat → List AV → List AV → Hp → Prop := fun as σ0 pc n st ls σ => (match as with
    | [.inr (.inr (.inl (k, 0, 9))), .inl a1] => False
    | _ => False)
def Mo_fault_ct : Nat → Ct := fun n => match n with
  | _ => Mo_fault_cs
set_option maxRecDepth 20000 in
set_option maxHeartbeats 4000000 in
theorem Mo_fault_met {l : Launch} {D : va_G} {ad : Nat → Nat} {ca : Nat → ClassId} {L : Nat} {fx : Nat → Int} : ax_MC l D ad ca L fx yX9_fault cX9_fault 2 (some .int) 1 Mo_fault_cs := by
  refine ax_met (oc := 9) (ct := Mo_fault_ct) (calls := Mo_fault_cl) (bs := Mo_fault_bk) (cut := fun pc => false) (f := 5) (I := Mo_fault_I) (by decide) rfl rfl Mo_fault_ck (fun _ h => absurd h List.not_mem_nil) ?_ ?_
  · intro as σ0 hp hH
    match as, hp with
    | [.inr (.inr (.inl (k, 0, 9))), .inl a1], hp => exact ⟨rfl, Mo_fault_p k a1 σ0 hH hp⟩
  · intro as σ0 hp n pc st ls σ hH hI
    match as, hp, hI with
    | [.inr (.inr (.inl (k, 0, 9))), .inl a1], hp, hI => exact False.elim hI
def Mo_hair_pre (k : Nat) (σ : Hp) : Prop := k = 67 ∧ MP σ
def Mo_hair_post (_k : Nat) (σ : Hp) (r : Int) (σ' : Hp) : Prop := MQo σ σ' ∧ ∀ d, s_hair (mA d σ) r (mA d σ')
def Mo_hair_bk : List (Nat × List Item) := [(0, [(.aload_n 0, 1, [], []), (.getfield 85, 3, [9, 46, 4, 23, 1, 16], []), (.bipush 12, 2, [], []), (.iaload, 1, [], []), (.ireturn, 1, [], [])])]
def Mo_hair_cl : List (Instr × Nat) := []
set_option maxRecDepth 20000 in
theorem Mo_hair_ck : Mo_hair_bk.all (fun b => ax_chB 9 1 cX9_hair Mo_hair_cl b.1 b.2) = true := by decide +kernel
def Mo_hair_cs : Ct := (1, 10, 1, (0, 0), fun as σ => (match as with
    | [.inr (.inr (.inl (k, 0, 9)))] => Mo_hair_pre k σ
    | _ => False), fun as σ r σ' => (match as with
    | [.inr (.inr (.inl (k, 0, 9)))] => Mo_hair_post k σ r σ'
    | _ => False))
theorem Mo_hair_w : ∀ w ∈ ([.instanceMethod yX9_hair, .selects yX9_hair.cls yX9_hair yX9_hair, .initialized yX9_hair.cls, .code yX9_hair cX9_hair 1 (some .int)] : List Cond), w ∈ ax_tb := ax_w4 (ax_m7 95 (by decide +kernel) rfl) (ax_m7 96 (by decide +kernel) rfl) (ax_m1 10 (by decide +kernel) rfl) (ax_m7 97 (by decide +kernel) rfl)
theorem Mo_hair_ds : yX9_hair.cls ≠ "java/lang/invoke/MethodHandle" ∧ yX9_hair.cls ≠ "java/lang/invoke/VarHandle" ∧ (parseMethodDescriptor yX9_hair.desc).map (fun d => d.parameters.length) = some 0 := by decide +kernel
def Mo_hair_vc : Prop := ∀ (k : Nat) (σ : Hp), ax_H σ → Mo_hair_pre k σ →
  (0 ≤ (12 : Int) ∧ (12 : Int) < 16) ∧
  Mo_hair_post k σ (σ (k + 23) 12) σ
theorem Mo_hair_p : Mo_hair_vc := by
  intro k σ hH hp
  obtain ⟨rfl, hP⟩ := hp
  exact ⟨by decide, om0 hP.1 (fun d => rfl)⟩
def Mo_hair_I : List AV → Hp → Nat → Nat → List AV → List AV → Hp → Prop := fun as σ0 pc n st ls σ => (match as with
    | [.inr (.inr (.inl (k, 0, 9)))] => False
    | _ => False)
def Mo_hair_ct : Nat → Ct := fun n => match n with
  | _ => Mo_hair_cs
set_option maxRecDepth 20000 in
set_option maxHeartbeats 4000000 in
theorem Mo_hair_met {l : Launch} {D : va_G} {ad : Nat → Nat} {ca : Nat → ClassId} {L : Nat} {fx : Nat → Int} : ax_MC l D ad ca L fx yX9_hair cX9_hair 1 (some .int) 1 Mo_hair_cs := by
  refine ax_met (oc := 9) (ct := Mo_hair_ct) (calls := Mo_hair_cl) (bs := Mo_hair_bk) (cut := fun pc => false) (f := 2) (I := Mo_hair_I) (by decide) rfl rfl Mo_hair_ck (fun _ h => absurd h List.not_mem_nil) ?_ ?_
  · intro as σ0 hp hH
    match as, hp with
    | [.inr (.inr (.inl (k, 0, 9)))], hp => exact ⟨rfl, Mo_hair_p k σ0 hH hp⟩
  · intro as σ0 hp n pc st ls σ hH hI
    match as, hp, hI with
    | [.inr (.inr (.inl (k, 0, 9)))], hp, hI => exact False.elim hI
/-- the air is what n days make of a state -/
def Rn (σ0 σ : Hp) (s : Sta) (a : Int) (i : Nat) : Prop := AP σ ∧ (∀ d, famM d σ = famM d σ0) ∧ (∀ d, airM σ = itr (famM d σ0) a s i) ∧ s.2.2.2.1 ≤ 999
theorem Rn.d {σ0 σ : Hp} {s : Sta} {a : Int} {i : Nat} (h : Rn σ0 σ s a i) (hi : i ≤ 1000) : σ 91 14 < 100000 := by
  have e2 : σ 91 14 = (itr (famM 0 σ0) a s i).2.2.2.1 := congrArg (fun s : Sta => s.2.2.2.1) (h.2.2.1 0)
  rw [itr_day] at e2
  have := h.2.2.2
  omega
theorem Rn.h {σ0 σ : Hp} {s : Sta} {a : Int} {i : Nat} (h : Rn σ0 σ s a i) (d : Int) : σ 91 12 = (itr (famM d σ0) a s i).2.2.1 := congrArg (fun s : Sta => s.2.2.1) (h.2.2.1 d)
theorem Rn.day {σ0 σ : Hp} {s : Sta} {i : Nat} (h : Rn σ0 σ s 0 i) (hi : i ≤ 1000) : Mo_goDay_pre 67 σ ∧ ∀ σ1, Mo_goDay_post 67 σ σ1 → Fr af σ σ1 ∧ Rn σ0 σ1 s 0 (i + 1) := by
  refine ⟨⟨rfl, h.1, h.d hi⟩, ?_⟩
  rintro σ1 ⟨g1, g2, g3⟩
  have e67 : σ1 67 = σ 67 := g1 67 (by decide)
  have K := h.1.1.keep (σ' := σ1) (by rw [e67]) (by rw [e67]) (by rw [e67]) (fun c hc => g1 c (by simp [af]; omega))
  exact ⟨g1, g3, fun d => by rw [K.2 d, h.2.1 d], fun d => by rw [g2 d, h.2.1 d, h.2.2.1 d]; rfl, h.2.2.2⟩
theorem Rn.nday {σ0 σ : Hp} {s : Sta} {i : Nat} (h : Rn σ0 σ s (-1) i) (hi : i ≤ 1000) : Mo_goNewsDay_pre 67 σ ∧ ∀ σ1, Mo_goNewsDay_post 67 σ σ1 → Fr af σ σ1 ∧ Rn σ0 σ1 s (-1) (i + 1) := by
  refine ⟨⟨rfl, h.1, h.d hi⟩, ?_⟩
  rintro σ1 ⟨g1, g2, g3⟩
  have e67 : σ1 67 = σ 67 := g1 67 (by decide)
  have K := h.1.1.keep (σ' := σ1) (by rw [e67]) (by rw [e67]) (by rw [e67]) (fun c hc => g1 c (by simp [af]; omega))
  exact ⟨g1, g3, fun d => by rw [K.2 d, h.2.1 d], fun d => by rw [g2 d, h.2.1 d, h.2.2.1 d]; rfl, h.2.2.2⟩
theorem NP.rn {σ σ1 : Hp} (h : NP σ) (g : Mo_load_post 67 σ σ1) (a : Int) : Fr af σ σ1 ∧ Rn σ σ1 (nowM σ) a 0 :=
  ⟨g.1.mono (by simp [af]), (h.load g).1, (h.load g).2.1, fun _ => (h.load g).2.2, h.2.1.2.2.1.2⟩
def Mo_will_pre (k : Nat) (_a : Int) (σ : Hp) : Prop := k = 67 ∧ MP σ
def Mo_will_post (_k : Nat) (a : Int) (σ : Hp) (r : Int) (σ' : Hp) : Prop := MQo σ σ' ∧ ∀ d, s_will (mA d σ) a r (mA d σ')
def Mo_will_I19 (_k : Nat) (a : Int) (σ0 : Hp) (n : Nat) (v2 : Int) (σ : Hp) : Prop := ∃ i : Nat, v2 = i ∧ (i : Int) ≤ a ∧ a ≤ 60 ∧ n = 60 - i ∧ Fr af σ0 σ ∧ Rn σ0 σ (nowM σ0) (-1) i
def Mo_will_bk : List (Nat × List Item) := [(0, [(.iload_n 1, 1, [], []), (.iconst 0, 1, [], []), (.bipush 60, 2, [], []), (.invokestatic 379, 3, [0], []), (.ifCond .ne 6, 3, [13], []), (.bipush (-2), 2, [], []), (.ireturn, 1, [], [])]),
  (13, [(.aload_n 0, 1, [], []), (.invokevirtual 401, 3, [1], []), (.iconst 0, 1, [], []), (.istore_n 2, 1, [], [])]),
  (19, [(.iload_n 2, 1, [], []), (.iload_n 1, 1, [], []), (.if_icmp .ge 13, 3, [34], []), (.aload_n 0, 1, [], []), (.invokevirtual 410, 3, [2], []), (.iinc 2 1, 3, [], []), (.goto (-12), 3, [19], [])]),
  (34, [(.aload_n 0, 1, [], []), (.getfield 88, 3, [9, 47, 4, 24, 1, 16], []), (.bipush 12, 2, [], []), (.iaload, 1, [], []), (.ireturn, 1, [], [])])]
def Mo_will_cl : List (Instr × Nat) := [(.invokestatic 379, 0), (.invokevirtual 401, 1), (.invokevirtual 410, 2)]
set_option maxRecDepth 20000 in
theorem Mo_will_ck : Mo_will_bk.all (fun b => ax_chB 9 3 cX9_will Mo_will_cl b.1 b.2) = true := by decide +kernel
def Mo_will_cs : Ct := (2, 10, 1, (0, 0), fun as σ => (match as with
    | [.inr (.inr (.inl (k, 0, 9))), .inl a1] => Mo_will_pre k a1 σ
    | _ => False), fun as σ r σ' => (match as with
    | [.inr (.inr (.inl (k, 0, 9))), .inl a1] => Mo_will_post k a1 σ r σ'
    | _ => False))
theorem Mo_will_w : ∀ w ∈ ([.instanceMethod yX9_will, .selects yX9_will.cls yX9_will yX9_will, .initialized yX9_will.cls, .code yX9_will cX9_will 3 (some .int)] : List Cond), w ∈ ax_tb := ax_w4 (ax_m7 178 (by decide +kernel) rfl) (ax_m7 179 (by decide +kernel) rfl) (ax_m1 10 (by decide +kernel) rfl) (ax_m7 180 (by decide +kernel) rfl)
theorem Mo_will_ds : yX9_will.cls ≠ "java/lang/invoke/MethodHandle" ∧ yX9_will.cls ≠ "java/lang/invoke/VarHandle" ∧ (parseMethodDescriptor yX9_will.desc).map (fun d => d.parameters.length) = some 1 := by decide +kernel
def Mo_will_vc : Prop := ∀ (k : Nat) (a1 : Int) (σ : Hp), ax_H σ → Mo_will_pre k a1 σ →
  Mo_isIn_pre a1 0 60 σ ∧
  ∀ (r2 : Int) (σ1 : Hp), Mo_isIn_post a1 0 60 σ r2 σ1 →
  (¬ r2 = 0 →
    Mo_load_pre k σ1 ∧
    ∀ σ3 : Hp, Mo_load_post k σ1 σ3 →
    ∃ n' : Nat, k = k ∧ a1 = a1 ∧ Mo_will_I19 k a1 σ n' 0 σ3) ∧
  (¬ (¬ r2 = 0) →
    Mo_will_post k a1 σ (-2) σ1)
def Mo_will_vc19 : Prop := ∀ (k : Nat) (a1 : Int) (σ0 : Hp), Mo_will_pre k a1 σ0 → ∀ (n : Nat) (v2 : Int) (σ : Hp), ax_H σ → Mo_will_I19 k a1 σ0 n v2 σ →
  (a1 ≤ v2 →
    (0 ≤ (12 : Int) ∧ (12 : Int) < 16) ∧
    Mo_will_post k a1 σ0 (σ (k + 24) 12) σ) ∧
  (¬ (a1 ≤ v2) →
    Mo_goNewsDay_pre k σ ∧
    ∀ σ1 : Hp, Mo_goNewsDay_post k σ σ1 →
    ∃ n' : Nat, n' < n ∧ k = k ∧ a1 = a1 ∧ Mo_will_I19 k a1 σ0 n' (wr (v2 + 1)) σ1)
theorem Mo_will_p : Mo_will_vc := by
  intro k a σ hH hp
  obtain ⟨rfl, hP⟩ := hp
  refine ⟨trivial, ?_⟩
  rintro r2 σ1 ⟨rfl, rfl⟩
  refine ⟨fun h => ⟨rfl, ?_⟩, fun h => om0 hP.1 (fun d => ?_)⟩
  · intro σ3 g
    have hi := ite1 h
    exact ⟨60, rfl, rfl, 0, rfl, hi.1, hi.2, rfl, hP.np.rn g (-1)⟩
  · show _ = _; rw [if_neg (ite0' h)]
theorem Mo_will_p19 : Mo_will_vc19 := by
  intro k a σ0 hp n v2 σ hH hI
  obtain ⟨rfl, hP⟩ := hp
  obtain ⟨i, rfl, hi, ha, rfl, hf, hR⟩ := hI
  refine ⟨fun h => ⟨by decide, om1 hP.1 hf scm_af (fun d => ?_)⟩, fun h => ?_⟩
  · show _ = _
    rw [if_pos (by omega), show a.toNat = i by omega]
    exact hR.h d
  · obtain ⟨p1, p2⟩ := hR.nday (by omega)
    refine ⟨p1, fun σ1 g => ?_⟩
    obtain ⟨q1, q2⟩ := p2 σ1 g
    rw [wr1 (by omega) (by omega)]
    exact ⟨60 - (i + 1), by omega, rfl, rfl, i + 1, by simp, by omega, ha, rfl, hf.tr q1, q2⟩
def Mo_will_I : List AV → Hp → Nat → Nat → List AV → List AV → Hp → Prop := fun as σ0 pc n st ls σ => (match as with
    | [.inr (.inr (.inl (k, 0, 9))), .inl a1] => (bif Nat.beq pc 19 then (match st, ls with
      | [], [.inr (.inr (.inl (k', 0, 9))), .inl a1', .inl v2] => k = k' ∧ a1 = a1' ∧ Mo_will_I19 k a1 σ0 n v2 σ
      | _, _ => False) else False)
    | _ => False)
def Mo_will_ct : Nat → Ct := fun n => match n with
  | 0 => Mo_isIn_cs
  | 1 => Mo_load_cs
  | 2 => Mo_goNewsDay_cs
  | _ => Mo_will_cs
set_option maxRecDepth 20000 in
set_option maxHeartbeats 4000000 in
theorem Mo_will_met {l : Launch} {D : va_G} {ad : Nat → Nat} {ca : Nat → ClassId} {L : Nat} {fx : Nat → Int} : ax_MC l D ad ca L fx yX9_will cX9_will 3 (some .int) 8 Mo_will_cs := by
  refine ax_met (oc := 9) (ct := Mo_will_ct) (calls := Mo_will_cl) (bs := Mo_will_bk) (cut := fun pc => Nat.beq pc 19) (f := 5) (I := Mo_will_I) (by decide) rfl rfl Mo_will_ck (List.forall_mem_cons.mpr ⟨ax_cwS Mo_isIn_met (by decide) (by decide) (ax_m7 83 (by decide +kernel) rfl) Mo_isIn_w rfl Mo_isIn_ds, List.forall_mem_cons.mpr ⟨ax_cwV Mo_load_met (by decide) (by decide) rfl (by decide) rfl (ax_m7 86 (by decide +kernel) rfl) Mo_load_w rfl Mo_load_ds, List.forall_mem_cons.mpr ⟨ax_cwV Mo_goNewsDay_met (by decide) (by decide) rfl (by decide) rfl (ax_m7 106 (by decide +kernel) rfl) Mo_goNewsDay_w rfl Mo_goNewsDay_ds, fun _ h => absurd h List.not_mem_nil⟩⟩⟩) ?_ ?_
  · intro as σ0 hp hH
    match as, hp with
    | [.inr (.inr (.inl (k, 0, 9))), .inl a1], hp => exact ⟨rfl, Mo_will_p k a1 σ0 hH hp⟩
  · intro as σ0 hp n pc st ls σ hH hI
    match as, hp, hI with
    | [.inr (.inr (.inl (k, 0, 9))), .inl a1], hp, hI =>
      rcases ax_bifE hI with ⟨hpc, hI⟩ | ⟨-, hI⟩
      · have := Nat.eq_of_beq_eq_true hpc
        subst this
        match st, ls, hI with
        | [], [.inr (.inr (.inl (k', 0, 9))), .inl a1', .inl v2], hI =>
          obtain ⟨rfl, rfl, hI⟩ := hI
          exact Mo_will_p19 k a1 σ0 hp n v2 σ hH hI
      exact False.elim hI
def Mo_cares_pre (k : Nat) (_a _b : Int) (σ : Hp) : Prop := k = 67 ∧ MP σ
def Mo_cares_post (_k : Nat) (a b : Int) (σ : Hp) (r : Int) (σ' : Hp) : Prop := MQo σ σ' ∧ ∀ d, s_cares (mA d σ) a b r (mA d σ')
def Mo_cares_bk : List (Nat × List Item) := [(0, [(.aload_n 0, 1, [], []), (.iload_n 1, 1, [], []), (.invokevirtual 398, 3, [0], []), (.ifCond .eq 13, 3, [18], []), (.iload_n 2, 1, [], []), (.iconst 0, 1, [], []), (.bipush 60, 2, [], []), (.invokestatic 379, 3, [1], []), (.ifCond .ne 5, 3, [20], [])]),
  (18, [(.iconst (-1), 1, [], []), (.ireturn, 1, [], [])]),
  (20, [(.aload_n 0, 1, [], []), (.iload_n 2, 1, [], []), (.invokevirtual 438, 3, [2], []), (.aload_n 0, 1, [], []), (.getfield 88, 3, [9, 47, 4, 24, 1, 16], []), (.iload_n 1, 1, [], []), (.iaload, 1, [], []), (.ireturn, 1, [], [])])]
def Mo_cares_cl : List (Instr × Nat) := [(.invokevirtual 398, 0), (.invokestatic 379, 1), (.invokevirtual 438, 2)]
set_option maxRecDepth 20000 in
theorem Mo_cares_ck : Mo_cares_bk.all (fun b => ax_chB 9 3 cX9_cares Mo_cares_cl b.1 b.2) = true := by decide +kernel
def Mo_cares_cs : Ct := (3, 10, 1, (0, 0), fun as σ => (match as with
    | [.inr (.inr (.inl (k, 0, 9))), .inl a1, .inl a2] => Mo_cares_pre k a1 a2 σ
    | _ => False), fun as σ r σ' => (match as with
    | [.inr (.inr (.inl (k, 0, 9))), .inl a1, .inl a2] => Mo_cares_post k a1 a2 σ r σ'
    | _ => False))
theorem Mo_cares_w : ∀ w ∈ ([.instanceMethod yX9_cares, .selects yX9_cares.cls yX9_cares yX9_cares, .initialized yX9_cares.cls, .code yX9_cares cX9_cares 3 (some .int)] : List Cond), w ∈ ax_tb := ax_w4 (ax_m7 182 (by decide +kernel) rfl) (ax_m7 183 (by decide +kernel) rfl) (ax_m1 10 (by decide +kernel) rfl) (ax_m7 184 (by decide +kernel) rfl)
theorem Mo_cares_ds : yX9_cares.cls ≠ "java/lang/invoke/MethodHandle" ∧ yX9_cares.cls ≠ "java/lang/invoke/VarHandle" ∧ (parseMethodDescriptor yX9_cares.desc).map (fun d => d.parameters.length) = some 2 := by decide +kernel
def Mo_cares_vc : Prop := ∀ (k : Nat) (a1 : Int) (a2 : Int) (σ : Hp), ax_H σ → Mo_cares_pre k a1 a2 σ →
  Mo_isPerson_pre k a1 σ ∧
  ∀ (r2 : Int) (σ1 : Hp), Mo_isPerson_post k a1 σ r2 σ1 →
  (r2 = 0 →
    Mo_cares_post k a1 a2 σ (-1) σ1) ∧
  (¬ (r2 = 0) →
    Mo_isIn_pre a2 0 60 σ1 ∧
    ∀ (r4 : Int) (σ3 : Hp), Mo_isIn_post a2 0 60 σ1 r4 σ3 →
    (¬ r4 = 0 →
      Mo_goFar_pre k a2 σ3 ∧
      ∀ σ5 : Hp, Mo_goFar_post k a2 σ3 σ5 →
      (0 ≤ a1 ∧ a1 < 16) ∧
      Mo_cares_post k a1 a2 σ (σ5 (k + 24) a1.toNat) σ5) ∧
    (¬ (¬ r4 = 0) →
      Mo_cares_post k a1 a2 σ (-1) σ3))
theorem Mo_cares_p : Mo_cares_vc := by
  intro k a b σ hH hp
  obtain ⟨rfl, hP⟩ := hp
  have hn := hP.n6
  refine ⟨⟨rfl, hn⟩, ?_⟩
  rintro r2 σ1 ⟨rfl, rfl⟩
  refine ⟨fun h => om0 hP.1 (fun d => ?_), fun h => ⟨trivial, ?_⟩⟩
  · show _ = _; rw [if_neg (fun z => ite0 h z.1)]
  · have h1 := ite1 h
    rintro r4 σ3 ⟨rfl, rfl⟩
    refine ⟨fun h2 => ⟨⟨rfl, (ite1 h2).1, (ite1 h2).2, hP.np⟩, ?_⟩, fun h2 => om0 hP.1 (fun d => ?_)⟩
    · rintro σ5 ⟨g1, g2, g3⟩
      refine ⟨⟨h1.1, by omega⟩, om1 hP.1 g1 scm_af (fun d => ?_)⟩
      have e : σ5 91 a.toNat = (airM σ5).1 a.toNat := (air_c (by omega)).symm
      show σ5 91 a.toNat = _
      rw [e, g2 d]
      exact (if_pos ⟨h1, ite1 h2⟩).symm
    · show _ = _; rw [if_neg (fun z => ite0' h2 z.2)]
def Mo_cares_I : List AV → Hp → Nat → Nat → List AV → List AV → Hp → Prop := fun as σ0 pc n st ls σ => (match as with
    | [.inr (.inr (.inl (k, 0, 9))), .inl a1, .inl a2] => False
    | _ => False)
def Mo_cares_ct : Nat → Ct := fun n => match n with
  | 0 => Mo_isPerson_cs
  | 1 => Mo_isIn_cs
  | 2 => Mo_goFar_cs
  | _ => Mo_cares_cs
set_option maxRecDepth 20000 in
set_option maxHeartbeats 4000000 in
theorem Mo_cares_met {l : Launch} {D : va_G} {ad : Nat → Nat} {ca : Nat → ClassId} {L : Nat} {fx : Nat → Int} : ax_MC l D ad ca L fx yX9_cares cX9_cares 3 (some .int) 9 Mo_cares_cs := by
  refine ax_met (oc := 9) (ct := Mo_cares_ct) (calls := Mo_cares_cl) (bs := Mo_cares_bk) (cut := fun pc => false) (f := 4) (I := Mo_cares_I) (by decide) rfl rfl Mo_cares_ck (List.forall_mem_cons.mpr ⟨ax_cwV Mo_isPerson_met (by decide) (by decide) rfl (by decide) rfl (ax_m7 79 (by decide +kernel) rfl) Mo_isPerson_w rfl Mo_isPerson_ds, List.forall_mem_cons.mpr ⟨ax_cwS Mo_isIn_met (by decide) (by decide) (ax_m7 83 (by decide +kernel) rfl) Mo_isIn_w rfl Mo_isIn_ds, List.forall_mem_cons.mpr ⟨ax_cwV Mo_goFar_met (by decide) (by decide) rfl (by decide) rfl (ax_m7 185 (by decide +kernel) rfl) Mo_goFar_w rfl Mo_goFar_ds, fun _ h => absurd h List.not_mem_nil⟩⟩⟩) ?_ ?_
  · intro as σ0 hp hH
    match as, hp with
    | [.inr (.inr (.inl (k, 0, 9))), .inl a1, .inl a2], hp => exact ⟨rfl, Mo_cares_p k a1 a2 σ0 hH hp⟩
  · intro as σ0 hp n pc st ls σ hH hI
    match as, hp, hI with
    | [.inr (.inr (.inl (k, 0, 9))), .inl a1, .inl a2], hp, hI => exact False.elim hI
def Mo_next_pre (k : Nat) (σ : Hp) : Prop := k = 67 ∧ MP σ
def Mo_next_post (_k : Nat) (σ : Hp) (r : Int) (σ' : Hp) : Prop := (MQo σ σ' ∧ ∀ d, s_next (mA d σ) r (mA d σ')) ∧ Fr af σ σ' ∧ ∀ d, r = (itr (famM d σ) 0 (nowM σ) 1).2.2.1
def Mo_next_bk : List (Nat × List Item) := [(0, [(.aload_n 0, 1, [], []), (.iconst 1, 1, [], []), (.invokevirtual 438, 3, [0], []), (.aload_n 0, 1, [], []), (.getfield 88, 3, [9, 47, 4, 24, 1, 16], []), (.bipush 12, 2, [], []), (.iaload, 1, [], []), (.ireturn, 1, [], [])])]
def Mo_next_cl : List (Instr × Nat) := [(.invokevirtual 438, 0)]
set_option maxRecDepth 20000 in
theorem Mo_next_ck : Mo_next_bk.all (fun b => ax_chB 9 1 cX9_next Mo_next_cl b.1 b.2) = true := by decide +kernel
def Mo_next_cs : Ct := (1, 10, 1, (0, 0), fun as σ => (match as with
    | [.inr (.inr (.inl (k, 0, 9)))] => Mo_next_pre k σ
    | _ => False), fun as σ r σ' => (match as with
    | [.inr (.inr (.inl (k, 0, 9)))] => Mo_next_post k σ r σ'
    | _ => False))
theorem Mo_next_w : ∀ w ∈ ([.instanceMethod yX9_next, .selects yX9_next.cls yX9_next yX9_next, .initialized yX9_next.cls, .code yX9_next cX9_next 1 (some .int)] : List Cond), w ∈ ax_tb := ax_w4 (ax_m7 194 (by decide +kernel) rfl) (ax_m7 195 (by decide +kernel) rfl) (ax_m1 10 (by decide +kernel) rfl) (ax_m7 196 (by decide +kernel) rfl)
theorem Mo_next_ds : yX9_next.cls ≠ "java/lang/invoke/MethodHandle" ∧ yX9_next.cls ≠ "java/lang/invoke/VarHandle" ∧ (parseMethodDescriptor yX9_next.desc).map (fun d => d.parameters.length) = some 0 := by decide +kernel
def Mo_next_vc : Prop := ∀ (k : Nat) (σ : Hp), ax_H σ → Mo_next_pre k σ →
  Mo_goFar_pre k 1 σ ∧
  ∀ σ1 : Hp, Mo_goFar_post k 1 σ σ1 →
  (0 ≤ (12 : Int) ∧ (12 : Int) < 16) ∧
  Mo_next_post k σ (σ1 (k + 24) 12) σ1
theorem Mo_next_p : Mo_next_vc := by
  intro k σ hH hp
  obtain ⟨rfl, hP⟩ := hp
  refine ⟨⟨rfl, by decide, by decide, hP.np⟩, ?_⟩
  rintro σ1 ⟨g1, g2, g3⟩
  have e : ∀ d, σ1 91 12 = (itr (famM d σ) 0 (nowM σ) 1).2.2.1 := fun d => congrArg (fun s : Sta => s.2.2.1) (g2 d)
  exact ⟨by decide, om1 hP.1 g1 scm_af e, g1, e⟩
def Mo_next_I : List AV → Hp → Nat → Nat → List AV → List AV → Hp → Prop := fun as σ0 pc n st ls σ => (match as with
    | [.inr (.inr (.inl (k, 0, 9)))] => False
    | _ => False)
def Mo_next_ct : Nat → Ct := fun n => match n with
  | 0 => Mo_goFar_cs
  | _ => Mo_next_cs
set_option maxRecDepth 20000 in
set_option maxHeartbeats 4000000 in
theorem Mo_next_met {l : Launch} {D : va_G} {ad : Nat → Nat} {ca : Nat → ClassId} {L : Nat} {fx : Nat → Int} : ax_MC l D ad ca L fx yX9_next cX9_next 1 (some .int) 9 Mo_next_cs := by
  refine ax_met (oc := 9) (ct := Mo_next_ct) (calls := Mo_next_cl) (bs := Mo_next_bk) (cut := fun pc => false) (f := 2) (I := Mo_next_I) (by decide) rfl rfl Mo_next_ck (List.forall_mem_cons.mpr ⟨ax_cwV Mo_goFar_met (by decide) (by decide) rfl (by decide) rfl (ax_m7 185 (by decide +kernel) rfl) Mo_goFar_w rfl Mo_goFar_ds, fun _ h => absurd h List.not_mem_nil⟩) ?_ ?_
  · intro as σ0 hp hH
    match as, hp with
    | [.inr (.inr (.inl (k, 0, 9)))], hp => exact ⟨rfl, Mo_next_p k σ0 hH hp⟩
  · intro as σ0 hp n pc st ls σ hH hI
    match as, hp, hI with
    | [.inr (.inr (.inl (k, 0, 9)))], hp, hI => exact False.elim hI
def Mo_isSpared_pre (k : Nat) (_a b : Int) (σ : Hp) : Prop := k = 67 ∧ 0 ≤ b ∧ b ≤ 60 ∧ AP σ ∧ σ 91 14 ≤ 999
def Mo_isSpared_post (_k : Nat) (a b : Int) (σ : Hp) (r : Int) (σ' : Hp) : Prop := Fr af σ σ' ∧ ((r = 1 ∧ ∀ d, Spd (famM d σ) (airM σ) a b.toNat) ∨ (r = 0 ∧ ∀ d, ¬ Spd (famM d σ) (airM σ) a b.toNat))
def Mo_isSpared_I5 (_k : Nat) (a b : Int) (σ0 : Hp) (n : Nat) (v3 v4 : Int) (σ : Hp) : Prop := ∃ i : Nat, v4 = i ∧ (i : Int) ≤ b ∧ n = 60 - i ∧ Fr af σ0 σ ∧ Rn σ0 σ (airM σ0) 0 i ∧ ((v3 = 1 ∧ ∀ d, Spd (famM d σ0) (airM σ0) a i) ∨ (v3 = 0 ∧ ∀ d, ¬ Spd (famM d σ0) (airM σ0) a b.toNat))
def Mo_isSpared_bk : List (Nat × List Item) := [(0, [(.iconst 1, 1, [], []), (.istore_n 3, 1, [], []), (.iconst 0, 1, [], []), (.istore 4, 2, [], [])]),
  (5, [(.iload 4, 2, [], []), (.iload_n 2, 1, [], []), (.if_icmp .ge 34, 3, [42], []), (.iload_n 3, 1, [], []), (.ifCond .eq 30, 3, [42], []), (.aload_n 0, 1, [], []), (.invokevirtual 435, 3, [0], []), (.aload_n 0, 1, [], []), (.getfield 88, 3, [9, 47, 4, 24, 1, 16], []), (.bipush 12, 2, [], []), (.iaload, 1, [], []), (.iload_n 1, 1, [], []), (.if_icmp .eq 7, 3, [34], []), (.iconst 1, 1, [], []), (.goto 4, 3, [35], [])]),
  (34, [(.iconst 0, 1, [], [])]),
  (35, [(.istore_n 3, 1, [], []), (.iinc 4 1, 3, [], []), (.goto (-34), 3, [5], [])]),
  (42, [(.iload_n 3, 1, [], []), (.ireturn, 1, [], [])])]
def Mo_isSpared_cl : List (Instr × Nat) := [(.invokevirtual 435, 0)]
set_option maxRecDepth 20000 in
theorem Mo_isSpared_ck : Mo_isSpared_bk.all (fun b => ax_chB 9 5 cX9_isSpared Mo_isSpared_cl b.1 b.2) = true := by decide +kernel
def Mo_isSpared_cs : Ct := (3, 10, 2, (0, 0), fun as σ => (match as with
    | [.inr (.inr (.inl (k, 0, 9))), .inl a1, .inl a2] => Mo_isSpared_pre k a1 a2 σ
    | _ => False), fun as σ r σ' => (match as with
    | [.inr (.inr (.inl (k, 0, 9))), .inl a1, .inl a2] => Mo_isSpared_post k a1 a2 σ r σ'
    | _ => False))
theorem Mo_isSpared_w : ∀ w ∈ ([.instanceMethod yX9_isSpared, .selects yX9_isSpared.cls yX9_isSpared yX9_isSpared, .initialized yX9_isSpared.cls, .code yX9_isSpared cX9_isSpared 5 (some .boolean)] : List Cond), w ∈ ax_tb := ax_w4 (ax_m7 203 (by decide +kernel) rfl) (ax_m0 55 (by decide +kernel) rfl) (ax_m1 10 (by decide +kernel) rfl) (ax_m7 204 (by decide +kernel) rfl)
theorem Mo_isSpared_ds : yX9_isSpared.cls ≠ "java/lang/invoke/MethodHandle" ∧ yX9_isSpared.cls ≠ "java/lang/invoke/VarHandle" ∧ (parseMethodDescriptor yX9_isSpared.desc).map (fun d => d.parameters.length) = some 2 := by decide +kernel
def Mo_isSpared_vc : Prop := ∀ (k : Nat) (a1 : Int) (a2 : Int) (σ : Hp), ax_H σ → Mo_isSpared_pre k a1 a2 σ →
  ∃ n' : Nat, k = k ∧ a1 = a1 ∧ a2 = a2 ∧ Mo_isSpared_I5 k a1 a2 σ n' 1 0 σ
def Mo_isSpared_vc5 : Prop := ∀ (k : Nat) (a1 : Int) (a2 : Int) (σ0 : Hp), Mo_isSpared_pre k a1 a2 σ0 → ∀ (n : Nat) (v3 : Int) (v4 : Int) (σ : Hp), ax_H σ → Mo_isSpared_I5 k a1 a2 σ0 n v3 v4 σ →
  (a2 ≤ v4 →
    (v3 = 0 ∨ v3 = 1) ∧ Mo_isSpared_post k a1 a2 σ0 v3 σ) ∧
  (¬ (a2 ≤ v4) →
    (v3 = 0 →
      (v3 = 0 ∨ v3 = 1) ∧ Mo_isSpared_post k a1 a2 σ0 v3 σ) ∧
    (¬ (v3 = 0) →
      Mo_goDay_pre k σ ∧
      ∀ σ1 : Hp, Mo_goDay_post k σ σ1 →
      (0 ≤ (12 : Int) ∧ (12 : Int) < 16) ∧
      (σ1 (k + 24) 12 = a1 →
        ∃ n' : Nat, n' < n ∧ k = k ∧ a1 = a1 ∧ a2 = a2 ∧ Mo_isSpared_I5 k a1 a2 σ0 n' 0 (wr (v4 + 1)) σ1) ∧
      (¬ (σ1 (k + 24) 12 = a1) →
        ∃ n' : Nat, n' < n ∧ k = k ∧ a1 = a1 ∧ a2 = a2 ∧ Mo_isSpared_I5 k a1 a2 σ0 n' 1 (wr (v4 + 1)) σ1)))
theorem Mo_isSpared_p : Mo_isSpared_vc := by
  intro k a b σ hH hp
  obtain ⟨rfl, b0, b6, hA, hd⟩ := hp
  exact ⟨60, rfl, rfl, rfl, 0, rfl, b0, rfl, Fr.rf, ⟨hA, fun _ => rfl, fun _ => rfl, hd⟩, Or.inl ⟨rfl, fun d i hi => absurd hi (Nat.not_lt_zero i)⟩⟩
theorem Mo_isSpared_p5 : Mo_isSpared_vc5 := by
  intro k a b σ0 hp n v3 v4 σ hH hI
  obtain ⟨rfl, b0, b6, hA, hd⟩ := hp
  obtain ⟨i, rfl, hi, rfl, hf, hR, hv⟩ := hI
  have fin0 : v3 = 0 → (v3 = 0 ∨ v3 = 1) ∧ Mo_isSpared_post 67 a b σ0 v3 σ := by
    intro h
    rcases hv with ⟨z, -⟩ | ⟨-, z⟩
    · omega
    · exact ⟨Or.inl h, hf, Or.inr ⟨h, z⟩⟩
  refine ⟨fun h => ?_, fun h => ⟨fin0, fun h2 => ?_⟩⟩
  · rcases hv with ⟨z, hz⟩ | ⟨z, hz⟩
    · exact ⟨Or.inr z, hf, Or.inl ⟨z, by rw [show b.toNat = i by omega]; exact hz⟩⟩
    · exact fin0 z
  · obtain ⟨p1, p2⟩ := hR.day (by omega)
    refine ⟨p1, fun σ1 g => ?_⟩
    obtain ⟨q1, q2⟩ := p2 σ1 g
    rcases hv with ⟨-, hz⟩ | ⟨z, hz⟩
    · rw [wr1 (by omega) (by omega)]
      refine ⟨by decide, fun h3 => ⟨60 - (i + 1), by omega, rfl, rfl, rfl, i + 1, by simp, by omega, rfl, hf.tr q1, q2, Or.inr ⟨rfl, fun d z => ?_⟩⟩, fun h3 => ⟨60 - (i + 1), by omega, rfl, rfl, rfl, i + 1, by simp, by omega, rfl, hf.tr q1, q2, Or.inl ⟨rfl, fun d j hj => ?_⟩⟩⟩
      · refine z i (by omega) ?_
        rw [← q2.h d]; exact h3
      · by_cases e : j = i
        · rw [e, ← q2.h d]; exact h3
        · exact hz d j (by omega)
    · exact absurd z h2
def Mo_isSpared_I : List AV → Hp → Nat → Nat → List AV → List AV → Hp → Prop := fun as σ0 pc n st ls σ => (match as with
    | [.inr (.inr (.inl (k, 0, 9))), .inl a1, .inl a2] => (bif Nat.beq pc 5 then (match st, ls with
      | [], [.inr (.inr (.inl (k', 0, 9))), .inl a1', .inl a2', .inl v3, .inl v4] => k = k' ∧ a1 = a1' ∧ a2 = a2' ∧ Mo_isSpared_I5 k a1 a2 σ0 n v3 v4 σ
      | _, _ => False) else False)
    | _ => False)
def Mo_isSpared_ct : Nat → Ct := fun n => match n with
  | 0 => Mo_goDay_cs
  | _ => Mo_isSpared_cs
set_option maxRecDepth 20000 in
set_option maxHeartbeats 4000000 in
theorem Mo_isSpared_met {l : Launch} {D : va_G} {ad : Nat → Nat} {ca : Nat → ClassId} {L : Nat} {fx : Nat → Int} : ax_MC l D ad ca L fx yX9_isSpared cX9_isSpared 5 (some .boolean) 8 Mo_isSpared_cs := by
  refine ax_met (oc := 9) (ct := Mo_isSpared_ct) (calls := Mo_isSpared_cl) (bs := Mo_isSpared_bk) (cut := fun pc => Nat.beq pc 5) (f := 6) (I := Mo_isSpared_I) (by decide) rfl rfl Mo_isSpared_ck (List.forall_mem_cons.mpr ⟨ax_cwV Mo_goDay_met (by decide) (by decide) rfl (by decide) rfl (ax_m7 189 (by decide +kernel) rfl) Mo_goDay_w rfl Mo_goDay_ds, fun _ h => absurd h List.not_mem_nil⟩) ?_ ?_
  · intro as σ0 hp hH
    match as, hp with
    | [.inr (.inr (.inl (k, 0, 9))), .inl a1, .inl a2], hp => exact ⟨rfl, Mo_isSpared_p k a1 a2 σ0 hH hp⟩
  · intro as σ0 hp n pc st ls σ hH hI
    match as, hp, hI with
    | [.inr (.inr (.inl (k, 0, 9))), .inl a1, .inl a2], hp, hI =>
      rcases ax_bifE hI with ⟨hpc, hI⟩ | ⟨-, hI⟩
      · have := Nat.eq_of_beq_eq_true hpc
        subst this
        match st, ls, hI with
        | [], [.inr (.inr (.inl (k', 0, 9))), .inl a1', .inl a2', .inl v3, .inl v4], hI =>
          obtain ⟨rfl, rfl, rfl, hI⟩ := hI
          exact Mo_isSpared_p5 k a1 a2 σ0 hp n v3 v4 σ hH hI
      exact False.elim hI
theorem air_up {σ : Hp} {b : Nat} {v : Int} (hb : b < 6) : airM (hp σ 91 b v) = (va_up (airM σ).1 b v, (airM σ).2) := by
  show stR (hp σ 91 b v 91) 0 = _
  unfold stR
  refine Prod.ext ?_ (Prod.ext (tr_ext fun j hj => hp_r2 (fun z => by omega)) ?_)
  · funext j
    show tr 6 (fun j => hp σ 91 b v 91 (0 + j)) j = va_up (tr 6 (fun j => σ 91 (0 + j))) b v j
    by_cases e : j = b
    · rw [e, vu_at, tr_in hb, Nat.zero_add, hp_r1]
    · rw [vu_ne e]
      by_cases hj : j < 6
      · rw [tr_in hj, tr_in hj, Nat.zero_add, hp_r2 (fun z => e z.2)]
      · rw [tr_out (by omega), tr_out (by omega)]
  · show (hp σ 91 b v 91 12, hp σ 91 b v 91 14, hp σ 91 b v 91 15, hp σ 91 b v 91 13) = (σ 91 12, σ 91 14, σ 91 15, σ 91 13)
    rw [hp_r2 (fun z => by omega), hp_r2 (fun z => by omega), hp_r2 (fun z => by omega), hp_r2 (fun z => by omega)]
theorem air_wk {σ : Hp} {b : Nat} {v : Int} (hb : b < 6) : airM (hp σ 91 (6 + b) v) = wkn (airM σ) b v := by
  show stR (hp σ 91 (6 + b) v 91) 0 = _
  unfold stR
  refine Prod.ext (tr_ext fun j hj => hp_r2 (fun z => by omega)) (Prod.ext ?_ ?_)
  · funext j
    show tr 6 (fun j => hp σ 91 (6 + b) v 91 (0 + 6 + j)) j = va_up (tr 6 (fun j => σ 91 (0 + 6 + j))) b v j
    by_cases e : j = b
    · rw [e, vu_at, tr_in hb, Nat.zero_add, hp_r1]
    · rw [vu_ne e]
      by_cases hj : j < 6
      · rw [tr_in hj, tr_in hj, Nat.zero_add, hp_r2 (fun z => by omega)]
      · rw [tr_out (by omega), tr_out (by omega)]
  · show (hp σ 91 (6 + b) v 91 12, hp σ 91 (6 + b) v 91 14, hp σ 91 (6 + b) v 91 15, hp σ 91 (6 + b) v 91 13) = (σ 91 12, σ 91 14, σ 91 15, σ 91 13)
    rw [hp_r2 (fun z => by omega), hp_r2 (fun z => by omega), hp_r2 (fun z => by omega), hp_r2 (fun z => by omega)]
theorem AP.up {σ : Hp} {b : Nat} {v : Int} (h : AP σ) (hb : b < (σ 67 42).toNat) (hv : 0 ≤ v ∧ v ≤ 99) : AP (hp σ 91 b v) ∧ ∀ d, famM d (hp σ 91 b v) = famM d σ := by
  have hn := h.1.1
  have hf : Fr af σ (hp σ 91 b v) := Fr.hp Fr.rf (by simp [af])
  refine h.mid hf (air_up (by omega)) (fun j => ?_) (fun j hj => ?_) h.2.1.2.2.2
  · unfold va_up
    split
    · exact hv
    · exact h.2.1.1 j
  · rw [vu_ne (by omega)]; exact h.2.2.2.2 j hj
theorem AP.wk {σ : Hp} {b : Nat} {v : Int} (h : AP σ) (hb : b < 6) (hv : 0 ≤ v ∧ v < 64) (hs : ∀ o, bt v o = true → b < (σ 67 42).toNat ∧ o < (σ 67 42).toNat ∧ b ≠ o) : AP (hp σ 91 (6 + b) v) ∧ ∀ d, famM d (hp σ 91 (6 + b) v) = famM d σ := by
  have hf : Fr af σ (hp σ 91 (6 + b) v) := Fr.hp Fr.rf (by simp [af])
  have e67 : hp σ 91 (6 + b) v 67 = σ 67 := hf 67 (by decide)
  have K := h.1.keep (σ' := hp σ 91 (6 + b) v) (by rw [e67]) (by rw [e67]) (by rw [e67]) (fun c hc => hf c (by simp [af]; omega))
  refine ⟨⟨K.1, ?_, ?_⟩, K.2⟩
  · rw [air_wk hb]
    refine ⟨h.2.1.1, fun j => ?_, h.2.1.2.2.1, h.2.1.2.2.2⟩
    show 0 ≤ va_up (airM σ).2.1 b v j ∧ va_up (airM σ).2.1 b v j < 64
    unfold va_up
    split
    · exact hv
    · exact h.2.1.2.1 j
  · rw [air_wk hb, e67]
    refine ⟨h.2.2.1, fun p o hpo => ?_, h.2.2.2.2⟩
    have hpo' : bt (va_up (airM σ).2.1 b v p) o = true := hpo
    by_cases e : p = b
    · rw [e, vu_at] at hpo'; rw [e]; exact hs o hpo'
    · rw [vu_ne e] at hpo'; exact h.2.2.2.1 p o hpo'
