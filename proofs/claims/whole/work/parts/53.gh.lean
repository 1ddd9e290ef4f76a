-- THE CLASS: its picture, and the calls that only answer
def tld (σ : Hp) : Nat := (σ 0 8).toNat
def hstL (σ : Hp) : List Sta × List Sta := ((List.range (σ 14 2).toNat).map (hst σ), (List.range ((σ 14 3).toNat - (σ 14 2).toNat)).map (fun i => hst σ ((σ 14 2).toNat + 1 + i)))
def bxX (σ : Hp) (i : Nat) : Option Sta := if i < 3 ∧ ¬ σ 18 i = 0 then some (rowS (σ 17) (16 * i)) else none
def xA (σ : Hp) : AS := (tpX σ, (σ 1 2, σ 1 3), famX σ (tld σ), stX σ 31, hstL σ, bxX σ, sgX σ, ((σ 0 7).toNat, tr (σ 0 7).toNat (σ 34)), σ 0 10)
def TD (σ : Hp) : Prop := (σ 0 8 = 35 ∧ σ 0 9 = 51) ∨ (σ 0 8 = 51 ∧ σ 0 9 = 35)
def XIr (σ : Hp) : Prop := TD σ ∧ RT σ ∧ FS σ (tld σ) ∧ HO σ ∧ (0 ≤ σ 19 9 ∧ σ 19 9 ≤ 30) ∧ HM σ (tld σ) ∧ (0 ≤ σ 0 7 ∧ σ 0 7 ≤ 6) ∧ (σ 14 2 < σ 14 3 → hst σ (σ 14 2).toNat = stX σ 31)
def XP (σ : Hp) : Prop := XIr σ ∧ WA (xA σ)
def XQ (σ σ' : Hp) : Prop := XIr σ' ∧ ∀ c, 67 ≤ c → σ' c = σ c
theorem TD.fo {σ : Hp} (h : TD σ) : FO (tld σ) := by
  unfold tld
  rcases h with h | h
  · rw [h.1]; exact Or.inl rfl
  · rw [h.1]; exact Or.inr rfl
def scx (f c : Nat) : Prop := (3 ≤ c ∧ c ≤ 13) ∨ (25 ≤ c ∧ c ≤ 27) ∨ c = 29 ∨ c = 30 ∨ c = f + 7 ∨ c = f + 10 ∨ c = f + 11 ∨ c = f + 14 ∨ c = f + 15
theorem FO_35 {f : Nat} (h : FO f) : f = 35 ∨ f = 51 := h
/-- changes of cells that the picture doesn't show -/
theorem xA_keep {σ σ' : Hp} {cs : List Nat} (hX : XIr σ) (hf : Fr cs σ σ') (hc : ∀ c ∈ cs, scx (tld σ) c) : XQ σ σ' ∧ xA σ' = xA σ := by
  obtain ⟨h1, h2, h3, h4, h5, h6, h7, h8⟩ := hX
  have hfo := FO_35 h1.fo
  have e : ∀ c, (c < 3 ∨ (14 ≤ c ∧ c ≤ 24) ∨ c = 28 ∨ (31 ≤ c ∧ c ≤ 34) ∨ 67 ≤ c) → σ' c = σ c := by
    intro c hcc
    refine hf c (fun z => ?_)
    have := hc c z
    unfold scx at this
    omega
  have hK : FK (tld σ) σ σ' := FK_of h1.fo hf (fun c z => by
    have := hc c z
    unfold scx at this
    omega)
  have e0 := e 0 (by omega)
  have et : tld σ' = tld σ := by unfold tld; rw [e0]
  have e1 := e 1 (by omega)
  have eB : tpX σ' = tpX σ := tpX_eq (by rw [e1]) (e 2 (by omega))
  have eh : hst σ' = hst σ := by funext i; unfold hst; rw [e 14 (by omega), e 15 (by omega)]
  have es : stX σ' 31 = stX σ 31 := stX_eq (fun d hd => e _ (by omega))
  refine ⟨⟨⟨?_, ?_, ?_, ?_, ?_, ?_, ?_, ?_⟩, fun c hcc => e c (by omega)⟩, ?_⟩
  · unfold TD; rw [e0]; exact h1
  · unfold RT; rw [e1]; exact h2
  · rw [et]; exact hK.fs h3
  · unfold HO; rw [e 14 (by omega)]; exact h4
  · rw [e 19 (by omega)]; exact h5
  · unfold HM HT; rw [et, hK.fam, e 19 (by omega), e 28 (by omega)]; exact h6
  · rw [e0]; exact h7
  · rw [e 14 (by omega), eh, es]; exact h8
  · unfold xA
    rw [eB, e1, et, hK.fam, es, e0, e 34 (by omega)]
    have eH : hstL σ' = hstL σ := by unfold hstL; rw [eh, e 14 (by omega)]
    have eX : bxX σ' = bxX σ := by funext i; unfold bxX; rw [e 18 (by omega), e 17 (by omega)]
    have eG : sgX σ' = sgX σ := by unfold sgX; rw [e 19 (by omega), e 20 (by omega), e 21 (by omega), e 22 (by omega), e 23 (by omega), e 24 (by omega)]
    rw [eH, eX, eG]
theorem ob0 {σ : Hp} {Q : Int → Prop} {r : Int} (hX : XIr σ) (hQ : Q r) : XQ σ σ ∧ Ob (xA σ) Q r (xA σ) := ⟨⟨hX, fun _ _ => rfl⟩, rfl, hQ⟩
theorem ob1 {σ σ' : Hp} {cs : List Nat} {Q : Int → Prop} {r : Int} (hX : XIr σ) (hf : Fr cs σ σ') (hc : ∀ c ∈ cs, scx (tld σ) c) (hQ : Q r) : XQ σ σ' ∧ Ob (xA σ) Q r (xA σ') := ⟨(xA_keep hX hf hc).1, (xA_keep hX hf hc).2, hQ⟩
theorem scx_sg {f : Nat} : ∀ c ∈ sg f 4, scx f c := by
  intro c hc
  simp only [sg, List.mem_cons, List.not_mem_nil, or_false] at hc
  unfold scx
  omega
theorem scx_sc {f : Nat} : ∀ c ∈ sc f, scx f c := by
  intro c hc
  simp only [sc, List.mem_cons, List.not_mem_nil, or_false] at hc
  unfold scx
  omega
theorem scx_hh {f : Nat} : ∀ c ∈ hh f, scx f c := by
  intro c hc
  simp only [hh, hs, List.mem_cons] at hc
  rcases hc with rfl | rfl | rfl | rfl | rfl | hc
  · unfold scx; omega
  · unfold scx; omega
  · unfold scx; omega
  · unfold scx; omega
  · unfold scx; omega
  · exact scx_sg c hc
theorem XP.ow {σ : Hp} (h : XP σ) : OW σ (tld σ) := ⟨h.1.1.fo, h.1.2.2.1, h.2.2.2.1.1, h.2.2.2.1.2.1⟩
theorem XP.ss {σ : Hp} (h : XP σ) : SS σ 31 := h.2.2.2.1.1.ss
theorem XP.n6 {σ : Hp} (h : XP σ) : fN (famX σ (tld σ)) ≤ 6 := h.1.2.2.1.n6
theorem ite1 {p : Prop} [Decidable p] (h : ¬ (if p then (1 : Int) else 0) = 0) : p := Classical.byContradiction fun z => h (if_neg z)
theorem ite0 {p : Prop} [Decidable p] (h : (if p then (1 : Int) else 0) = 0) : ¬ p := fun z => by rw [if_pos z] at h; cases h
theorem ite0' {p : Prop} [Decidable p] (h : ¬ ¬ (if p then (1 : Int) else 0) = 0) : ¬ p := ite0 (Classical.not_not.mp h)
def Gh_isPerson_pre (k : Nat) (_a : Int) (σ : Hp) : Prop := k = 0 ∧ XIr σ
def Gh_isPerson_post (_k : Nat) (a : Int) (σ : Hp) (r : Int) (σ' : Hp) : Prop := σ' = σ ∧ r = if isP (xA σ) a then 1 else 0
def Gh_isPerson_bk : List (Nat × List Item) := [(0, [(.iload_n 1, 1, [], []), (.ifCond .lt 18, 3, [19], []), (.iload_n 1, 1, [], []), (.aload_n 0, 1, [], []), (.getfield 58, 3, [8, 8, 5, 0, 0, 1], []), (.getfield 93, 3, [1, 9, 0, 0, 0, 0], []), (.if_icmp .ge 7, 3, [19], []), (.iconst 1, 1, [], []), (.goto 4, 3, [20], [])]),
  (19, [(.iconst 0, 1, [], [])]),
  (20, [(.ireturn, 1, [], [])])]
def Gh_isPerson_cl : List (Instr × Nat) := []
set_option maxRecDepth 20000 in
theorem Gh_isPerson_ck : Gh_isPerson_bk.all (fun b => ax_chB 8 2 cX8_isPerson Gh_isPerson_cl b.1 b.2) = true := by decide +kernel
def Gh_isPerson_cs : Ct := (2, 9, 2, (0, 0), fun as σ => (match as with
    | [.inr (.inr (.inl (k, 0, 8))), .inl a1] => Gh_isPerson_pre k a1 σ
    | _ => False), fun as σ r σ' => (match as with
    | [.inr (.inr (.inl (k, 0, 8))), .inl a1] => Gh_isPerson_post k a1 σ r σ'
    | _ => False))
theorem Gh_isPerson_w : ∀ w ∈ ([.instanceMethod yX8_isPerson, .selects yX8_isPerson.cls yX8_isPerson yX8_isPerson, .initialized yX8_isPerson.cls, .code yX8_isPerson cX8_isPerson 2 (some .boolean)] : List Cond), w ∈ ax_tb := ax_w4 (ax_m3 190 (by decide +kernel) rfl) (ax_m0 4 (by decide +kernel) rfl) (ax_m1 1 (by decide +kernel) rfl) (ax_m3 191 (by decide +kernel) rfl)
theorem Gh_isPerson_ds : yX8_isPerson.cls ≠ "java/lang/invoke/MethodHandle" ∧ yX8_isPerson.cls ≠ "java/lang/invoke/VarHandle" ∧ (parseMethodDescriptor yX8_isPerson.desc).map (fun d => d.parameters.length) = some 1 := by decide +kernel
def Gh_isPerson_vc : Prop := ∀ (k : Nat) (a1 : Int) (σ : Hp), ax_H σ → Gh_isPerson_pre k a1 σ →
  (a1 < 0 →
    ((0 : Int) = 0 ∨ (0 : Int) = 1) ∧ Gh_isPerson_post k a1 σ 0 σ) ∧
  (¬ (a1 < 0) →
    (σ (σ k 8).toNat 9 ≤ a1 →
      ((0 : Int) = 0 ∨ (0 : Int) = 1) ∧ Gh_isPerson_post k a1 σ 0 σ) ∧
    (¬ (σ (σ k 8).toNat 9 ≤ a1) →
      ((1 : Int) = 0 ∨ (1 : Int) = 1) ∧ Gh_isPerson_post k a1 σ 1 σ))
theorem Gh_isPerson_p : Gh_isPerson_vc := by
  intro k a σ hH hp
  obtain ⟨rfl, hX⟩ := hp
  have e : σ (σ 0 8).toNat 9 = (fN (aF (xA σ)) : Int) := hX.2.2.1.e9
  rw [e]
  exact ⟨fun h => ⟨Or.inl rfl, rfl, by rw [if_neg (by omega)]⟩, fun h => ⟨fun h2 => ⟨Or.inl rfl, rfl, by rw [if_neg (by omega)]⟩, fun h2 => ⟨Or.inr rfl, rfl, by rw [if_pos ⟨by omega, by omega⟩]⟩⟩⟩
def Gh_isPerson_I : List AV → Hp → Nat → Nat → List AV → List AV → Hp → Prop := fun as σ0 pc n st ls σ => (match as with
    | [.inr (.inr (.inl (k, 0, 8))), .inl a1] => False
    | _ => False)
def Gh_isPerson_ct : Nat → Ct := fun n => match n with
  | _ => Gh_isPerson_cs
set_option maxRecDepth 20000 in
set_option maxHeartbeats 4000000 in
theorem Gh_isPerson_met {l : Launch} {D : va_G} {ad : Nat → Nat} {ca : Nat → ClassId} {L : Nat} {fx : Nat → Int} : ax_MC l D ad ca L fx yX8_isPerson cX8_isPerson 2 (some .boolean) 1 Gh_isPerson_cs := by
  refine ax_met (oc := 8) (ct := Gh_isPerson_ct) (calls := Gh_isPerson_cl) (bs := Gh_isPerson_bk) (cut := fun pc => false) (f := 4) (I := Gh_isPerson_I) (by decide) rfl rfl Gh_isPerson_ck (fun _ h => absurd h List.not_mem_nil) ?_ ?_
  · intro as σ0 hp hH
    match as, hp with
    | [.inr (.inr (.inl (k, 0, 8))), .inl a1], hp => exact ⟨rfl, Gh_isPerson_p k a1 σ0 hH hp⟩
  · intro as σ0 hp n pc st ls σ hH hI
    match as, hp, hI with
    | [.inr (.inr (.inl (k, 0, 8))), .inl a1], hp, hI => exact False.elim hI
def Gh_areTwo_pre (k : Nat) (_a _b : Int) (σ : Hp) : Prop := k = 0 ∧ XIr σ
def Gh_areTwo_post (_k : Nat) (a b : Int) (σ : Hp) (r : Int) (σ' : Hp) : Prop := σ' = σ ∧ r = if two (xA σ) a b then 1 else 0
def Gh_areTwo_bk : List (Nat × List Item) := [(0, [(.aload_n 0, 1, [], []), (.iload_n 1, 1, [], []), (.invokevirtual 102, 3, [0], []), (.ifCond .eq 20, 3, [25], []), (.aload_n 0, 1, [], []), (.iload_n 2, 1, [], []), (.invokevirtual 102, 3, [0], []), (.ifCond .eq 12, 3, [25], []), (.iload_n 1, 1, [], []), (.iload_n 2, 1, [], []), (.if_icmp .eq 7, 3, [25], []), (.iconst 1, 1, [], []), (.goto 4, 3, [26], [])]),
  (25, [(.iconst 0, 1, [], [])]),
  (26, [(.ireturn, 1, [], [])])]
def Gh_areTwo_cl : List (Instr × Nat) := [(.invokevirtual 102, 0)]
set_option maxRecDepth 20000 in
theorem Gh_areTwo_ck : Gh_areTwo_bk.all (fun b => ax_chB 8 3 cX8_areTwo Gh_areTwo_cl b.1 b.2) = true := by decide +kernel
def Gh_areTwo_cs : Ct := (3, 9, 2, (0, 0), fun as σ => (match as with
    | [.inr (.inr (.inl (k, 0, 8))), .inl a1, .inl a2] => Gh_areTwo_pre k a1 a2 σ
    | _ => False), fun as σ r σ' => (match as with
    | [.inr (.inr (.inl (k, 0, 8))), .inl a1, .inl a2] => Gh_areTwo_post k a1 a2 σ r σ'
    | _ => False))
theorem Gh_areTwo_w : ∀ w ∈ ([.instanceMethod yX8_areTwo, .selects yX8_areTwo.cls yX8_areTwo yX8_areTwo, .initialized yX8_areTwo.cls, .code yX8_areTwo cX8_areTwo 3 (some .boolean)] : List Cond), w ∈ ax_tb := ax_w4 (ax_m4 28 (by decide +kernel) rfl) (ax_m0 5 (by decide +kernel) rfl) (ax_m1 1 (by decide +kernel) rfl) (ax_m4 29 (by decide +kernel) rfl)
theorem Gh_areTwo_ds : yX8_areTwo.cls ≠ "java/lang/invoke/MethodHandle" ∧ yX8_areTwo.cls ≠ "java/lang/invoke/VarHandle" ∧ (parseMethodDescriptor yX8_areTwo.desc).map (fun d => d.parameters.length) = some 2 := by decide +kernel
def Gh_areTwo_vc : Prop := ∀ (k : Nat) (a1 : Int) (a2 : Int) (σ : Hp), ax_H σ → Gh_areTwo_pre k a1 a2 σ →
  Gh_isPerson_pre k a1 σ ∧
  ∀ (r2 : Int) (σ1 : Hp), Gh_isPerson_post k a1 σ r2 σ1 →
  (r2 = 0 →
    ((0 : Int) = 0 ∨ (0 : Int) = 1) ∧ Gh_areTwo_post k a1 a2 σ 0 σ1) ∧
  (¬ (r2 = 0) →
    Gh_isPerson_pre k a2 σ1 ∧
    ∀ (r4 : Int) (σ3 : Hp), Gh_isPerson_post k a2 σ1 r4 σ3 →
    (r4 = 0 →
      ((0 : Int) = 0 ∨ (0 : Int) = 1) ∧ Gh_areTwo_post k a1 a2 σ 0 σ3) ∧
    (¬ (r4 = 0) →
      (a1 = a2 →
        ((0 : Int) = 0 ∨ (0 : Int) = 1) ∧ Gh_areTwo_post k a1 a2 σ 0 σ3) ∧
      (¬ (a1 = a2) →
        ((1 : Int) = 0 ∨ (1 : Int) = 1) ∧ Gh_areTwo_post k a1 a2 σ 1 σ3)))
theorem Gh_areTwo_p : Gh_areTwo_vc := by
  intro k a b σ hH hp
  obtain ⟨rfl, hX⟩ := hp
  refine ⟨⟨rfl, hX⟩, ?_⟩
  rintro r2 σ1 ⟨rfl, rfl⟩
  refine ⟨fun h => ⟨Or.inl rfl, rfl, by rw [if_neg (fun z => ite0 h z.1.1)]⟩, fun h => ⟨⟨rfl, hX⟩, ?_⟩⟩
  rintro r4 σ3 ⟨rfl, rfl⟩
  refine ⟨fun h2 => ⟨Or.inl rfl, rfl, by rw [if_neg (fun z => ite0 h2 z.1.2)]⟩, fun h2 => ⟨fun h3 => ⟨Or.inl rfl, rfl, by rw [if_neg (fun z => z.2 h3)]⟩, fun h3 => ⟨Or.inr rfl, rfl, by rw [if_pos ⟨⟨ite1 h, ite1 h2⟩, h3⟩]⟩⟩⟩
def Gh_areTwo_I : List AV → Hp → Nat → Nat → List AV → List AV → Hp → Prop := fun as σ0 pc n st ls σ => (match as with
    | [.inr (.inr (.inl (k, 0, 8))), .inl a1, .inl a2] => False
    | _ => False)
def Gh_areTwo_ct : Nat → Ct := fun n => match n with
  | 0 => Gh_isPerson_cs
  | _ => Gh_areTwo_cs
set_option maxRecDepth 20000 in
set_option maxHeartbeats 4000000 in
theorem Gh_areTwo_met {l : Launch} {D : va_G} {ad : Nat → Nat} {ca : Nat → ClassId} {L : Nat} {fx : Nat → Int} : ax_MC l D ad ca L fx yX8_areTwo cX8_areTwo 3 (some .boolean) 2 Gh_areTwo_cs := by
  refine ax_met (oc := 8) (ct := Gh_areTwo_ct) (calls := Gh_areTwo_cl) (bs := Gh_areTwo_bk) (cut := fun pc => false) (f := 4) (I := Gh_areTwo_I) (by decide) rfl rfl Gh_areTwo_ck (List.forall_mem_cons.mpr ⟨ax_cwV Gh_isPerson_met (by decide) (by decide) rfl (by decide) rfl (ax_m3 188 (by decide +kernel) rfl) Gh_isPerson_w rfl Gh_isPerson_ds, fun _ h => absurd h List.not_mem_nil⟩) ?_ ?_
  · intro as σ0 hp hH
    match as, hp with
    | [.inr (.inr (.inl (k, 0, 8))), .inl a1, .inl a2], hp => exact ⟨rfl, Gh_areTwo_p k a1 a2 σ0 hH hp⟩
  · intro as σ0 hp n pc st ls σ hH hI
    match as, hp, hI with
    | [.inr (.inr (.inl (k, 0, 8))), .inl a1, .inl a2], hp, hI => exact False.elim hI
def Gh_isSomeCare_pre (_a : Int) (_σ : Hp) : Prop := True
def Gh_isSomeCare_post (a : Int) (σ : Hp) (r : Int) (σ' : Hp) : Prop := σ' = σ ∧ r = if 1 ≤ a ∧ a ≤ 9 then 1 else 0
def Gh_isSomeCare_bk : List (Nat × List Item) := [(0, [(.iload_n 0, 1, [], []), (.iconst 1, 1, [], []), (.if_icmp .lt 13, 3, [15], []), (.iload_n 0, 1, [], []), (.bipush 9, 2, [], []), (.if_icmp .gt 7, 3, [15], []), (.iconst 1, 1, [], []), (.goto 4, 3, [16], [])]),
  (15, [(.iconst 0, 1, [], [])]),
  (16, [(.ireturn, 1, [], [])])]
def Gh_isSomeCare_cl : List (Instr × Nat) := []
set_option maxRecDepth 20000 in
theorem Gh_isSomeCare_ck : Gh_isSomeCare_bk.all (fun b => ax_chB 8 1 cX8_isSomeCare Gh_isSomeCare_cl b.1 b.2) = true := by decide +kernel
def Gh_isSomeCare_cs : Ct := (1, 0, 2, (0, 0), fun as σ => (match as with
    | [.inl a1] => Gh_isSomeCare_pre a1 σ
    | _ => False), fun as σ r σ' => (match as with
    | [.inl a1] => Gh_isSomeCare_post a1 σ r σ'
    | _ => False))
theorem Gh_isSomeCare_w : ∀ w ∈ ([.static yX8_isSomeCare, .initialized yX8_isSomeCare.cls, .code yX8_isSomeCare cX8_isSomeCare 1 (some .boolean)] : List Cond), w ∈ ax_tb := ax_w3 (ax_m4 15 (by decide +kernel) rfl) (ax_m1 1 (by decide +kernel) rfl) (ax_m4 16 (by decide +kernel) rfl)
theorem Gh_isSomeCare_ds : yX8_isSomeCare.cls ≠ "java/lang/invoke/MethodHandle" ∧ yX8_isSomeCare.cls ≠ "java/lang/invoke/VarHandle" ∧ (parseMethodDescriptor yX8_isSomeCare.desc).map (fun d => d.parameters.length) = some 1 := by decide +kernel
def Gh_isSomeCare_vc : Prop := ∀ (a1 : Int) (σ : Hp), ax_H σ → Gh_isSomeCare_pre a1 σ →
  (a1 < 1 →
    ((0 : Int) = 0 ∨ (0 : Int) = 1) ∧ Gh_isSomeCare_post a1 σ 0 σ) ∧
  (¬ (a1 < 1) →
    (9 < a1 →
      ((0 : Int) = 0 ∨ (0 : Int) = 1) ∧ Gh_isSomeCare_post a1 σ 0 σ) ∧
    (¬ (9 < a1) →
      ((1 : Int) = 0 ∨ (1 : Int) = 1) ∧ Gh_isSomeCare_post a1 σ 1 σ))
theorem Gh_isSomeCare_p : Gh_isSomeCare_vc := by
  intro a σ hH hp
  exact ⟨fun h => ⟨Or.inl rfl, rfl, by rw [if_neg (by omega)]⟩, fun h => ⟨fun h2 => ⟨Or.inl rfl, rfl, by rw [if_neg (by omega)]⟩, fun h2 => ⟨Or.inr rfl, rfl, by rw [if_pos ⟨by omega, by omega⟩]⟩⟩⟩
def Gh_isSomeCare_I : List AV → Hp → Nat → Nat → List AV → List AV → Hp → Prop := fun as σ0 pc n st ls σ => (match as with
    | [.inl a1] => False
    | _ => False)
def Gh_isSomeCare_ct : Nat → Ct := fun n => match n with
  | _ => Gh_isSomeCare_cs
set_option maxRecDepth 20000 in
set_option maxHeartbeats 4000000 in
theorem Gh_isSomeCare_met {l : Launch} {D : va_G} {ad : Nat → Nat} {ca : Nat → ClassId} {L : Nat} {fx : Nat → Int} : ax_MC l D ad ca L fx yX8_isSomeCare cX8_isSomeCare 1 (some .boolean) 1 Gh_isSomeCare_cs := by
  refine ax_met (oc := 8) (ct := Gh_isSomeCare_ct) (calls := Gh_isSomeCare_cl) (bs := Gh_isSomeCare_bk) (cut := fun pc => false) (f := 4) (I := Gh_isSomeCare_I) (by decide) rfl rfl Gh_isSomeCare_ck (fun _ h => absurd h List.not_mem_nil) ?_ ?_
  · intro as σ0 hp hH
    match as, hp with
    | [.inl a1], hp => exact ⟨rfl, Gh_isSomeCare_p a1 σ0 hH hp⟩
  · intro as σ0 hp n pc st ls σ hH hI
    match as, hp, hI with
    | [.inl a1], hp, hI => exact False.elim hI
def Gh_isAhead_pre (_a : Int) (_σ : Hp) : Prop := True
def Gh_isAhead_post (a : Int) (σ : Hp) (r : Int) (σ' : Hp) : Prop := σ' = σ ∧ r = if 0 ≤ a ∧ a ≤ 60 then 1 else 0
def Gh_isAhead_bk : List (Nat × List Item) := [(0, [(.iload_n 0, 1, [], []), (.ifCond .lt 13, 3, [14], []), (.iload_n 0, 1, [], []), (.bipush 60, 2, [], []), (.if_icmp .gt 7, 3, [14], []), (.iconst 1, 1, [], []), (.goto 4, 3, [15], [])]),
  (14, [(.iconst 0, 1, [], [])]),
  (15, [(.ireturn, 1, [], [])])]
def Gh_isAhead_cl : List (Instr × Nat) := []
set_option maxRecDepth 20000 in
theorem Gh_isAhead_ck : Gh_isAhead_bk.all (fun b => ax_chB 8 1 cX8_isAhead Gh_isAhead_cl b.1 b.2) = true := by decide +kernel
def Gh_isAhead_cs : Ct := (1, 0, 2, (0, 0), fun as σ => (match as with
    | [.inl a1] => Gh_isAhead_pre a1 σ
    | _ => False), fun as σ r σ' => (match as with
    | [.inl a1] => Gh_isAhead_post a1 σ r σ'
    | _ => False))
theorem Gh_isAhead_w : ∀ w ∈ ([.static yX8_isAhead, .initialized yX8_isAhead.cls, .code yX8_isAhead cX8_isAhead 1 (some .boolean)] : List Cond), w ∈ ax_tb := ax_w3 (ax_m4 79 (by decide +kernel) rfl) (ax_m1 1 (by decide +kernel) rfl) (ax_m4 80 (by decide +kernel) rfl)
theorem Gh_isAhead_ds : yX8_isAhead.cls ≠ "java/lang/invoke/MethodHandle" ∧ yX8_isAhead.cls ≠ "java/lang/invoke/VarHandle" ∧ (parseMethodDescriptor yX8_isAhead.desc).map (fun d => d.parameters.length) = some 1 := by decide +kernel
def Gh_isAhead_vc : Prop := ∀ (a1 : Int) (σ : Hp), ax_H σ → Gh_isAhead_pre a1 σ →
  (a1 < 0 →
    ((0 : Int) = 0 ∨ (0 : Int) = 1) ∧ Gh_isAhead_post a1 σ 0 σ) ∧
  (¬ (a1 < 0) →
    (60 < a1 →
      ((0 : Int) = 0 ∨ (0 : Int) = 1) ∧ Gh_isAhead_post a1 σ 0 σ) ∧
    (¬ (60 < a1) →
      ((1 : Int) = 0 ∨ (1 : Int) = 1) ∧ Gh_isAhead_post a1 σ 1 σ))
theorem Gh_isAhead_p : Gh_isAhead_vc := by
  intro a σ hH hp
  exact ⟨fun h => ⟨Or.inl rfl, rfl, by rw [if_neg (by omega)]⟩, fun h => ⟨fun h2 => ⟨Or.inl rfl, rfl, by rw [if_neg (by omega)]⟩, fun h2 => ⟨Or.inr rfl, rfl, by rw [if_pos ⟨by omega, by omega⟩]⟩⟩⟩
def Gh_isAhead_I : List AV → Hp → Nat → Nat → List AV → List AV → Hp → Prop := fun as σ0 pc n st ls σ => (match as with
    | [.inl a1] => False
    | _ => False)
def Gh_isAhead_ct : Nat → Ct := fun n => match n with
  | _ => Gh_isAhead_cs
set_option maxRecDepth 20000 in
set_option maxHeartbeats 4000000 in
theorem Gh_isAhead_met {l : Launch} {D : va_G} {ad : Nat → Nat} {ca : Nat → ClassId} {L : Nat} {fx : Nat → Int} : ax_MC l D ad ca L fx yX8_isAhead cX8_isAhead 1 (some .boolean) 1 Gh_isAhead_cs := by
  refine ax_met (oc := 8) (ct := Gh_isAhead_ct) (calls := Gh_isAhead_cl) (bs := Gh_isAhead_bk) (cut := fun pc => false) (f := 4) (I := Gh_isAhead_I) (by decide) rfl rfl Gh_isAhead_ck (fun _ h => absurd h List.not_mem_nil) ?_ ?_
  · intro as σ0 hp hH
    match as, hp with
    | [.inl a1], hp => exact ⟨rfl, Gh_isAhead_p a1 σ0 hH hp⟩
  · intro as σ0 hp n pc st ls σ hH hI
    match as, hp, hI with
    | [.inl a1], hp, hI => exact False.elim hI
def Gh_isOneOfTwo_pre (_a : Int) (_σ : Hp) : Prop := True
def Gh_isOneOfTwo_post (a : Int) (σ : Hp) (r : Int) (σ' : Hp) : Prop := σ' = σ ∧ r = if o01 a then 1 else 0
def Gh_isOneOfTwo_bk : List (Nat × List Item) := [(0, [(.iload_n 0, 1, [], []), (.ifCond .eq 8, 3, [9], []), (.iload_n 0, 1, [], []), (.iconst 1, 1, [], []), (.if_icmp .ne 7, 3, [13], [])]),
  (9, [(.iconst 1, 1, [], []), (.goto 4, 3, [14], [])]),
  (13, [(.iconst 0, 1, [], [])]),
  (14, [(.ireturn, 1, [], [])])]
def Gh_isOneOfTwo_cl : List (Instr × Nat) := []
set_option maxRecDepth 20000 in
theorem Gh_isOneOfTwo_ck : Gh_isOneOfTwo_bk.all (fun b => ax_chB 8 1 cX8_isOneOfTwo Gh_isOneOfTwo_cl b.1 b.2) = true := by decide +kernel
def Gh_isOneOfTwo_cs : Ct := (1, 0, 2, (0, 0), fun as σ => (match as with
    | [.inl a1] => Gh_isOneOfTwo_pre a1 σ
    | _ => False), fun as σ r σ' => (match as with
    | [.inl a1] => Gh_isOneOfTwo_post a1 σ r σ'
    | _ => False))
theorem Gh_isOneOfTwo_w : ∀ w ∈ ([.static yX8_isOneOfTwo, .initialized yX8_isOneOfTwo.cls, .code yX8_isOneOfTwo cX8_isOneOfTwo 1 (some .boolean)] : List Cond), w ∈ ax_tb := ax_w3 (ax_m4 103 (by decide +kernel) rfl) (ax_m1 1 (by decide +kernel) rfl) (ax_m4 104 (by decide +kernel) rfl)
theorem Gh_isOneOfTwo_ds : yX8_isOneOfTwo.cls ≠ "java/lang/invoke/MethodHandle" ∧ yX8_isOneOfTwo.cls ≠ "java/lang/invoke/VarHandle" ∧ (parseMethodDescriptor yX8_isOneOfTwo.desc).map (fun d => d.parameters.length) = some 1 := by decide +kernel
def Gh_isOneOfTwo_vc : Prop := ∀ (a1 : Int) (σ : Hp), ax_H σ → Gh_isOneOfTwo_pre a1 σ →
  (a1 = 0 →
    ((1 : Int) = 0 ∨ (1 : Int) = 1) ∧ Gh_isOneOfTwo_post a1 σ 1 σ) ∧
  (¬ (a1 = 0) →
    (¬ a1 = 1 →
      ((0 : Int) = 0 ∨ (0 : Int) = 1) ∧ Gh_isOneOfTwo_post a1 σ 0 σ) ∧
    (¬ (¬ a1 = 1) →
      ((1 : Int) = 0 ∨ (1 : Int) = 1) ∧ Gh_isOneOfTwo_post a1 σ 1 σ))
theorem Gh_isOneOfTwo_p : Gh_isOneOfTwo_vc := by
  intro a σ hH hp
  exact ⟨fun h => ⟨Or.inr rfl, rfl, by rw [if_pos (Or.inl h)]⟩, fun h => ⟨fun h2 => ⟨Or.inl rfl, rfl, by rw [if_neg (fun z => z.elim h h2)]⟩, fun h2 => ⟨Or.inr rfl, rfl, by rw [if_pos (Or.inr (Classical.not_not.mp h2))]⟩⟩⟩
def Gh_isOneOfTwo_I : List AV → Hp → Nat → Nat → List AV → List AV → Hp → Prop := fun as σ0 pc n st ls σ => (match as with
    | [.inl a1] => False
    | _ => False)
def Gh_isOneOfTwo_ct : Nat → Ct := fun n => match n with
  | _ => Gh_isOneOfTwo_cs
set_option maxRecDepth 20000 in
set_option maxHeartbeats 4000000 in
theorem Gh_isOneOfTwo_met {l : Launch} {D : va_G} {ad : Nat → Nat} {ca : Nat → ClassId} {L : Nat} {fx : Nat → Int} : ax_MC l D ad ca L fx yX8_isOneOfTwo cX8_isOneOfTwo 1 (some .boolean) 1 Gh_isOneOfTwo_cs := by
  refine ax_met (oc := 8) (ct := Gh_isOneOfTwo_ct) (calls := Gh_isOneOfTwo_cl) (bs := Gh_isOneOfTwo_bk) (cut := fun pc => false) (f := 5) (I := Gh_isOneOfTwo_I) (by decide) rfl rfl Gh_isOneOfTwo_ck (fun _ h => absurd h List.not_mem_nil) ?_ ?_
  · intro as σ0 hp hH
    match as, hp with
    | [.inl a1], hp => exact ⟨rfl, Gh_isOneOfTwo_p a1 σ0 hH hp⟩
  · intro as σ0 hp n pc st ls σ hH hI
    match as, hp, hI with
    | [.inl a1], hp, hI => exact False.elim hI
def Gh_countOrSet_pre (a _b : Int) (_σ : Hp) : Prop := a = -1 ∨ (0 ≤ a ∧ a < 4096)
def Gh_countOrSet_post (a b : Int) (σ : Hp) (r : Int) (σ' : Hp) : Prop := σ' = σ ∧ r = cos a b
def Gh_countOrSet_bk : List (Nat × List Item) := [(0, [(.iload_n 0, 1, [], []), (.iconst (-1), 1, [], []), (.if_icmp .eq 8, 3, [10], []), (.iload_n 1, 1, [], []), (.iconst 1, 1, [], []), (.if_icmp .ne 5, 3, [12], [])]),
  (10, [(.iload_n 0, 1, [], []), (.ireturn, 1, [], [])]),
  (12, [(.iload_n 0, 1, [], []), (.invokestatic 290, 3, [0], []), (.ireturn, 1, [], [])])]
def Gh_countOrSet_cl : List (Instr × Nat) := [(.invokestatic 290, 0)]
set_option maxRecDepth 20000 in
theorem Gh_countOrSet_ck : Gh_countOrSet_bk.all (fun b => ax_chB 8 2 cX8_countOrSet Gh_countOrSet_cl b.1 b.2) = true := by decide +kernel
def Gh_countOrSet_cs : Ct := (2, 0, 1, (0, 0), fun as σ => (match as with
    | [.inl a1, .inl a2] => Gh_countOrSet_pre a1 a2 σ
    | _ => False), fun as σ r σ' => (match as with
    | [.inl a1, .inl a2] => Gh_countOrSet_post a1 a2 σ r σ'
    | _ => False))
theorem Gh_countOrSet_w : ∀ w ∈ ([.static yX8_countOrSet, .initialized yX8_countOrSet.cls, .code yX8_countOrSet cX8_countOrSet 2 (some .int)] : List Cond), w ∈ ax_tb := ax_w3 (ax_m4 150 (by decide +kernel) rfl) (ax_m1 1 (by decide +kernel) rfl) (ax_m4 151 (by decide +kernel) rfl)
theorem Gh_countOrSet_ds : yX8_countOrSet.cls ≠ "java/lang/invoke/MethodHandle" ∧ yX8_countOrSet.cls ≠ "java/lang/invoke/VarHandle" ∧ (parseMethodDescriptor yX8_countOrSet.desc).map (fun d => d.parameters.length) = some 2 := by decide +kernel
def Gh_countOrSet_vc : Prop := ∀ (a1 : Int) (a2 : Int) (σ : Hp), ax_H σ → Gh_countOrSet_pre a1 a2 σ →
  (a1 = (-1) →
    Gh_countOrSet_post a1 a2 σ a1 σ) ∧
  (¬ (a1 = (-1)) →
    (¬ a2 = 1 →
      Ji_bitCount_pre a1 σ ∧
      ∀ (r2 : Int) (σ1 : Hp), Ji_bitCount_post a1 σ r2 σ1 →
      Gh_countOrSet_post a1 a2 σ r2 σ1) ∧
    (¬ (¬ a2 = 1) →
      Gh_countOrSet_post a1 a2 σ a1 σ))
theorem Gh_countOrSet_p : Gh_countOrSet_vc := by
  intro a b σ hH hp
  refine ⟨fun h => ⟨rfl, by unfold cos; rw [if_pos (Or.inl h)]⟩, fun h => ⟨fun h2 => ⟨hp.resolve_left h, ?_⟩, fun h2 => ⟨rfl, by unfold cos; rw [if_pos (Or.inr (Classical.not_not.mp h2))]⟩⟩⟩
  rintro r2 σ1 ⟨rfl, rfl⟩
  refine ⟨rfl, ?_⟩
  unfold cos
  rw [if_neg (fun z => z.elim h h2)]
  rfl
def Gh_countOrSet_I : List AV → Hp → Nat → Nat → List AV → List AV → Hp → Prop := fun as σ0 pc n st ls σ => (match as with
    | [.inl a1, .inl a2] => False
    | _ => False)
def Gh_countOrSet_ct : Nat → Ct := fun n => match n with
  | 0 => Ji_bitCount_cs
  | _ => Gh_countOrSet_cs
set_option maxRecDepth 20000 in
set_option maxHeartbeats 4000000 in
theorem Gh_countOrSet_met {l : Launch} {D : va_G} {ad : Nat → Nat} {ca : Nat → ClassId} {L : Nat} {fx : Nat → Int} : ax_MC l D ad ca L fx yX8_countOrSet cX8_countOrSet 2 (some .int) 2 Gh_countOrSet_cs := by
  refine ax_met (oc := 8) (ct := Gh_countOrSet_ct) (calls := Gh_countOrSet_cl) (bs := Gh_countOrSet_bk) (cut := fun pc => false) (f := 4) (I := Gh_countOrSet_I) (by decide) rfl rfl Gh_countOrSet_ck (List.forall_mem_cons.mpr ⟨ax_cwS Ji_bitCount_met (by decide) (by decide) (ax_m4 152 (by decide +kernel) rfl) Ji_bitCount_w rfl Ji_bitCount_ds, fun _ h => absurd h List.not_mem_nil⟩) ?_ ?_
  · intro as σ0 hp hH
    match as, hp with
    | [.inl a1, .inl a2], hp => exact ⟨rfl, Gh_countOrSet_p a1 a2 σ0 hH hp⟩
  · intro as σ0 hp n pc st ls σ hH hI
    match as, hp, hI with
    | [.inl a1, .inl a2], hp, hI => exact False.elim hI
def Gh_fault_pre (k : Nat) (_a : Int) (σ : Hp) : Prop := k = 0 ∧ XP σ
def Gh_fault_post (_k : Nat) (a : Int) (σ : Hp) (r : Int) (σ' : Hp) : Prop := XQ σ σ' ∧ s_fault (xA σ) a r (xA σ')
def Gh_fault_bk : List (Nat × List Item) := [(0, [(.iload_n 1, 1, [], []), (.lookupswitch 43 #[(0, 27), (1, 35)], 27, [], [(0, 28), (1, 36), (0, 44)])]),
  (28, [(.aload_n 0, 1, [], []), (.getfield 10, 3, [8, 0, 4, 1, 0, 5], []), (.getfield 96, 3, [5, 2, 0, 0, 0, 0], []), (.ireturn, 1, [], [])]),
  (36, [(.aload_n 0, 1, [], []), (.getfield 10, 3, [8, 0, 4, 1, 0, 5], []), (.getfield 99, 3, [5, 3, 0, 0, 0, 0], []), (.ireturn, 1, [], [])]),
  (44, [(.iconst (-1), 1, [], []), (.ireturn, 1, [], [])])]
def Gh_fault_cl : List (Instr × Nat) := []
set_option maxRecDepth 20000 in
theorem Gh_fault_ck : Gh_fault_bk.all (fun b => ax_chB 8 2 cX8_fault Gh_fault_cl b.1 b.2) = true := by decide +kernel
def Gh_fault_cs : Ct := (2, 9, 1, (0, 0), fun as σ => (match as with
    | [.inr (.inr (.inl (k, 0, 8))), .inl a1] => Gh_fault_pre k a1 σ
    | _ => False), fun as σ r σ' => (match as with
    | [.inr (.inr (.inl (k, 0, 8))), .inl a1] => Gh_fault_post k a1 σ r σ'
    | _ => False))
theorem Gh_fault_w : ∀ w ∈ ([.instanceMethod yX8_fault, .selects yX8_fault.cls yX8_fault yX8_fault, .initialized yX8_fault.cls, .code yX8_fault cX8_fault 2 (some .int)] : List Cond), w ∈ ax_tb := ax_w4 (ax_m3 181 (by decide +kernel) rfl) (ax_m3 182 (by decide +kernel) rfl) (ax_m1 1 (by decide +kernel) rfl) (ax_m3 183 (by decide +kernel) rfl)
theorem Gh_fault_ds : yX8_fault.cls ≠ "java/lang/invoke/MethodHandle" ∧ yX8_fault.cls ≠ "java/lang/invoke/VarHandle" ∧ (parseMethodDescriptor yX8_fault.desc).map (fun d => d.parameters.length) = some 1 := by decide +kernel
def Gh_fault_vc : Prop := ∀ (k : Nat) (a1 : Int) (σ : Hp), ax_H σ → Gh_fault_pre k a1 σ →
  (a1 = 0 →
    Gh_fault_post k a1 σ (σ (k + 1) 2) σ) ∧
  (¬ a1 = 0 →
    (a1 = 1 →
    Gh_fault_post k a1 σ (σ (k + 1) 3) σ) ∧
  (¬ a1 = 1 →
    Gh_fault_post k a1 σ (-1) σ))
theorem Gh_fault_p : Gh_fault_vc := by
  intro k a σ hH hp
  obtain ⟨rfl, hX, hW⟩ := hp
  refine ⟨fun h => ob0 hX ?_, fun h => ⟨fun h2 => ob0 hX ?_, fun h2 => ob0 hX ?_⟩⟩
  · show _ = _; rw [if_pos h]; rfl
  · show _ = _; rw [if_neg h, if_pos h2]; rfl
  · show _ = _; rw [if_neg h, if_neg h2]
def Gh_fault_I : List AV → Hp → Nat → Nat → List AV → List AV → Hp → Prop := fun as σ0 pc n st ls σ => (match as with
    | [.inr (.inr (.inl (k, 0, 8))), .inl a1] => False
    | _ => False)
def Gh_fault_ct : Nat → Ct := fun n => match n with
  | _ => Gh_fault_cs
set_option maxRecDepth 20000 in
set_option maxHeartbeats 4000000 in
theorem Gh_fault_met {l : Launch} {D : va_G} {ad : Nat → Nat} {ca : Nat → ClassId} {L : Nat} {fx : Nat → Int} : ax_MC l D ad ca L fx yX8_fault cX8_fault 2 (some .int) 1 Gh_fault_cs := by
  refine ax_met (oc := 8) (ct := Gh_fault_ct) (calls := Gh_fault_cl) (bs := Gh_fault_bk) (cut := fun pc => false) (f := 5) (I := Gh_fault_I) (by decide) rfl rfl Gh_fault_ck (fun _ h => absurd h List.not_mem_nil) ?_ ?_
  · intro as σ0 hp hH
    match as, hp with
    | [.inr (.inr (.inl (k, 0, 8))), .inl a1], hp => exact ⟨rfl, Gh_fault_p k a1 σ0 hH hp⟩
  · intro as σ0 hp n pc st ls σ hH hI
    match as, hp, hI with
    | [.inr (.inr (.inl (k, 0, 8))), .inl a1], hp, hI => exact False.elim hI
def Gh_hair_pre (k : Nat) (σ : Hp) : Prop := k = 0 ∧ XP σ
def Gh_hair_post (_k : Nat) (σ : Hp) (r : Int) (σ' : Hp) : Prop := XQ σ σ' ∧ s_hair (xA σ) r (xA σ')
def Gh_hair_bk : List (Nat × List Item) := [(0, [(.aload_n 0, 1, [], []), (.getfield 47, 3, [8, 5, 4, 31, 0, 7], []), (.getfield 129, 3, [7, 2, 0, 0, 0, 0], []), (.ireturn, 1, [], [])])]
def Gh_hair_cl : List (Instr × Nat) := []
set_option maxRecDepth 20000 in
theorem Gh_hair_ck : Gh_hair_bk.all (fun b => ax_chB 8 1 cX8_hair Gh_hair_cl b.1 b.2) = true := by decide +kernel
def Gh_hair_cs : Ct := (1, 9, 1, (0, 0), fun as σ => (match as with
    | [.inr (.inr (.inl (k, 0, 8)))] => Gh_hair_pre k σ
    | _ => False), fun as σ r σ' => (match as with
    | [.inr (.inr (.inl (k, 0, 8)))] => Gh_hair_post k σ r σ'
    | _ => False))
theorem Gh_hair_w : ∀ w ∈ ([.instanceMethod yX8_hair, .selects yX8_hair.cls yX8_hair yX8_hair, .initialized yX8_hair.cls, .code yX8_hair cX8_hair 1 (some .int)] : List Cond), w ∈ ax_tb := ax_w4 (ax_m3 202 (by decide +kernel) rfl) (ax_m3 203 (by decide +kernel) rfl) (ax_m1 1 (by decide +kernel) rfl) (ax_m3 204 (by decide +kernel) rfl)
theorem Gh_hair_ds : yX8_hair.cls ≠ "java/lang/invoke/MethodHandle" ∧ yX8_hair.cls ≠ "java/lang/invoke/VarHandle" ∧ (parseMethodDescriptor yX8_hair.desc).map (fun d => d.parameters.length) = some 0 := by decide +kernel
def Gh_hair_vc : Prop := ∀ (k : Nat) (σ : Hp), ax_H σ → Gh_hair_pre k σ →
  Gh_hair_post k σ (σ (k + 31) 2) σ
theorem Gh_hair_p : Gh_hair_vc := by
  intro k σ hH hp
  obtain ⟨rfl, hX, hW⟩ := hp
  exact ob0 hX rfl
def Gh_hair_I : List AV → Hp → Nat → Nat → List AV → List AV → Hp → Prop := fun as σ0 pc n st ls σ => (match as with
    | [.inr (.inr (.inl (k, 0, 8)))] => False
    | _ => False)
def Gh_hair_ct : Nat → Ct := fun n => match n with
  | _ => Gh_hair_cs
set_option maxRecDepth 20000 in
set_option maxHeartbeats 4000000 in
theorem Gh_hair_met {l : Launch} {D : va_G} {ad : Nat → Nat} {ca : Nat → ClassId} {L : Nat} {fx : Nat → Int} : ax_MC l D ad ca L fx yX8_hair cX8_hair 1 (some .int) 1 Gh_hair_cs := by
  refine ax_met (oc := 8) (ct := Gh_hair_ct) (calls := Gh_hair_cl) (bs := Gh_hair_bk) (cut := fun pc => false) (f := 2) (I := Gh_hair_I) (by decide) rfl rfl Gh_hair_ck (fun _ h => absurd h List.not_mem_nil) ?_ ?_
  · intro as σ0 hp hH
    match as, hp with
    | [.inr (.inr (.inl (k, 0, 8)))], hp => exact ⟨rfl, Gh_hair_p k σ0 hH hp⟩
  · intro as σ0 hp n pc st ls σ hH hI
    match as, hp, hI with
    | [.inr (.inr (.inl (k, 0, 8)))], hp, hI => exact False.elim hI
def Gh_person_pre (k : Nat) (_a _b : Int) (σ : Hp) : Prop := k = 0 ∧ XP σ
def Gh_person_post (_k : Nat) (a b : Int) (σ : Hp) (r : Int) (σ' : Hp) : Prop := XQ σ σ' ∧ s_person (xA σ) a b r (xA σ')
def Gh_person_bk : List (Nat × List Item) := [(0, [(.aload_n 0, 1, [], []), (.iload_n 1, 1, [], []), (.invokevirtual 102, 3, [0], []), (.ifCond .ne 5, 3, [10], []), (.iconst (-1), 1, [], []), (.ireturn, 1, [], [])]),
  (10, [(.iload_n 2, 1, [], []), (.tableswitch 113 0 6 #[41, 51, 61, 74, 84, 93, 103], 41, [], [(0, 52), (1, 62), (2, 72), (3, 85), (4, 95), (5, 104), (6, 114), (0, 124)])]),
  (52, [(.aload_n 0, 1, [], []), (.getfield 58, 3, [8, 8, 5, 0, 0, 1], []), (.getfield 106, 3, [1, 1, 4, 2, 1, 6], []), (.iload_n 1, 1, [], []), (.iaload, 1, [], []), (.ireturn, 1, [], [])]),
  (62, [(.aload_n 0, 1, [], []), (.getfield 47, 3, [8, 5, 4, 31, 0, 7], []), (.getfield 109, 3, [7, 0, 4, 1, 1, 6], []), (.iload_n 1, 1, [], []), (.iaload, 1, [], []), (.ireturn, 1, [], [])]),
  (72, [(.aload_n 0, 1, [], []), (.getfield 58, 3, [8, 8, 5, 0, 0, 1], []), (.aload_n 0, 1, [], []), (.getfield 47, 3, [8, 5, 4, 31, 0, 7], []), (.iload_n 1, 1, [], []), (.invokevirtual 112, 3, [1], []), (.ireturn, 1, [], [])]),
  (85, [(.aload_n 0, 1, [], []), (.getfield 47, 3, [8, 5, 4, 31, 0, 7], []), (.getfield 116, 3, [7, 1, 4, 2, 1, 6], []), (.iload_n 1, 1, [], []), (.iaload, 1, [], []), (.ireturn, 1, [], [])]),
  (95, [(.aload_n 0, 1, [], []), (.getfield 47, 3, [8, 5, 4, 31, 0, 7], []), (.iload_n 1, 1, [], []), (.invokevirtual 119, 3, [2], []), (.ireturn, 1, [], [])]),
  (104, [(.aload_n 0, 1, [], []), (.getfield 58, 3, [8, 8, 5, 0, 0, 1], []), (.getfield 123, 3, [1, 4, 4, 5, 1, 6], []), (.iload_n 1, 1, [], []), (.iaload, 1, [], []), (.ireturn, 1, [], [])]),
  (114, [(.aload_n 0, 1, [], []), (.getfield 58, 3, [8, 8, 5, 0, 0, 1], []), (.getfield 126, 3, [1, 5, 4, 6, 1, 6], []), (.iload_n 1, 1, [], []), (.iaload, 1, [], []), (.ireturn, 1, [], [])]),
  (124, [(.iconst (-1), 1, [], []), (.ireturn, 1, [], [])])]
def Gh_person_cl : List (Instr × Nat) := [(.invokevirtual 102, 0), (.invokevirtual 112, 1), (.invokevirtual 119, 2)]
set_option maxRecDepth 20000 in
theorem Gh_person_ck : Gh_person_bk.all (fun b => ax_chB 8 3 cX8_person Gh_person_cl b.1 b.2) = true := by decide +kernel
def Gh_person_cs : Ct := (3, 9, 1, (0, 0), fun as σ => (match as with
    | [.inr (.inr (.inl (k, 0, 8))), .inl a1, .inl a2] => Gh_person_pre k a1 a2 σ
    | _ => False), fun as σ r σ' => (match as with
    | [.inr (.inr (.inl (k, 0, 8))), .inl a1, .inl a2] => Gh_person_post k a1 a2 σ r σ'
    | _ => False))
theorem Gh_person_w : ∀ w ∈ ([.instanceMethod yX8_person, .selects yX8_person.cls yX8_person yX8_person, .initialized yX8_person.cls, .code yX8_person cX8_person 3 (some .int)] : List Cond), w ∈ ax_tb := ax_w4 (ax_m3 185 (by decide +kernel) rfl) (ax_m3 186 (by decide +kernel) rfl) (ax_m1 1 (by decide +kernel) rfl) (ax_m3 187 (by decide +kernel) rfl)
theorem Gh_person_ds : yX8_person.cls ≠ "java/lang/invoke/MethodHandle" ∧ yX8_person.cls ≠ "java/lang/invoke/VarHandle" ∧ (parseMethodDescriptor yX8_person.desc).map (fun d => d.parameters.length) = some 2 := by decide +kernel
def Gh_person_vc : Prop := ∀ (k : Nat) (a1 : Int) (a2 : Int) (σ : Hp), ax_H σ → Gh_person_pre k a1 a2 σ →
  Gh_isPerson_pre k a1 σ ∧
  ∀ (r2 : Int) (σ1 : Hp), Gh_isPerson_post k a1 σ r2 σ1 →
  (¬ r2 = 0 →
    (a2 = 0 →
      (0 ≤ a1 ∧ a1 < 6) ∧
      Gh_person_post k a1 a2 σ (σ1 ((σ1 k 8).toNat + 2) a1.toNat) σ1) ∧
    (¬ a2 = 0 →
      (a2 = 1 →
      (0 ≤ a1 ∧ a1 < 6) ∧
      Gh_person_post k a1 a2 σ (σ1 (k + 32) a1.toNat) σ1) ∧
    (¬ a2 = 1 →
      (a2 = 2 →
      Fa_worryOf_pre ((σ1 k 8).toNat) (k + 31) a1 σ1 ∧
      ∀ (r4 : Int) (σ3 : Hp), Fa_worryOf_post ((σ1 k 8).toNat) (k + 31) a1 σ1 r4 σ3 →
      Gh_person_post k a1 a2 σ r4 σ3) ∧
    (¬ a2 = 2 →
      (a2 = 3 →
      (0 ≤ a1 ∧ a1 < 6) ∧
      Gh_person_post k a1 a2 σ (σ1 (k + 33) a1.toNat) σ1) ∧
    (¬ a2 = 3 →
      (a2 = 4 →
      St_knowersOf_pre (k + 31) a1 σ1 ∧
      ∀ (r6 : Int) (σ5 : Hp), St_knowersOf_post (k + 31) a1 σ1 r6 σ5 →
      Gh_person_post k a1 a2 σ r6 σ5) ∧
    (¬ a2 = 4 →
      (a2 = 5 →
      (0 ≤ a1 ∧ a1 < 6) ∧
      Gh_person_post k a1 a2 σ (σ1 ((σ1 k 8).toNat + 5) a1.toNat) σ1) ∧
    (¬ a2 = 5 →
      (a2 = 6 →
      (0 ≤ a1 ∧ a1 < 6) ∧
      Gh_person_post k a1 a2 σ (σ1 ((σ1 k 8).toNat + 6) a1.toNat) σ1) ∧
    (¬ a2 = 6 →
      Gh_person_post k a1 a2 σ (-1) σ1)))))))) ∧
  (¬ (¬ r2 = 0) →
    Gh_person_post k a1 a2 σ (-1) σ1)
theorem Gh_person_p : Gh_person_vc := by
  intro k a b σ hH hp
  obtain ⟨rfl, hP⟩ := hp
  have hX := hP.1
  refine ⟨⟨rfl, hX⟩, ?_⟩
  rintro r2 σ1 ⟨rfl, rfl⟩
  have hn6 := hP.n6
  have nf : fN (aF (xA σ1)) = fN (famX σ1 (tld σ1)) := rfl
  refine ⟨fun h => ?_, fun h => ob0 hX ?_⟩
  · have hi := ite1 h
    have hb : 0 ≤ a ∧ a < 6 := ⟨hi.1, by have := hi.2; omega⟩
    refine ⟨fun w => ⟨hb, ob0 hX ?_⟩, fun w0 => ⟨fun w => ⟨hb, ob0 hX ?_⟩, fun w1 => ⟨fun w => ⟨⟨hX.1.fo, Or.inr (Or.inr rfl), hb.1, hb.2, hX.2.2.1, hP.ss.ws (by omega)⟩, ?_⟩, fun w2 => ⟨fun w => ⟨hb, ob0 hX ?_⟩, fun w3 => ⟨fun w => ⟨⟨hb.1, hb.2, hP.ss⟩, ?_⟩, fun w4 => ⟨fun w => ⟨hb, ob0 hX ?_⟩, fun w5 => ⟨fun w => ⟨hb, ob0 hX ?_⟩, fun w6 => ob0 hX ?_⟩⟩⟩⟩⟩⟩⟩
    · show _ = _; rw [if_pos hi, if_pos w]; exact (tr_in (by omega)).symm
    · show _ = _; rw [if_pos hi, if_neg w0, if_pos w]; exact (tr_in (by omega)).symm
    · rintro r4 σ3 ⟨g1, rfl⟩
      refine ob1 hX g1 scx_sc ?_
      show _ = _; rw [if_pos hi, if_neg w0, if_neg w1, if_pos w]; rfl
    · show _ = _; rw [if_pos hi, if_neg w0, if_neg w1, if_neg w2, if_pos w]; exact (tr_in (by omega)).symm
    · rintro r4 σ3 ⟨rfl, rfl⟩
      refine ob0 hX ?_
      show _ = _; rw [if_pos hi, if_neg w0, if_neg w1, if_neg w2, if_neg w3, if_pos w, kb_ext (d := (aS (xA σ3)).2.1) (fun j hj => (tr_in hj).symm)]
    · show _ = _; rw [if_pos hi, if_neg w0, if_neg w1, if_neg w2, if_neg w3, if_neg w4, if_pos w]; exact (tr_in (by omega)).symm
    · show _ = _; rw [if_pos hi, if_neg w0, if_neg w1, if_neg w2, if_neg w3, if_neg w4, if_neg w5, if_pos w]; exact (tr_in (by omega)).symm
    · show _ = _; rw [if_pos hi, if_neg w0, if_neg w1, if_neg w2, if_neg w3, if_neg w4, if_neg w5, if_neg w6]
  · show _ = _; rw [if_neg (ite0' h)]
def Gh_person_I : List AV → Hp → Nat → Nat → List AV → List AV → Hp → Prop := fun as σ0 pc n st ls σ => (match as with
    | [.inr (.inr (.inl (k, 0, 8))), .inl a1, .inl a2] => False
    | _ => False)
def Gh_person_ct : Nat → Ct := fun n => match n with
  | 0 => Gh_isPerson_cs
  | 1 => Fa_worryOf_cs
  | 2 => St_knowersOf_cs
  | _ => Gh_person_cs
set_option maxRecDepth 20000 in
set_option maxHeartbeats 4000000 in
theorem Gh_person_met {l : Launch} {D : va_G} {ad : Nat → Nat} {ca : Nat → ClassId} {L : Nat} {fx : Nat → Int} : ax_MC l D ad ca L fx yX8_person cX8_person 3 (some .int) 4 Gh_person_cs := by
  refine ax_met (oc := 8) (ct := Gh_person_ct) (calls := Gh_person_cl) (bs := Gh_person_bk) (cut := fun pc => false) (f := 11) (I := Gh_person_I) (by decide) rfl rfl Gh_person_ck (List.forall_mem_cons.mpr ⟨ax_cwV Gh_isPerson_met (by decide) (by decide) rfl (by decide) rfl (ax_m3 188 (by decide +kernel) rfl) Gh_isPerson_w rfl Gh_isPerson_ds, List.forall_mem_cons.mpr ⟨ax_cwV Fa_worryOf_met (by decide) (by decide) rfl (by decide) rfl (ax_m3 192 (by decide +kernel) rfl) Fa_worryOf_w rfl Fa_worryOf_ds, List.forall_mem_cons.mpr ⟨ax_cwV St_knowersOf_met (by decide) (by decide) rfl (by decide) rfl (ax_m3 193 (by decide +kernel) rfl) St_knowersOf_w rfl St_knowersOf_ds, fun _ h => absurd h List.not_mem_nil⟩⟩⟩) ?_ ?_
  · intro as σ0 hp hH
    match as, hp with
    | [.inr (.inr (.inl (k, 0, 8))), .inl a1, .inl a2], hp => exact ⟨rfl, Gh_person_p k a1 a2 σ0 hH hp⟩
  · intro as σ0 hp n pc st ls σ hH hI
    match as, hp, hI with
    | [.inr (.inr (.inl (k, 0, 8))), .inl a1, .inl a2], hp, hI => exact False.elim hI
def Gh_will_pre (k : Nat) (_a : Int) (σ : Hp) : Prop := k = 0 ∧ XP σ
def Gh_will_post (_k : Nat) (a : Int) (σ : Hp) (r : Int) (σ' : Hp) : Prop := XQ σ σ' ∧ s_will (xA σ) a r (xA σ')
def Gh_will_bk : List (Nat × List Item) := [(0, [(.iload_n 1, 1, [], []), (.invokestatic 175, 3, [0], []), (.ifCond .ne 6, 3, [10], []), (.bipush (-2), 2, [], []), (.ireturn, 1, [], [])]),
  (10, [(.aload_n 0, 1, [], []), (.getfield 19, 3, [8, 1, 4, 3, 0, 4], []), (.aload_n 0, 1, [], []), (.getfield 58, 3, [8, 8, 5, 0, 0, 1], []), (.aload_n 0, 1, [], []), (.getfield 47, 3, [8, 5, 4, 31, 0, 7], []), (.iload_n 1, 1, [], []), (.iconst (-1), 1, [], []), (.invokevirtual 178, 3, [1], []), (.getfield 129, 3, [7, 2, 0, 0, 0, 0], []), (.ireturn, 1, [], [])])]
def Gh_will_cl : List (Instr × Nat) := [(.invokestatic 175, 0), (.invokevirtual 178, 1)]
set_option maxRecDepth 20000 in
theorem Gh_will_ck : Gh_will_bk.all (fun b => ax_chB 8 2 cX8_will Gh_will_cl b.1 b.2) = true := by decide +kernel
def Gh_will_cs : Ct := (2, 9, 1, (0, 0), fun as σ => (match as with
    | [.inr (.inr (.inl (k, 0, 8))), .inl a1] => Gh_will_pre k a1 σ
    | _ => False), fun as σ r σ' => (match as with
    | [.inr (.inr (.inl (k, 0, 8))), .inl a1] => Gh_will_post k a1 σ r σ'
    | _ => False))
theorem Gh_will_w : ∀ w ∈ ([.instanceMethod yX8_will, .selects yX8_will.cls yX8_will yX8_will, .initialized yX8_will.cls, .code yX8_will cX8_will 2 (some .int)] : List Cond), w ∈ ax_tb := ax_w4 (ax_m4 75 (by decide +kernel) rfl) (ax_m4 76 (by decide +kernel) rfl) (ax_m1 1 (by decide +kernel) rfl) (ax_m4 77 (by decide +kernel) rfl)
theorem Gh_will_ds : yX8_will.cls ≠ "java/lang/invoke/MethodHandle" ∧ yX8_will.cls ≠ "java/lang/invoke/VarHandle" ∧ (parseMethodDescriptor yX8_will.desc).map (fun d => d.parameters.length) = some 1 := by decide +kernel
def Gh_will_vc : Prop := ∀ (k : Nat) (a1 : Int) (σ : Hp), ax_H σ → Gh_will_pre k a1 σ →
  Gh_isAhead_pre a1 σ ∧
  ∀ (r2 : Int) (σ1 : Hp), Gh_isAhead_post a1 σ r2 σ1 →
  (¬ r2 = 0 →
    Ou_after_pre (k + 3) ((σ1 k 8).toNat) (k + 31) a1 (-1) σ1 ∧
    ∀ (r4 : Nat) (σ3 : Hp), Ou_after_post (k + 3) ((σ1 k 8).toNat) (k + 31) a1 (-1) σ1 (r4 : Int) σ3 →
    Gh_will_post k a1 σ (σ3 r4 2) σ3) ∧
  (¬ (¬ r2 = 0) →
    Gh_will_post k a1 σ (-2) σ1)
theorem Gh_will_p : Gh_will_vc := by
  intro k a σ hH hp
  obtain ⟨rfl, hP⟩ := hp
  have hX := hP.1
  refine ⟨trivial, ?_⟩
  rintro r2 σ1 ⟨rfl, rfl⟩
  refine ⟨fun h => ⟨⟨rfl, rfl, hP.ow, (ite1 h).1, (ite1 h).2, Or.inl rfl⟩, ?_⟩, fun h => ob0 hX ?_⟩
  · rintro r4 σ3 ⟨g0, g1, g2⟩
    have : r4 = 4 := by omega
    subst this
    refine ob1 hX g1 scx_sg ?_
    show _ = _
    rw [if_pos (ite1 h)]
    have : σ3 4 2 = (stX σ3 4).2.2.1 := rfl
    rw [this, g2]; rfl
  · show _ = _; rw [if_neg (ite0' h)]
def Gh_will_I : List AV → Hp → Nat → Nat → List AV → List AV → Hp → Prop := fun as σ0 pc n st ls σ => (match as with
    | [.inr (.inr (.inl (k, 0, 8))), .inl a1] => False
    | _ => False)
def Gh_will_ct : Nat → Ct := fun n => match n with
  | 0 => Gh_isAhead_cs
  | 1 => Ou_after_cs
  | _ => Gh_will_cs
set_option maxRecDepth 20000 in
set_option maxHeartbeats 4000000 in
theorem Gh_will_met {l : Launch} {D : va_G} {ad : Nat → Nat} {ca : Nat → ClassId} {L : Nat} {fx : Nat → Int} : ax_MC l D ad ca L fx yX8_will cX8_will 2 (some .int) 7 Gh_will_cs := by
  refine ax_met (oc := 8) (ct := Gh_will_ct) (calls := Gh_will_cl) (bs := Gh_will_bk) (cut := fun pc => false) (f := 3) (I := Gh_will_I) (by decide) rfl rfl Gh_will_ck (List.forall_mem_cons.mpr ⟨ax_cwS Gh_isAhead_met (by decide) (by decide) (ax_m4 78 (by decide +kernel) rfl) Gh_isAhead_w rfl Gh_isAhead_ds, List.forall_mem_cons.mpr ⟨ax_cwV Ou_after_met (by decide) (by decide) rfl (by decide) rfl (ax_m4 81 (by decide +kernel) rfl) Ou_after_w rfl Ou_after_ds, fun _ h => absurd h List.not_mem_nil⟩⟩) ?_ ?_
  · intro as σ0 hp hH
    match as, hp with
    | [.inr (.inr (.inl (k, 0, 8))), .inl a1], hp => exact ⟨rfl, Gh_will_p k a1 σ0 hH hp⟩
  · intro as σ0 hp n pc st ls σ hH hI
    match as, hp, hI with
    | [.inr (.inr (.inl (k, 0, 8))), .inl a1], hp, hI => exact False.elim hI
def Gh_cares_pre (k : Nat) (_a _b : Int) (σ : Hp) : Prop := k = 0 ∧ XP σ
def Gh_cares_post (_k : Nat) (a b : Int) (σ : Hp) (r : Int) (σ' : Hp) : Prop := XQ σ σ' ∧ s_cares (xA σ) a b r (xA σ')
def Gh_cares_bk : List (Nat × List Item) := [(0, [(.aload_n 0, 1, [], []), (.iload_n 1, 1, [], []), (.invokevirtual 102, 3, [0], []), (.ifCond .eq 10, 3, [15], []), (.iload_n 2, 1, [], []), (.invokestatic 175, 3, [1], []), (.ifCond .ne 5, 3, [17], [])]),
  (15, [(.iconst (-1), 1, [], []), (.ireturn, 1, [], [])]),
  (17, [(.aload_n 0, 1, [], []), (.getfield 19, 3, [8, 1, 4, 3, 0, 4], []), (.aload_n 0, 1, [], []), (.getfield 58, 3, [8, 8, 5, 0, 0, 1], []), (.aload_n 0, 1, [], []), (.getfield 47, 3, [8, 5, 4, 31, 0, 7], []), (.iload_n 2, 1, [], []), (.iconst 0, 1, [], []), (.invokevirtual 178, 3, [2], []), (.getfield 109, 3, [7, 0, 4, 1, 1, 6], []), (.iload_n 1, 1, [], []), (.iaload, 1, [], []), (.ireturn, 1, [], [])])]
def Gh_cares_cl : List (Instr × Nat) := [(.invokevirtual 102, 0), (.invokestatic 175, 1), (.invokevirtual 178, 2)]
set_option maxRecDepth 20000 in
theorem Gh_cares_ck : Gh_cares_bk.all (fun b => ax_chB 8 3 cX8_cares Gh_cares_cl b.1 b.2) = true := by decide +kernel
def Gh_cares_cs : Ct := (3, 9, 1, (0, 0), fun as σ => (match as with
    | [.inr (.inr (.inl (k, 0, 8))), .inl a1, .inl a2] => Gh_cares_pre k a1 a2 σ
    | _ => False), fun as σ r σ' => (match as with
    | [.inr (.inr (.inl (k, 0, 8))), .inl a1, .inl a2] => Gh_cares_post k a1 a2 σ r σ'
    | _ => False))
theorem Gh_cares_w : ∀ w ∈ ([.instanceMethod yX8_cares, .selects yX8_cares.cls yX8_cares yX8_cares, .initialized yX8_cares.cls, .code yX8_cares cX8_cares 3 (some .int)] : List Cond), w ∈ ax_tb := ax_w4 (ax_m4 91 (by decide +kernel) rfl) (ax_m4 92 (by decide +kernel) rfl) (ax_m1 1 (by decide +kernel) rfl) (ax_m4 93 (by decide +kernel) rfl)
theorem Gh_cares_ds : yX8_cares.cls ≠ "java/lang/invoke/MethodHandle" ∧ yX8_cares.cls ≠ "java/lang/invoke/VarHandle" ∧ (parseMethodDescriptor yX8_cares.desc).map (fun d => d.parameters.length) = some 2 := by decide +kernel
def Gh_cares_vc : Prop := ∀ (k : Nat) (a1 : Int) (a2 : Int) (σ : Hp), ax_H σ → Gh_cares_pre k a1 a2 σ →
  Gh_isPerson_pre k a1 σ ∧
  ∀ (r2 : Int) (σ1 : Hp), Gh_isPerson_post k a1 σ r2 σ1 →
  (r2 = 0 →
    Gh_cares_post k a1 a2 σ (-1) σ1) ∧
  (¬ (r2 = 0) →
    Gh_isAhead_pre a2 σ1 ∧
    ∀ (r4 : Int) (σ3 : Hp), Gh_isAhead_post a2 σ1 r4 σ3 →
    (¬ r4 = 0 →
      Ou_after_pre (k + 3) ((σ3 k 8).toNat) (k + 31) a2 0 σ3 ∧
      ∀ (r6 : Nat) (σ5 : Hp), Ou_after_post (k + 3) ((σ3 k 8).toNat) (k + 31) a2 0 σ3 (r6 : Int) σ5 →
      (0 ≤ a1 ∧ a1 < 6) ∧
      Gh_cares_post k a1 a2 σ (σ5 (r6 + 1) a1.toNat) σ5) ∧
    (¬ (¬ r4 = 0) →
      Gh_cares_post k a1 a2 σ (-1) σ3))
theorem Gh_cares_p : Gh_cares_vc := by
  intro k a b σ hH hp
  obtain ⟨rfl, hP⟩ := hp
  have hX := hP.1
  have hn6 := hP.n6
  have nf : fN (aF (xA σ)) = fN (famX σ (tld σ)) := rfl
  refine ⟨⟨rfl, hX⟩, ?_⟩
  rintro r2 σ1 ⟨rfl, rfl⟩
  refine ⟨fun h => ob0 hX ?_, fun h => ⟨trivial, ?_⟩⟩
  · show _ = _; rw [if_neg (fun z => ite0 h z.1)]
  · rintro r4 σ3 ⟨rfl, rfl⟩
    have hi := ite1 h
    refine ⟨fun h2 => ⟨⟨rfl, rfl, hP.ow, (ite1 h2).1, (ite1 h2).2, Or.inr rfl⟩, ?_⟩, fun h2 => ob0 hX ?_⟩
    · rintro r6 σ5 ⟨g0, g1, g2⟩
      have : r6 = 4 := by omega
      subst this
      refine ⟨⟨hi.1, by have := hi.2; omega⟩, ob1 hX g1 scx_sg ?_⟩
      show _ = _
      rw [if_pos ⟨hi, ite1 h2⟩]
      have : σ5 (4 + 1) a.toNat = (stX σ5 4).1 a.toNat := (tr_in (by have := hi.2; omega)).symm
      rw [this, g2]; rfl
    · show _ = _; rw [if_neg (fun z => ite0' h2 z.2)]
def Gh_cares_I : List AV → Hp → Nat → Nat → List AV → List AV → Hp → Prop := fun as σ0 pc n st ls σ => (match as with
    | [.inr (.inr (.inl (k, 0, 8))), .inl a1, .inl a2] => False
    | _ => False)
def Gh_cares_ct : Nat → Ct := fun n => match n with
  | 0 => Gh_isPerson_cs
  | 1 => Gh_isAhead_cs
  | 2 => Ou_after_cs
  | _ => Gh_cares_cs
set_option maxRecDepth 20000 in
set_option maxHeartbeats 4000000 in
theorem Gh_cares_met {l : Launch} {D : va_G} {ad : Nat → Nat} {ca : Nat → ClassId} {L : Nat} {fx : Nat → Int} : ax_MC l D ad ca L fx yX8_cares cX8_cares 3 (some .int) 7 Gh_cares_cs := by
  refine ax_met (oc := 8) (ct := Gh_cares_ct) (calls := Gh_cares_cl) (bs := Gh_cares_bk) (cut := fun pc => false) (f := 4) (I := Gh_cares_I) (by decide) rfl rfl Gh_cares_ck (List.forall_mem_cons.mpr ⟨ax_cwV Gh_isPerson_met (by decide) (by decide) rfl (by decide) rfl (ax_m3 188 (by decide +kernel) rfl) Gh_isPerson_w rfl Gh_isPerson_ds, List.forall_mem_cons.mpr ⟨ax_cwS Gh_isAhead_met (by decide) (by decide) (ax_m4 78 (by decide +kernel) rfl) Gh_isAhead_w rfl Gh_isAhead_ds, List.forall_mem_cons.mpr ⟨ax_cwV Ou_after_met (by decide) (by decide) rfl (by decide) rfl (ax_m4 81 (by decide +kernel) rfl) Ou_after_w rfl Ou_after_ds, fun _ h => absurd h List.not_mem_nil⟩⟩⟩) ?_ ?_
  · intro as σ0 hp hH
    match as, hp with
    | [.inr (.inr (.inl (k, 0, 8))), .inl a1, .inl a2], hp => exact ⟨rfl, Gh_cares_p k a1 a2 σ0 hH hp⟩
  · intro as σ0 hp n pc st ls σ hH hI
    match as, hp, hI with
    | [.inr (.inr (.inl (k, 0, 8))), .inl a1, .inl a2], hp, hI => exact False.elim hI
def Gh_next_pre (k : Nat) (σ : Hp) : Prop := k = 0 ∧ XP σ
def Gh_next_post (_k : Nat) (σ : Hp) (r : Int) (σ' : Hp) : Prop := XQ σ σ' ∧ s_next (xA σ) r (xA σ')
def Gh_next_bk : List (Nat × List Item) := [(0, [(.aload_n 0, 1, [], []), (.getfield 19, 3, [8, 1, 4, 3, 0, 4], []), (.aload_n 0, 1, [], []), (.getfield 58, 3, [8, 8, 5, 0, 0, 1], []), (.aload_n 0, 1, [], []), (.getfield 47, 3, [8, 5, 4, 31, 0, 7], []), (.iconst 1, 1, [], []), (.iconst 0, 1, [], []), (.invokevirtual 178, 3, [0], []), (.getfield 129, 3, [7, 2, 0, 0, 0, 0], []), (.ireturn, 1, [], [])])]
def Gh_next_cl : List (Instr × Nat) := [(.invokevirtual 178, 0)]
set_option maxRecDepth 20000 in
theorem Gh_next_ck : Gh_next_bk.all (fun b => ax_chB 8 1 cX8_next Gh_next_cl b.1 b.2) = true := by decide +kernel
def Gh_next_cs : Ct := (1, 9, 1, (0, 0), fun as σ => (match as with
    | [.inr (.inr (.inl (k, 0, 8)))] => Gh_next_pre k σ
    | _ => False), fun as σ r σ' => (match as with
    | [.inr (.inr (.inl (k, 0, 8)))] => Gh_next_post k σ r σ'
    | _ => False))
theorem Gh_next_w : ∀ w ∈ ([.instanceMethod yX8_next, .selects yX8_next.cls yX8_next yX8_next, .initialized yX8_next.cls, .code yX8_next cX8_next 1 (some .int)] : List Cond), w ∈ ax_tb := ax_w4 (ax_m4 95 (by decide +kernel) rfl) (ax_m4 96 (by decide +kernel) rfl) (ax_m1 1 (by decide +kernel) rfl) (ax_m4 97 (by decide +kernel) rfl)
theorem Gh_next_ds : yX8_next.cls ≠ "java/lang/invoke/MethodHandle" ∧ yX8_next.cls ≠ "java/lang/invoke/VarHandle" ∧ (parseMethodDescriptor yX8_next.desc).map (fun d => d.parameters.length) = some 0 := by decide +kernel
def Gh_next_vc : Prop := ∀ (k : Nat) (σ : Hp), ax_H σ → Gh_next_pre k σ →
  Ou_after_pre (k + 3) ((σ k 8).toNat) (k + 31) 1 0 σ ∧
  ∀ (r2 : Nat) (σ1 : Hp), Ou_after_post (k + 3) ((σ k 8).toNat) (k + 31) 1 0 σ (r2 : Int) σ1 →
  Gh_next_post k σ (σ1 r2 2) σ1
theorem Gh_next_p : Gh_next_vc := by
  intro k σ hH hp
  obtain ⟨rfl, hP⟩ := hp
  have hX := hP.1
  refine ⟨⟨rfl, rfl, hP.ow, by decide, by decide, Or.inr rfl⟩, ?_⟩
  rintro r4 σ3 ⟨g0, g1, g2⟩
  have : r4 = 4 := by omega
  subst this
  refine ob1 hX g1 scx_sg ?_
  show _ = _
  have : σ3 4 2 = (stX σ3 4).2.2.1 := rfl
  rw [this, g2]; rfl
def Gh_next_I : List AV → Hp → Nat → Nat → List AV → List AV → Hp → Prop := fun as σ0 pc n st ls σ => (match as with
    | [.inr (.inr (.inl (k, 0, 8)))] => False
    | _ => False)
def Gh_next_ct : Nat → Ct := fun n => match n with
  | 0 => Ou_after_cs
  | _ => Gh_next_cs
set_option maxRecDepth 20000 in
set_option maxHeartbeats 4000000 in
theorem Gh_next_met {l : Launch} {D : va_G} {ad : Nat → Nat} {ca : Nat → ClassId} {L : Nat} {fx : Nat → Int} : ax_MC l D ad ca L fx yX8_next cX8_next 1 (some .int) 7 Gh_next_cs := by
  refine ax_met (oc := 8) (ct := Gh_next_ct) (calls := Gh_next_cl) (bs := Gh_next_bk) (cut := fun pc => false) (f := 2) (I := Gh_next_I) (by decide) rfl rfl Gh_next_ck (List.forall_mem_cons.mpr ⟨ax_cwV Ou_after_met (by decide) (by decide) rfl (by decide) rfl (ax_m4 81 (by decide +kernel) rfl) Ou_after_w rfl Ou_after_ds, fun _ h => absurd h List.not_mem_nil⟩) ?_ ?_
  · intro as σ0 hp hH
    match as, hp with
    | [.inr (.inr (.inl (k, 0, 8)))], hp => exact ⟨rfl, Gh_next_p k σ0 hH hp⟩
  · intro as σ0 hp n pc st ls σ hH hI
    match as, hp, hI with
    | [.inr (.inr (.inl (k, 0, 8)))], hp, hI => exact False.elim hI
def Gh_spare_pre (k : Nat) (_a _b _c : Int) (σ : Hp) : Prop := k = 0 ∧ XP σ
def Gh_spare_post (_k : Nat) (a b c : Int) (σ : Hp) (r : Int) (σ' : Hp) : Prop := XQ σ σ' ∧ s_spare (xA σ) a b c r (xA σ')
def Gh_spare_bk : List (Nat × List Item) := [(0, [(.aload_n 0, 1, [], []), (.iload_n 1, 1, [], []), (.invokevirtual 102, 3, [0], []), (.ifCond .eq 21, 3, [26], []), (.iload_n 2, 1, [], []), (.iconst 1, 1, [], []), (.if_icmp .lt 16, 3, [26], []), (.iload_n 2, 1, [], []), (.bipush 20, 2, [], []), (.if_icmp .gt 10, 3, [26], []), (.iload_n 3, 1, [], []), (.invokestatic 182, 3, [1], []), (.ifCond .ne 5, 3, [28], [])]),
  (26, [(.iconst (-1), 1, [], []), (.ireturn, 1, [], [])]),
  (28, [(.aload_n 0, 1, [], []), (.getfield 19, 3, [8, 1, 4, 3, 0, 4], []), (.aload_n 0, 1, [], []), (.getfield 58, 3, [8, 8, 5, 0, 0, 1], []), (.aload_n 0, 1, [], []), (.getfield 47, 3, [8, 5, 4, 31, 0, 7], []), (.iload_n 1, 1, [], []), (.iload_n 2, 1, [], []), (.iload_n 3, 1, [], []), (.invokevirtual 185, 3, [2], []), (.ireturn, 1, [], [])])]
def Gh_spare_cl : List (Instr × Nat) := [(.invokevirtual 102, 0), (.invokestatic 182, 1), (.invokevirtual 185, 2)]
set_option maxRecDepth 20000 in
theorem Gh_spare_ck : Gh_spare_bk.all (fun b => ax_chB 8 4 cX8_spare Gh_spare_cl b.1 b.2) = true := by decide +kernel
def Gh_spare_cs : Ct := (4, 9, 1, (0, 0), fun as σ => (match as with
    | [.inr (.inr (.inl (k, 0, 8))), .inl a1, .inl a2, .inl a3] => Gh_spare_pre k a1 a2 a3 σ
    | _ => False), fun as σ r σ' => (match as with
    | [.inr (.inr (.inl (k, 0, 8))), .inl a1, .inl a2, .inl a3] => Gh_spare_post k a1 a2 a3 σ r σ'
    | _ => False))
theorem Gh_spare_w : ∀ w ∈ ([.instanceMethod yX8_spare, .selects yX8_spare.cls yX8_spare yX8_spare, .initialized yX8_spare.cls, .code yX8_spare cX8_spare 4 (some .int)] : List Cond), w ∈ ax_tb := ax_w4 (ax_m4 99 (by decide +kernel) rfl) (ax_m4 100 (by decide +kernel) rfl) (ax_m1 1 (by decide +kernel) rfl) (ax_m4 101 (by decide +kernel) rfl)
theorem Gh_spare_ds : yX8_spare.cls ≠ "java/lang/invoke/MethodHandle" ∧ yX8_spare.cls ≠ "java/lang/invoke/VarHandle" ∧ (parseMethodDescriptor yX8_spare.desc).map (fun d => d.parameters.length) = some 3 := by decide +kernel
def Gh_spare_vc : Prop := ∀ (k : Nat) (a1 : Int) (a2 : Int) (a3 : Int) (σ : Hp), ax_H σ → Gh_spare_pre k a1 a2 a3 σ →
  Gh_isPerson_pre k a1 σ ∧
  ∀ (r2 : Int) (σ1 : Hp), Gh_isPerson_post k a1 σ r2 σ1 →
  (r2 = 0 →
    Gh_spare_post k a1 a2 a3 σ (-1) σ1) ∧
  (¬ (r2 = 0) →
    (a2 < 1 →
      Gh_spare_post k a1 a2 a3 σ (-1) σ1) ∧
    (¬ (a2 < 1) →
      (20 < a2 →
        Gh_spare_post k a1 a2 a3 σ (-1) σ1) ∧
      (¬ (20 < a2) →
        Gh_isOneOfTwo_pre a3 σ1 ∧
        ∀ (r4 : Int) (σ3 : Hp), Gh_isOneOfTwo_post a3 σ1 r4 σ3 →
        (¬ r4 = 0 →
          Ou_findSpare_pre (k + 3) ((σ3 k 8).toNat) (k + 31) a1 a2 a3 σ3 ∧
          ∀ (r6 : Int) (σ5 : Hp), Ou_findSpare_post (k + 3) ((σ3 k 8).toNat) (k + 31) a1 a2 a3 σ3 r6 σ5 →
          Gh_spare_post k a1 a2 a3 σ r6 σ5) ∧
        (¬ (¬ r4 = 0) →
          Gh_spare_post k a1 a2 a3 σ (-1) σ3))))
theorem Gh_spare_p : Gh_spare_vc := by
  intro k a b c σ hH hp
  obtain ⟨rfl, hP⟩ := hp
  have hX := hP.1
  refine ⟨⟨rfl, hX⟩, ?_⟩
  rintro r2 σ1 ⟨rfl, rfl⟩
  refine ⟨fun h => ob0 hX ?_, fun h => ⟨fun h2 => ob0 hX ?_, fun h2 => ⟨fun h3 => ob0 hX ?_, fun h3 => ⟨trivial, ?_⟩⟩⟩⟩
  · show if _ then _ else _; rw [if_neg (fun z => ite0 h z.1)]
  · show if _ then _ else _; rw [if_neg (fun z => by have := z.2.1; omega)]
  · show if _ then _ else _; rw [if_neg (fun z => by have := z.2.1; omega)]
  · rintro r4 σ3 ⟨rfl, rfl⟩
    refine ⟨fun h4 => ⟨⟨rfl, rfl, hP.ow, (ite1 h).1, (ite1 h).2, by omega, by omega, ite1 h4⟩, ?_⟩, fun h4 => ob0 hX ?_⟩
    · rintro r6 σ5 ⟨g1, g2⟩
      refine ob1 hX g1 scx_sg ?_
      show if _ then _ else _
      rw [if_pos ⟨ite1 h, ⟨by omega, by omega⟩, ite1 h4⟩]
      exact g2
    · show if _ then _ else _; rw [if_neg (fun z => ite0' h4 z.2.2)]
def Gh_spare_I : List AV → Hp → Nat → Nat → List AV → List AV → Hp → Prop := fun as σ0 pc n st ls σ => (match as with
    | [.inr (.inr (.inl (k, 0, 8))), .inl a1, .inl a2, .inl a3] => False
    | _ => False)
def Gh_spare_ct : Nat → Ct := fun n => match n with
  | 0 => Gh_isPerson_cs
  | 1 => Gh_isOneOfTwo_cs
  | 2 => Ou_findSpare_cs
  | _ => Gh_spare_cs
set_option maxRecDepth 20000 in
set_option maxHeartbeats 4000000 in
theorem Gh_spare_met {l : Launch} {D : va_G} {ad : Nat → Nat} {ca : Nat → ClassId} {L : Nat} {fx : Nat → Int} : ax_MC l D ad ca L fx yX8_spare cX8_spare 4 (some .int) 8 Gh_spare_cs := by
  refine ax_met (oc := 8) (ct := Gh_spare_ct) (calls := Gh_spare_cl) (bs := Gh_spare_bk) (cut := fun pc => false) (f := 4) (I := Gh_spare_I) (by decide) rfl rfl Gh_spare_ck (List.forall_mem_cons.mpr ⟨ax_cwV Gh_isPerson_met (by decide) (by decide) rfl (by decide) rfl (ax_m3 188 (by decide +kernel) rfl) Gh_isPerson_w rfl Gh_isPerson_ds, List.forall_mem_cons.mpr ⟨ax_cwS Gh_isOneOfTwo_met (by decide) (by decide) (ax_m4 102 (by decide +kernel) rfl) Gh_isOneOfTwo_w rfl Gh_isOneOfTwo_ds, List.forall_mem_cons.mpr ⟨ax_cwV Ou_findSpare_met (by decide) (by decide) rfl (by decide) rfl (ax_m4 105 (by decide +kernel) rfl) Ou_findSpare_w rfl Ou_findSpare_ds, fun _ h => absurd h List.not_mem_nil⟩⟩⟩) ?_ ?_
  · intro as σ0 hp hH
    match as, hp with
    | [.inr (.inr (.inl (k, 0, 8))), .inl a1, .inl a2, .inl a3], hp => exact ⟨rfl, Gh_spare_p k a1 a2 a3 σ0 hH hp⟩
  · intro as σ0 hp n pc st ls σ hH hI
    match as, hp, hI with
    | [.inr (.inr (.inl (k, 0, 8))), .inl a1, .inl a2, .inl a3], hp, hI => exact False.elim hI
def Gh_easing_pre (k : Nat) (_a : Int) (σ : Hp) : Prop := k = 0 ∧ XP σ
def Gh_easing_post (_k : Nat) (a : Int) (σ : Hp) (r : Int) (σ' : Hp) : Prop := XQ σ σ' ∧ s_easing (xA σ) a r (xA σ')
def Gh_easing_bk : List (Nat × List Item) := [(0, [(.aload_n 0, 1, [], []), (.iload_n 1, 1, [], []), (.invokevirtual 102, 3, [0], []), (.ifCond .ne 5, 3, [10], []), (.iconst (-1), 1, [], []), (.ireturn, 1, [], [])]),
  (10, [(.aload_n 0, 1, [], []), (.getfield 19, 3, [8, 1, 4, 3, 0, 4], []), (.aload_n 0, 1, [], []), (.getfield 58, 3, [8, 8, 5, 0, 0, 1], []), (.aload_n 0, 1, [], []), (.getfield 47, 3, [8, 5, 4, 31, 0, 7], []), (.iload_n 1, 1, [], []), (.invokevirtual 189, 3, [1], []), (.ireturn, 1, [], [])])]
def Gh_easing_cl : List (Instr × Nat) := [(.invokevirtual 102, 0), (.invokevirtual 189, 1)]
set_option maxRecDepth 20000 in
theorem Gh_easing_ck : Gh_easing_bk.all (fun b => ax_chB 8 2 cX8_easing Gh_easing_cl b.1 b.2) = true := by decide +kernel
def Gh_easing_cs : Ct := (2, 9, 1, (0, 0), fun as σ => (match as with
    | [.inr (.inr (.inl (k, 0, 8))), .inl a1] => Gh_easing_pre k a1 σ
    | _ => False), fun as σ r σ' => (match as with
    | [.inr (.inr (.inl (k, 0, 8))), .inl a1] => Gh_easing_post k a1 σ r σ'
    | _ => False))
theorem Gh_easing_w : ∀ w ∈ ([.instanceMethod yX8_easing, .selects yX8_easing.cls yX8_easing yX8_easing, .initialized yX8_easing.cls, .code yX8_easing cX8_easing 2 (some .int)] : List Cond), w ∈ ax_tb := ax_w4 (ax_m4 115 (by decide +kernel) rfl) (ax_m4 116 (by decide +kernel) rfl) (ax_m1 1 (by decide +kernel) rfl) (ax_m4 117 (by decide +kernel) rfl)
theorem Gh_easing_ds : yX8_easing.cls ≠ "java/lang/invoke/MethodHandle" ∧ yX8_easing.cls ≠ "java/lang/invoke/VarHandle" ∧ (parseMethodDescriptor yX8_easing.desc).map (fun d => d.parameters.length) = some 1 := by decide +kernel
def Gh_easing_vc : Prop := ∀ (k : Nat) (a1 : Int) (σ : Hp), ax_H σ → Gh_easing_pre k a1 σ →
  Gh_isPerson_pre k a1 σ ∧
  ∀ (r2 : Int) (σ1 : Hp), Gh_isPerson_post k a1 σ r2 σ1 →
  (¬ r2 = 0 →
    Ou_findEasing_pre (k + 3) ((σ1 k 8).toNat) (k + 31) a1 σ1 ∧
    ∀ (r4 : Int) (σ3 : Hp), Ou_findEasing_post (k + 3) ((σ1 k 8).toNat) (k + 31) a1 σ1 r4 σ3 →
    Gh_easing_post k a1 σ r4 σ3) ∧
  (¬ (¬ r2 = 0) →
    Gh_easing_post k a1 σ (-1) σ1)
theorem Gh_easing_p : Gh_easing_vc := by
  intro k a σ hH hp
  obtain ⟨rfl, hP⟩ := hp
  have hX := hP.1
  have hn6 := hP.n6
  have nf : fN (aF (xA σ)) = fN (famX σ (tld σ)) := rfl
  refine ⟨⟨rfl, hX⟩, ?_⟩
  rintro r2 σ1 ⟨rfl, rfl⟩
  refine ⟨fun h => ⟨⟨rfl, rfl, hP.ow, (ite1 h).1, by have := (ite1 h).2; omega⟩, ?_⟩, fun h => ob0 hX ?_⟩
  · rintro r4 σ3 ⟨g1, g2⟩
    refine ob1 hX g1 scx_sg ?_
    show if _ then _ else _
    rw [if_pos (ite1 h)]
    exact g2
  · show if _ then _ else _; rw [if_neg (ite0' h)]
def Gh_easing_I : List AV → Hp → Nat → Nat → List AV → List AV → Hp → Prop := fun as σ0 pc n st ls σ => (match as with
    | [.inr (.inr (.inl (k, 0, 8))), .inl a1] => False
    | _ => False)
def Gh_easing_ct : Nat → Ct := fun n => match n with
  | 0 => Gh_isPerson_cs
  | 1 => Ou_findEasing_cs
  | _ => Gh_easing_cs
set_option maxRecDepth 20000 in
set_option maxHeartbeats 4000000 in
theorem Gh_easing_met {l : Launch} {D : va_G} {ad : Nat → Nat} {ca : Nat → ClassId} {L : Nat} {fx : Nat → Int} : ax_MC l D ad ca L fx yX8_easing cX8_easing 2 (some .int) 8 Gh_easing_cs := by
  refine ax_met (oc := 8) (ct := Gh_easing_ct) (calls := Gh_easing_cl) (bs := Gh_easing_bk) (cut := fun pc => false) (f := 3) (I := Gh_easing_I) (by decide) rfl rfl Gh_easing_ck (List.forall_mem_cons.mpr ⟨ax_cwV Gh_isPerson_met (by decide) (by decide) rfl (by decide) rfl (ax_m3 188 (by decide +kernel) rfl) Gh_isPerson_w rfl Gh_isPerson_ds, List.forall_mem_cons.mpr ⟨ax_cwV Ou_findEasing_met (by decide) (by decide) rfl (by decide) rfl (ax_m4 118 (by decide +kernel) rfl) Ou_findEasing_w rfl Ou_findEasing_ds, fun _ h => absurd h List.not_mem_nil⟩⟩) ?_ ?_
  · intro as σ0 hp hH
    match as, hp with
    | [.inr (.inr (.inl (k, 0, 8))), .inl a1], hp => exact ⟨rfl, Gh_easing_p k a1 σ0 hH hp⟩
  · intro as σ0 hp n pc st ls σ hH hI
    match as, hp, hI with
    | [.inr (.inr (.inl (k, 0, 8))), .inl a1], hp, hI => exact False.elim hI
theorem Bst_R {P : Nat → Prop} {n : Nat} {r : Int} (h : Bst P n r) : r = -1 ∨ (0 ≤ r ∧ r < (n : Int)) := by
  rcases h with ⟨x, h1, rfl, -⟩ | ⟨rfl, -⟩
  · right; omega
  · left; rfl
def Gh_hush_pre (k : Nat) (_a : Int) (σ : Hp) : Prop := k = 0 ∧ XP σ
def Gh_hush_post (_k : Nat) (a : Int) (σ : Hp) (r : Int) (σ' : Hp) : Prop := XQ σ σ' ∧ s_hush (xA σ) a r (xA σ')
def Gh_hush_bk : List (Nat × List Item) := [(0, [(.iload_n 1, 1, [], []), (.invokestatic 182, 3, [0], []), (.ifCond .ne 5, 3, [9], []), (.iconst (-1), 1, [], []), (.ireturn, 1, [], [])]),
  (9, [(.aload_n 0, 1, [], []), (.getfield 19, 3, [8, 1, 4, 3, 0, 4], []), (.aload_n 0, 1, [], []), (.getfield 58, 3, [8, 8, 5, 0, 0, 1], []), (.aload_n 0, 1, [], []), (.getfield 47, 3, [8, 5, 4, 31, 0, 7], []), (.invokevirtual 193, 3, [1], []), (.iload_n 1, 1, [], []), (.invokestatic 197, 3, [2], []), (.ireturn, 1, [], [])])]
def Gh_hush_cl : List (Instr × Nat) := [(.invokestatic 182, 0), (.invokevirtual 193, 1), (.invokestatic 197, 2)]
set_option maxRecDepth 20000 in
theorem Gh_hush_ck : Gh_hush_bk.all (fun b => ax_chB 8 2 cX8_hush Gh_hush_cl b.1 b.2) = true := by decide +kernel
def Gh_hush_cs : Ct := (2, 9, 1, (0, 0), fun as σ => (match as with
    | [.inr (.inr (.inl (k, 0, 8))), .inl a1] => Gh_hush_pre k a1 σ
    | _ => False), fun as σ r σ' => (match as with
    | [.inr (.inr (.inl (k, 0, 8))), .inl a1] => Gh_hush_post k a1 σ r σ'
    | _ => False))
theorem Gh_hush_w : ∀ w ∈ ([.instanceMethod yX8_hush, .selects yX8_hush.cls yX8_hush yX8_hush, .initialized yX8_hush.cls, .code yX8_hush cX8_hush 2 (some .int)] : List Cond), w ∈ ax_tb := ax_w4 (ax_m4 123 (by decide +kernel) rfl) (ax_m4 124 (by decide +kernel) rfl) (ax_m1 1 (by decide +kernel) rfl) (ax_m4 125 (by decide +kernel) rfl)
theorem Gh_hush_ds : yX8_hush.cls ≠ "java/lang/invoke/MethodHandle" ∧ yX8_hush.cls ≠ "java/lang/invoke/VarHandle" ∧ (parseMethodDescriptor yX8_hush.desc).map (fun d => d.parameters.length) = some 1 := by decide +kernel
def Gh_hush_vc : Prop := ∀ (k : Nat) (a1 : Int) (σ : Hp), ax_H σ → Gh_hush_pre k a1 σ →
  Gh_isOneOfTwo_pre a1 σ ∧
  ∀ (r2 : Int) (σ1 : Hp), Gh_isOneOfTwo_post a1 σ r2 σ1 →
  (¬ r2 = 0 →
    Ou_findHush_pre (k + 3) ((σ1 k 8).toNat) (k + 31) σ1 ∧
    ∀ (r4 : Int) (σ3 : Hp), Ou_findHush_post (k + 3) ((σ1 k 8).toNat) (k + 31) σ1 r4 σ3 →
    Gh_countOrSet_pre r4 a1 σ3 ∧
    ∀ (r6 : Int) (σ5 : Hp), Gh_countOrSet_post r4 a1 σ3 r6 σ5 →
    Gh_hush_post k a1 σ r6 σ5) ∧
  (¬ (¬ r2 = 0) →
    Gh_hush_post k a1 σ (-1) σ1)
theorem Gh_hush_p : Gh_hush_vc := by
  intro k a σ hH hp
  obtain ⟨rfl, hP⟩ := hp
  have hX := hP.1
  refine ⟨trivial, ?_⟩
  rintro r2 σ1 ⟨rfl, rfl⟩
  have hk : kn (stX σ1 31).2.1 6 ≤ 12 := hP.2.2.2.1.2.2.1
  refine ⟨fun h => ⟨⟨rfl, rfl, hP.ow, hk⟩, ?_⟩, fun h => ob0 hX ?_⟩
  · rintro r4 σ3 ⟨g1, g2⟩
    have hl : (2 : Nat) ^ kn (stX σ1 31).2.1 6 ≤ 2 ^ 12 := Nat.pow_le_pow_right (by decide) hk
    refine ⟨by rcases Bst_R g2 with z | z
               · exact Or.inl z
               · exact Or.inr ⟨z.1, by omega⟩, ?_⟩
    rintro r6 σ5 ⟨rfl, rfl⟩
    refine ob1 hX g1 scx_hh ?_
    show if _ then _ else _
    rw [if_pos (ite1 h)]
    exact ⟨r4, g2, rfl⟩
  · show if _ then _ else _; rw [if_neg (ite0' h)]
def Gh_hush_I : List AV → Hp → Nat → Nat → List AV → List AV → Hp → Prop := fun as σ0 pc n st ls σ => (match as with
    | [.inr (.inr (.inl (k, 0, 8))), .inl a1] => False
    | _ => False)
def Gh_hush_ct : Nat → Ct := fun n => match n with
  | 0 => Gh_isOneOfTwo_cs
  | 1 => Ou_findHush_cs
  | 2 => Gh_countOrSet_cs
  | _ => Gh_hush_cs
set_option maxRecDepth 20000 in
set_option maxHeartbeats 4000000 in
theorem Gh_hush_met {l : Launch} {D : va_G} {ad : Nat → Nat} {ca : Nat → ClassId} {L : Nat} {fx : Nat → Int} : ax_MC l D ad ca L fx yX8_hush cX8_hush 2 (some .int) 6 Gh_hush_cs := by
  refine ax_met (oc := 8) (ct := Gh_hush_ct) (calls := Gh_hush_cl) (bs := Gh_hush_bk) (cut := fun pc => false) (f := 3) (I := Gh_hush_I) (by decide) rfl rfl Gh_hush_ck (List.forall_mem_cons.mpr ⟨ax_cwS Gh_isOneOfTwo_met (by decide) (by decide) (ax_m4 102 (by decide +kernel) rfl) Gh_isOneOfTwo_w rfl Gh_isOneOfTwo_ds, List.forall_mem_cons.mpr ⟨ax_cwV Ou_findHush_met (by decide) (by decide) rfl (by decide) rfl (ax_m4 126 (by decide +kernel) rfl) Ou_findHush_w rfl Ou_findHush_ds, List.forall_mem_cons.mpr ⟨ax_cwS Gh_countOrSet_met (by decide) (by decide) (ax_m4 149 (by decide +kernel) rfl) Gh_countOrSet_w rfl Gh_countOrSet_ds, fun _ h => absurd h List.not_mem_nil⟩⟩⟩) ?_ ?_
  · intro as σ0 hp hH
    match as, hp with
    | [.inr (.inr (.inl (k, 0, 8))), .inl a1], hp => exact ⟨rfl, Gh_hush_p k a1 σ0 hH hp⟩
  · intro as σ0 hp n pc st ls σ hH hI
    match as, hp, hI with
    | [.inr (.inr (.inl (k, 0, 8))), .inl a1], hp, hI => exact False.elim hI
def Gh_silence_pre (k : Nat) (_a _b : Int) (σ : Hp) : Prop := k = 0 ∧ XP σ
def Gh_silence_post (_k : Nat) (a b : Int) (σ : Hp) (r : Int) (σ' : Hp) : Prop := XQ σ σ' ∧ s_silence (xA σ) a b r (xA σ')
def Gh_silence_bk : List (Nat × List Item) := [(0, [(.aload_n 0, 1, [], []), (.iload_n 1, 1, [], []), (.invokevirtual 102, 3, [0], []), (.ifCond .eq 10, 3, [15], []), (.iload_n 2, 1, [], []), (.invokestatic 182, 3, [1], []), (.ifCond .ne 5, 3, [17], [])]),
  (15, [(.iconst (-1), 1, [], []), (.ireturn, 1, [], [])]),
  (17, [(.aload_n 0, 1, [], []), (.getfield 19, 3, [8, 1, 4, 3, 0, 4], []), (.aload_n 0, 1, [], []), (.getfield 58, 3, [8, 8, 5, 0, 0, 1], []), (.aload_n 0, 1, [], []), (.getfield 47, 3, [8, 5, 4, 31, 0, 7], []), (.iload_n 1, 1, [], []), (.invokevirtual 235, 3, [2], []), (.iload_n 2, 1, [], []), (.invokestatic 197, 3, [3], []), (.ireturn, 1, [], [])])]
def Gh_silence_cl : List (Instr × Nat) := [(.invokevirtual 102, 0), (.invokestatic 182, 1), (.invokevirtual 235, 2), (.invokestatic 197, 3)]
set_option maxRecDepth 20000 in
theorem Gh_silence_ck : Gh_silence_bk.all (fun b => ax_chB 8 3 cX8_silence Gh_silence_cl b.1 b.2) = true := by decide +kernel
def Gh_silence_cs : Ct := (3, 9, 1, (0, 0), fun as σ => (match as with
    | [.inr (.inr (.inl (k, 0, 8))), .inl a1, .inl a2] => Gh_silence_pre k a1 a2 σ
    | _ => False), fun as σ r σ' => (match as with
    | [.inr (.inr (.inl (k, 0, 8))), .inl a1, .inl a2] => Gh_silence_post k a1 a2 σ r σ'
    | _ => False))
theorem Gh_silence_w : ∀ w ∈ ([.instanceMethod yX8_silence, .selects yX8_silence.cls yX8_silence yX8_silence, .initialized yX8_silence.cls, .code yX8_silence cX8_silence 3 (some .int)] : List Cond), w ∈ ax_tb := ax_w4 (ax_m5 33 (by decide +kernel) rfl) (ax_m5 34 (by decide +kernel) rfl) (ax_m1 1 (by decide +kernel) rfl) (ax_m5 35 (by decide +kernel) rfl)
theorem Gh_silence_ds : yX8_silence.cls ≠ "java/lang/invoke/MethodHandle" ∧ yX8_silence.cls ≠ "java/lang/invoke/VarHandle" ∧ (parseMethodDescriptor yX8_silence.desc).map (fun d => d.parameters.length) = some 2 := by decide +kernel
def Gh_silence_vc : Prop := ∀ (k : Nat) (a1 : Int) (a2 : Int) (σ : Hp), ax_H σ → Gh_silence_pre k a1 a2 σ →
  Gh_isPerson_pre k a1 σ ∧
  ∀ (r2 : Int) (σ1 : Hp), Gh_isPerson_post k a1 σ r2 σ1 →
  (r2 = 0 →
    Gh_silence_post k a1 a2 σ (-1) σ1) ∧
  (¬ (r2 = 0) →
    Gh_isOneOfTwo_pre a2 σ1 ∧
    ∀ (r4 : Int) (σ3 : Hp), Gh_isOneOfTwo_post a2 σ1 r4 σ3 →
    (¬ r4 = 0 →
      Ou_findSilence_pre (k + 3) ((σ3 k 8).toNat) (k + 31) a1 σ3 ∧
      ∀ (r6 : Int) (σ5 : Hp), Ou_findSilence_post (k + 3) ((σ3 k 8).toNat) (k + 31) a1 σ3 r6 σ5 →
      Gh_countOrSet_pre r6 a2 σ5 ∧
      ∀ (r8 : Int) (σ7 : Hp), Gh_countOrSet_post r6 a2 σ5 r8 σ7 →
      Gh_silence_post k a1 a2 σ r8 σ7) ∧
    (¬ (¬ r4 = 0) →
      Gh_silence_post k a1 a2 σ (-1) σ3))
theorem Gh_silence_p : Gh_silence_vc := by
  intro k a b σ hH hp
  obtain ⟨rfl, hP⟩ := hp
  have hX := hP.1
  have hn6 := hP.n6
  have nf : fN (aF (xA σ)) = fN (famX σ (tld σ)) := rfl
  refine ⟨⟨rfl, hX⟩, ?_⟩
  rintro r2 σ1 ⟨rfl, rfl⟩
  refine ⟨fun h => ob0 hX ?_, fun h => ⟨trivial, ?_⟩⟩
  · show if _ then _ else _; rw [if_neg (fun z => ite0 h z.1)]
  · rintro r4 σ3 ⟨rfl, rfl⟩
    refine ⟨fun h2 => ⟨⟨rfl, rfl, hP.ow, (ite1 h).1, by have := (ite1 h).2; omega⟩, ?_⟩, fun h2 => ob0 hX ?_⟩
    · rintro r6 σ5 ⟨g1, g2⟩
      refine ⟨by rcases Bst_R g2 with z | z
                 · exact Or.inl z
                 · exact Or.inr ⟨z.1, by omega⟩, ?_⟩
      rintro r8 σ7 ⟨rfl, rfl⟩
      refine ob1 hX g1 scx_sg ?_
      show if _ then _ else _
      rw [if_pos ⟨ite1 h, ite1 h2⟩]
      exact ⟨r6, g2, rfl⟩
    · show if _ then _ else _; rw [if_neg (fun z => ite0' h2 z.2)]
def Gh_silence_I : List AV → Hp → Nat → Nat → List AV → List AV → Hp → Prop := fun as σ0 pc n st ls σ => (match as with
    | [.inr (.inr (.inl (k, 0, 8))), .inl a1, .inl a2] => False
    | _ => False)
def Gh_silence_ct : Nat → Ct := fun n => match n with
  | 0 => Gh_isPerson_cs
  | 1 => Gh_isOneOfTwo_cs
  | 2 => Ou_findSilence_cs
  | 3 => Gh_countOrSet_cs
  | _ => Gh_silence_cs
set_option maxRecDepth 20000 in
set_option maxHeartbeats 4000000 in
theorem Gh_silence_met {l : Launch} {D : va_G} {ad : Nat → Nat} {ca : Nat → ClassId} {L : Nat} {fx : Nat → Int} : ax_MC l D ad ca L fx yX8_silence cX8_silence 3 (some .int) 7 Gh_silence_cs := by
  refine ax_met (oc := 8) (ct := Gh_silence_ct) (calls := Gh_silence_cl) (bs := Gh_silence_bk) (cut := fun pc => false) (f := 4) (I := Gh_silence_I) (by decide) rfl rfl Gh_silence_ck (List.forall_mem_cons.mpr ⟨ax_cwV Gh_isPerson_met (by decide) (by decide) rfl (by decide) rfl (ax_m3 188 (by decide +kernel) rfl) Gh_isPerson_w rfl Gh_isPerson_ds, List.forall_mem_cons.mpr ⟨ax_cwS Gh_isOneOfTwo_met (by decide) (by decide) (ax_m4 102 (by decide +kernel) rfl) Gh_isOneOfTwo_w rfl Gh_isOneOfTwo_ds, List.forall_mem_cons.mpr ⟨ax_cwV Ou_findSilence_met (by decide) (by decide) rfl (by decide) rfl (ax_m5 36 (by decide +kernel) rfl) Ou_findSilence_w rfl Ou_findSilence_ds, List.forall_mem_cons.mpr ⟨ax_cwS Gh_countOrSet_met (by decide) (by decide) (ax_m4 149 (by decide +kernel) rfl) Gh_countOrSet_w rfl Gh_countOrSet_ds, fun _ h => absurd h List.not_mem_nil⟩⟩⟩⟩) ?_ ?_
  · intro as σ0 hp hH
    match as, hp with
    | [.inr (.inr (.inl (k, 0, 8))), .inl a1, .inl a2], hp => exact ⟨rfl, Gh_silence_p k a1 a2 σ0 hH hp⟩
  · intro as σ0 hp n pc st ls σ hH hI
    match as, hp, hI with
    | [.inr (.inr (.inl (k, 0, 8))), .inl a1, .inl a2], hp, hI => exact False.elim hI
def Gh_nights_pre (k : Nat) (_a _b : Int) (σ : Hp) : Prop := k = 0 ∧ XP σ
def Gh_nights_post (_k : Nat) (a b : Int) (σ : Hp) (r : Int) (σ' : Hp) : Prop := XQ σ σ' ∧ s_nights (xA σ) a b r (xA σ')
def Gh_nights_bk : List (Nat × List Item) := [(0, [(.aload_n 0, 1, [], []), (.iload_n 1, 1, [], []), (.invokevirtual 102, 3, [0], []), (.ifCond .eq 10, 3, [15], []), (.iload_n 2, 1, [], []), (.invokestatic 175, 3, [1], []), (.ifCond .ne 5, 3, [17], [])]),
  (15, [(.iconst (-1), 1, [], []), (.ireturn, 1, [], [])]),
  (17, [(.aload_n 0, 1, [], []), (.getfield 19, 3, [8, 1, 4, 3, 0, 4], []), (.aload_n 0, 1, [], []), (.getfield 58, 3, [8, 8, 5, 0, 0, 1], []), (.aload_n 0, 1, [], []), (.getfield 47, 3, [8, 5, 4, 31, 0, 7], []), (.iload_n 1, 1, [], []), (.iload_n 2, 1, [], []), (.invokevirtual 204, 3, [2], []), (.ireturn, 1, [], [])])]
def Gh_nights_cl : List (Instr × Nat) := [(.invokevirtual 102, 0), (.invokestatic 175, 1), (.invokevirtual 204, 2)]
set_option maxRecDepth 20000 in
theorem Gh_nights_ck : Gh_nights_bk.all (fun b => ax_chB 8 3 cX8_nights Gh_nights_cl b.1 b.2) = true := by decide +kernel
def Gh_nights_cs : Ct := (3, 9, 1, (0, 0), fun as σ => (match as with
    | [.inr (.inr (.inl (k, 0, 8))), .inl a1, .inl a2] => Gh_nights_pre k a1 a2 σ
    | _ => False), fun as σ r σ' => (match as with
    | [.inr (.inr (.inl (k, 0, 8))), .inl a1, .inl a2] => Gh_nights_post k a1 a2 σ r σ'
    | _ => False))
theorem Gh_nights_w : ∀ w ∈ ([.instanceMethod yX8_nights, .selects yX8_nights.cls yX8_nights yX8_nights, .initialized yX8_nights.cls, .code yX8_nights cX8_nights 3 (some .int)] : List Cond), w ∈ ax_tb := ax_w4 (ax_m4 179 (by decide +kernel) rfl) (ax_m4 180 (by decide +kernel) rfl) (ax_m1 1 (by decide +kernel) rfl) (ax_m4 181 (by decide +kernel) rfl)
theorem Gh_nights_ds : yX8_nights.cls ≠ "java/lang/invoke/MethodHandle" ∧ yX8_nights.cls ≠ "java/lang/invoke/VarHandle" ∧ (parseMethodDescriptor yX8_nights.desc).map (fun d => d.parameters.length) = some 2 := by decide +kernel
def Gh_nights_vc : Prop := ∀ (k : Nat) (a1 : Int) (a2 : Int) (σ : Hp), ax_H σ → Gh_nights_pre k a1 a2 σ →
  Gh_isPerson_pre k a1 σ ∧
  ∀ (r2 : Int) (σ1 : Hp), Gh_isPerson_post k a1 σ r2 σ1 →
  (r2 = 0 →
    Gh_nights_post k a1 a2 σ (-1) σ1) ∧
  (¬ (r2 = 0) →
    Gh_isAhead_pre a2 σ1 ∧
    ∀ (r4 : Int) (σ3 : Hp), Gh_isAhead_post a2 σ1 r4 σ3 →
    (¬ r4 = 0 →
      Ou_countNights_pre (k + 3) ((σ3 k 8).toNat) (k + 31) a1 a2 σ3 ∧
      ∀ (r6 : Int) (σ5 : Hp), Ou_countNights_post (k + 3) ((σ3 k 8).toNat) (k + 31) a1 a2 σ3 r6 σ5 →
      Gh_nights_post k a1 a2 σ r6 σ5) ∧
    (¬ (¬ r4 = 0) →
      Gh_nights_post k a1 a2 σ (-1) σ3))
theorem Gh_nights_p : Gh_nights_vc := by
  intro k a b σ hH hp
  obtain ⟨rfl, hP⟩ := hp
  have hX := hP.1
  refine ⟨⟨rfl, hX⟩, ?_⟩
  rintro r2 σ1 ⟨rfl, rfl⟩
  refine ⟨fun h => ob0 hX ?_, fun h => ⟨trivial, ?_⟩⟩
  · show _ = _; rw [if_neg (fun z => ite0 h z.1)]
  · rintro r4 σ3 ⟨rfl, rfl⟩
    refine ⟨fun h2 => ⟨⟨rfl, rfl, hP.ow, (ite1 h2).1, (ite1 h2).2⟩, ?_⟩, fun h2 => ob0 hX ?_⟩
    · rintro r6 σ5 ⟨g1, rfl⟩
      refine ob1 hX g1 scx_sg ?_
      show _ = _; rw [if_pos ⟨ite1 h, ite1 h2⟩]; rfl
    · show _ = _; rw [if_neg (fun z => ite0' h2 z.2)]
def Gh_nights_I : List AV → Hp → Nat → Nat → List AV → List AV → Hp → Prop := fun as σ0 pc n st ls σ => (match as with
    | [.inr (.inr (.inl (k, 0, 8))), .inl a1, .inl a2] => False
    | _ => False)
def Gh_nights_ct : Nat → Ct := fun n => match n with
  | 0 => Gh_isPerson_cs
  | 1 => Gh_isAhead_cs
  | 2 => Ou_countNights_cs
  | _ => Gh_nights_cs
set_option maxRecDepth 20000 in
set_option maxHeartbeats 4000000 in
theorem Gh_nights_met {l : Launch} {D : va_G} {ad : Nat → Nat} {ca : Nat → ClassId} {L : Nat} {fx : Nat → Int} : ax_MC l D ad ca L fx yX8_nights cX8_nights 3 (some .int) 7 Gh_nights_cs := by
  refine ax_met (oc := 8) (ct := Gh_nights_ct) (calls := Gh_nights_cl) (bs := Gh_nights_bk) (cut := fun pc => false) (f := 4) (I := Gh_nights_I) (by decide) rfl rfl Gh_nights_ck (List.forall_mem_cons.mpr ⟨ax_cwV Gh_isPerson_met (by decide) (by decide) rfl (by decide) rfl (ax_m3 188 (by decide +kernel) rfl) Gh_isPerson_w rfl Gh_isPerson_ds, List.forall_mem_cons.mpr ⟨ax_cwS Gh_isAhead_met (by decide) (by decide) (ax_m4 78 (by decide +kernel) rfl) Gh_isAhead_w rfl Gh_isAhead_ds, List.forall_mem_cons.mpr ⟨ax_cwV Ou_countNights_met (by decide) (by decide) rfl (by decide) rfl (ax_m4 182 (by decide +kernel) rfl) Ou_countNights_w rfl Ou_countNights_ds, fun _ h => absurd h List.not_mem_nil⟩⟩⟩) ?_ ?_
  · intro as σ0 hp hH
    match as, hp with
    | [.inr (.inr (.inl (k, 0, 8))), .inl a1, .inl a2], hp => exact ⟨rfl, Gh_nights_p k a1 a2 σ0 hH hp⟩
  · intro as σ0 hp n pc st ls σ hH hI
    match as, hp, hI with
    | [.inr (.inr (.inl (k, 0, 8))), .inl a1, .inl a2], hp, hI => exact False.elim hI
def Gh_returns_pre (k : Nat) (_a : Int) (σ : Hp) : Prop := k = 0 ∧ XP σ
def Gh_returns_post (_k : Nat) (a : Int) (σ : Hp) (r : Int) (σ' : Hp) : Prop := XQ σ σ' ∧ s_returns (xA σ) a r (xA σ')
def Gh_returns_bk : List (Nat × List Item) := [(0, [(.aload_n 0, 1, [], []), (.iload_n 1, 1, [], []), (.invokevirtual 102, 3, [0], []), (.ifCond .ne 5, 3, [10], []), (.iconst (-1), 1, [], []), (.ireturn, 1, [], [])]),
  (10, [(.aload_n 0, 1, [], []), (.getfield 19, 3, [8, 1, 4, 3, 0, 4], []), (.aload_n 0, 1, [], []), (.getfield 58, 3, [8, 8, 5, 0, 0, 1], []), (.aload_n 0, 1, [], []), (.getfield 47, 3, [8, 5, 4, 31, 0, 7], []), (.iload_n 1, 1, [], []), (.invokevirtual 208, 3, [1], []), (.ireturn, 1, [], [])])]
def Gh_returns_cl : List (Instr × Nat) := [(.invokevirtual 102, 0), (.invokevirtual 208, 1)]
set_option maxRecDepth 20000 in
theorem Gh_returns_ck : Gh_returns_bk.all (fun b => ax_chB 8 2 cX8_returns Gh_returns_cl b.1 b.2) = true := by decide +kernel
def Gh_returns_cs : Ct := (2, 9, 1, (0, 0), fun as σ => (match as with
    | [.inr (.inr (.inl (k, 0, 8))), .inl a1] => Gh_returns_pre k a1 σ
    | _ => False), fun as σ r σ' => (match as with
    | [.inr (.inr (.inl (k, 0, 8))), .inl a1] => Gh_returns_post k a1 σ r σ'
    | _ => False))
theorem Gh_returns_w : ∀ w ∈ ([.instanceMethod yX8_returns, .selects yX8_returns.cls yX8_returns yX8_returns, .initialized yX8_returns.cls, .code yX8_returns cX8_returns 2 (some .int)] : List Cond), w ∈ ax_tb := ax_w4 (ax_m4 187 (by decide +kernel) rfl) (ax_m4 188 (by decide +kernel) rfl) (ax_m1 1 (by decide +kernel) rfl) (ax_m4 189 (by decide +kernel) rfl)
theorem Gh_returns_ds : yX8_returns.cls ≠ "java/lang/invoke/MethodHandle" ∧ yX8_returns.cls ≠ "java/lang/invoke/VarHandle" ∧ (parseMethodDescriptor yX8_returns.desc).map (fun d => d.parameters.length) = some 1 := by decide +kernel
def Gh_returns_vc : Prop := ∀ (k : Nat) (a1 : Int) (σ : Hp), ax_H σ → Gh_returns_pre k a1 σ →
  Gh_isPerson_pre k a1 σ ∧
  ∀ (r2 : Int) (σ1 : Hp), Gh_isPerson_post k a1 σ r2 σ1 →
  (¬ r2 = 0 →
    Ou_firstNight_pre (k + 3) ((σ1 k 8).toNat) (k + 31) a1 σ1 ∧
    ∀ (r4 : Int) (σ3 : Hp), Ou_firstNight_post (k + 3) ((σ1 k 8).toNat) (k + 31) a1 σ1 r4 σ3 →
    Gh_returns_post k a1 σ r4 σ3) ∧
  (¬ (¬ r2 = 0) →
    Gh_returns_post k a1 σ (-1) σ1)
theorem Gh_returns_p : Gh_returns_vc := by
  intro k a σ hH hp
  obtain ⟨rfl, hP⟩ := hp
  have hX := hP.1
  refine ⟨⟨rfl, hX⟩, ?_⟩
  rintro r2 σ1 ⟨rfl, rfl⟩
  refine ⟨fun h => ⟨⟨rfl, rfl, hP.ow⟩, ?_⟩, fun h => ob0 hX ?_⟩
  · rintro r4 σ3 ⟨g1, g2⟩
    refine ob1 hX g1 scx_sg ?_
    show if _ then _ else _
    rw [if_pos (ite1 h)]
    exact g2
  · show if _ then _ else _; rw [if_neg (ite0' h)]
def Gh_returns_I : List AV → Hp → Nat → Nat → List AV → List AV → Hp → Prop := fun as σ0 pc n st ls σ => (match as with
    | [.inr (.inr (.inl (k, 0, 8))), .inl a1] => False
    | _ => False)
def Gh_returns_ct : Nat → Ct := fun n => match n with
  | 0 => Gh_isPerson_cs
  | 1 => Ou_firstNight_cs
  | _ => Gh_returns_cs
set_option maxRecDepth 20000 in
set_option maxHeartbeats 4000000 in
theorem Gh_returns_met {l : Launch} {D : va_G} {ad : Nat → Nat} {ca : Nat → ClassId} {L : Nat} {fx : Nat → Int} : ax_MC l D ad ca L fx yX8_returns cX8_returns 2 (some .int) 7 Gh_returns_cs := by
  refine ax_met (oc := 8) (ct := Gh_returns_ct) (calls := Gh_returns_cl) (bs := Gh_returns_bk) (cut := fun pc => false) (f := 3) (I := Gh_returns_I) (by decide) rfl rfl Gh_returns_ck (List.forall_mem_cons.mpr ⟨ax_cwV Gh_isPerson_met (by decide) (by decide) rfl (by decide) rfl (ax_m3 188 (by decide +kernel) rfl) Gh_isPerson_w rfl Gh_isPerson_ds, List.forall_mem_cons.mpr ⟨ax_cwV Ou_firstNight_met (by decide) (by decide) rfl (by decide) rfl (ax_m4 190 (by decide +kernel) rfl) Ou_firstNight_w rfl Ou_firstNight_ds, fun _ h => absurd h List.not_mem_nil⟩⟩) ?_ ?_
  · intro as σ0 hp hH
    match as, hp with
    | [.inr (.inr (.inl (k, 0, 8))), .inl a1], hp => exact ⟨rfl, Gh_returns_p k a1 σ0 hH hp⟩
  · intro as σ0 hp n pc st ls σ hH hI
    match as, hp, hI with
    | [.inr (.inr (.inl (k, 0, 8))), .inl a1], hp, hI => exact False.elim hI
def Gh_words_pre (k : Nat) (σ : Hp) : Prop := k = 0 ∧ XP σ
def Gh_words_post (_k : Nat) (σ : Hp) (r : Int) (σ' : Hp) : Prop := XQ σ σ' ∧ s_words (xA σ) r (xA σ')
def Gh_words_bk : List (Nat × List Item) := [(0, [(.aload_n 0, 1, [], []), (.getfield 19, 3, [8, 1, 4, 3, 0, 4], []), (.aload_n 0, 1, [], []), (.getfield 58, 3, [8, 8, 5, 0, 0, 1], []), (.aload_n 0, 1, [], []), (.getfield 47, 3, [8, 5, 4, 31, 0, 7], []), (.invokevirtual 215, 3, [0], []), (.ireturn, 1, [], [])])]
def Gh_words_cl : List (Instr × Nat) := [(.invokevirtual 215, 0)]
set_option maxRecDepth 20000 in
theorem Gh_words_ck : Gh_words_bk.all (fun b => ax_chB 8 1 cX8_words Gh_words_cl b.1 b.2) = true := by decide +kernel
def Gh_words_cs : Ct := (1, 9, 1, (0, 0), fun as σ => (match as with
    | [.inr (.inr (.inl (k, 0, 8)))] => Gh_words_pre k σ
    | _ => False), fun as σ r σ' => (match as with
    | [.inr (.inr (.inl (k, 0, 8)))] => Gh_words_post k σ r σ'
    | _ => False))
theorem Gh_words_w : ∀ w ∈ ([.instanceMethod yX8_words, .selects yX8_words.cls yX8_words yX8_words, .initialized yX8_words.cls, .code yX8_words cX8_words 1 (some .int)] : List Cond), w ∈ ax_tb := ax_w4 (ax_m4 203 (by decide +kernel) rfl) (ax_m4 204 (by decide +kernel) rfl) (ax_m1 1 (by decide +kernel) rfl) (ax_m4 205 (by decide +kernel) rfl)
theorem Gh_words_ds : yX8_words.cls ≠ "java/lang/invoke/MethodHandle" ∧ yX8_words.cls ≠ "java/lang/invoke/VarHandle" ∧ (parseMethodDescriptor yX8_words.desc).map (fun d => d.parameters.length) = some 0 := by decide +kernel
def Gh_words_vc : Prop := ∀ (k : Nat) (σ : Hp), ax_H σ → Gh_words_pre k σ →
  Ou_countWords_pre (k + 3) ((σ k 8).toNat) (k + 31) σ ∧
  ∀ (r2 : Int) (σ1 : Hp), Ou_countWords_post (k + 3) ((σ k 8).toNat) (k + 31) σ r2 σ1 →
  Gh_words_post k σ r2 σ1
theorem Gh_words_p : Gh_words_vc := by
  intro k σ hH hp
  obtain ⟨rfl, hP⟩ := hp
  refine ⟨⟨rfl, rfl, hP.ow⟩, ?_⟩
  rintro r4 σ3 ⟨g1, rfl⟩
  exact ob1 hP.1 g1 scx_sg rfl
def Gh_words_I : List AV → Hp → Nat → Nat → List AV → List AV → Hp → Prop := fun as σ0 pc n st ls σ => (match as with
    | [.inr (.inr (.inl (k, 0, 8)))] => False
    | _ => False)
def Gh_words_ct : Nat → Ct := fun n => match n with
  | 0 => Ou_countWords_cs
  | _ => Gh_words_cs
set_option maxRecDepth 20000 in
set_option maxHeartbeats 4000000 in
theorem Gh_words_met {l : Launch} {D : va_G} {ad : Nat → Nat} {ca : Nat → ClassId} {L : Nat} {fx : Nat → Int} : ax_MC l D ad ca L fx yX8_words cX8_words 1 (some .int) 8 Gh_words_cs := by
  refine ax_met (oc := 8) (ct := Gh_words_ct) (calls := Gh_words_cl) (bs := Gh_words_bk) (cut := fun pc => false) (f := 2) (I := Gh_words_I) (by decide) rfl rfl Gh_words_ck (List.forall_mem_cons.mpr ⟨ax_cwV Ou_countWords_met (by decide) (by decide) rfl (by decide) rfl (ax_m4 206 (by decide +kernel) rfl) Ou_countWords_w rfl Ou_countWords_ds, fun _ h => absurd h List.not_mem_nil⟩) ?_ ?_
  · intro as σ0 hp hH
    match as, hp with
    | [.inr (.inr (.inl (k, 0, 8)))], hp => exact ⟨rfl, Gh_words_p k σ0 hH hp⟩
  · intro as σ0 hp n pc st ls σ hH hI
    match as, hp, hI with
    | [.inr (.inr (.inl (k, 0, 8)))], hp, hI => exact False.elim hI
def Gh_peace_pre (k : Nat) (σ : Hp) : Prop := k = 0 ∧ XP σ
def Gh_peace_post (_k : Nat) (σ : Hp) (r : Int) (σ' : Hp) : Prop := XQ σ σ' ∧ s_peace (xA σ) r (xA σ')
def Gh_peace_bk : List (Nat × List Item) := [(0, [(.aload_n 0, 1, [], []), (.getfield 47, 3, [8, 5, 4, 31, 0, 7], []), (.getfield 129, 3, [7, 2, 0, 0, 0, 0], []), (.iconst (-1), 1, [], []), (.if_icmp .ne 7, 3, [15], []), (.iconst 0, 1, [], []), (.goto 19, 3, [31], [])]),
  (15, [(.aload_n 0, 1, [], []), (.getfield 19, 3, [8, 1, 4, 3, 0, 4], []), (.aload_n 0, 1, [], []), (.getfield 58, 3, [8, 8, 5, 0, 0, 1], []), (.aload_n 0, 1, [], []), (.getfield 47, 3, [8, 5, 4, 31, 0, 7], []), (.iconst (-1), 1, [], []), (.invokevirtual 208, 3, [0], [])]),
  (31, [(.ireturn, 1, [], [])])]
def Gh_peace_cl : List (Instr × Nat) := [(.invokevirtual 208, 0)]
set_option maxRecDepth 20000 in
theorem Gh_peace_ck : Gh_peace_bk.all (fun b => ax_chB 8 1 cX8_peace Gh_peace_cl b.1 b.2) = true := by decide +kernel
def Gh_peace_cs : Ct := (1, 9, 1, (0, 0), fun as σ => (match as with
    | [.inr (.inr (.inl (k, 0, 8)))] => Gh_peace_pre k σ
    | _ => False), fun as σ r σ' => (match as with
    | [.inr (.inr (.inl (k, 0, 8)))] => Gh_peace_post k σ r σ'
    | _ => False))
theorem Gh_peace_w : ∀ w ∈ ([.instanceMethod yX8_peace, .selects yX8_peace.cls yX8_peace yX8_peace, .initialized yX8_peace.cls, .code yX8_peace cX8_peace 1 (some .int)] : List Cond), w ∈ ax_tb := ax_w4 (ax_m4 212 (by decide +kernel) rfl) (ax_m4 213 (by decide +kernel) rfl) (ax_m1 1 (by decide +kernel) rfl) (ax_m4 214 (by decide +kernel) rfl)
theorem Gh_peace_ds : yX8_peace.cls ≠ "java/lang/invoke/MethodHandle" ∧ yX8_peace.cls ≠ "java/lang/invoke/VarHandle" ∧ (parseMethodDescriptor yX8_peace.desc).map (fun d => d.parameters.length) = some 0 := by decide +kernel
def Gh_peace_vc : Prop := ∀ (k : Nat) (σ : Hp), ax_H σ → Gh_peace_pre k σ →
  (¬ σ (k + 31) 2 = (-1) →
    Ou_firstNight_pre (k + 3) ((σ k 8).toNat) (k + 31) (-1) σ ∧
    ∀ (r2 : Int) (σ1 : Hp), Ou_firstNight_post (k + 3) ((σ k 8).toNat) (k + 31) (-1) σ r2 σ1 →
    Gh_peace_post k σ r2 σ1) ∧
  (¬ (¬ σ (k + 31) 2 = (-1)) →
    Gh_peace_post k σ 0 σ)
theorem Gh_peace_p : Gh_peace_vc := by
  intro k σ hH hp
  obtain ⟨rfl, hP⟩ := hp
  refine ⟨fun h => ⟨⟨rfl, rfl, hP.ow⟩, ?_⟩, fun h => ob0 hP.1 ?_⟩
  · rintro r4 σ3 ⟨g1, g2⟩
    refine ob1 hP.1 g1 scx_sg ?_
    show if _ then _ else _
    rw [if_neg (show ¬ (aS (xA σ)).2.2.1 = -1 from h)]
    exact g2
  · show if _ then _ else _
    rw [if_pos (show (aS (xA σ)).2.2.1 = -1 from Classical.not_not.mp h)]
def Gh_peace_I : List AV → Hp → Nat → Nat → List AV → List AV → Hp → Prop := fun as σ0 pc n st ls σ => (match as with
    | [.inr (.inr (.inl (k, 0, 8)))] => False
    | _ => False)
def Gh_peace_ct : Nat → Ct := fun n => match n with
  | 0 => Ou_firstNight_cs
  | _ => Gh_peace_cs
set_option maxRecDepth 20000 in
set_option maxHeartbeats 4000000 in
theorem Gh_peace_met {l : Launch} {D : va_G} {ad : Nat → Nat} {ca : Nat → ClassId} {L : Nat} {fx : Nat → Int} : ax_MC l D ad ca L fx yX8_peace cX8_peace 1 (some .int) 7 Gh_peace_cs := by
  refine ax_met (oc := 8) (ct := Gh_peace_ct) (calls := Gh_peace_cl) (bs := Gh_peace_bk) (cut := fun pc => false) (f := 4) (I := Gh_peace_I) (by decide) rfl rfl Gh_peace_ck (List.forall_mem_cons.mpr ⟨ax_cwV Ou_firstNight_met (by decide) (by decide) rfl (by decide) rfl (ax_m4 190 (by decide +kernel) rfl) Ou_firstNight_w rfl Ou_firstNight_ds, fun _ h => absurd h List.not_mem_nil⟩) ?_ ?_
  · intro as σ0 hp hH
    match as, hp with
    | [.inr (.inr (.inl (k, 0, 8)))], hp => exact ⟨rfl, Gh_peace_p k σ0 hH hp⟩
  · intro as σ0 hp n pc st ls σ hH hI
    match as, hp, hI with
    | [.inr (.inr (.inl (k, 0, 8)))], hp, hI => exact False.elim hI
def Gh_burden_pre (k : Nat) (_a : Int) (σ : Hp) : Prop := k = 0 ∧ XP σ
def Gh_burden_post (_k : Nat) (a : Int) (σ : Hp) (r : Int) (σ' : Hp) : Prop := XQ σ σ' ∧ s_burden (xA σ) a r (xA σ')
def Gh_burden_bk : List (Nat × List Item) := [(0, [(.iload_n 1, 1, [], []), (.invokestatic 175, 3, [0], []), (.ifCond .ne 5, 3, [9], []), (.iconst (-1), 1, [], []), (.ireturn, 1, [], [])]),
  (9, [(.aload_n 0, 1, [], []), (.getfield 19, 3, [8, 1, 4, 3, 0, 4], []), (.aload_n 0, 1, [], []), (.getfield 58, 3, [8, 8, 5, 0, 0, 1], []), (.aload_n 0, 1, [], []), (.getfield 47, 3, [8, 5, 4, 31, 0, 7], []), (.iload_n 1, 1, [], []), (.iconst 0, 1, [], []), (.invokevirtual 178, 3, [1], []), (.invokevirtual 218, 3, [2], []), (.ireturn, 1, [], [])])]
def Gh_burden_cl : List (Instr × Nat) := [(.invokestatic 175, 0), (.invokevirtual 178, 1), (.invokevirtual 218, 2)]
set_option maxRecDepth 20000 in
theorem Gh_burden_ck : Gh_burden_bk.all (fun b => ax_chB 8 2 cX8_burden Gh_burden_cl b.1 b.2) = true := by decide +kernel
def Gh_burden_cs : Ct := (2, 9, 1, (0, 0), fun as σ => (match as with
    | [.inr (.inr (.inl (k, 0, 8))), .inl a1] => Gh_burden_pre k a1 σ
    | _ => False), fun as σ r σ' => (match as with
    | [.inr (.inr (.inl (k, 0, 8))), .inl a1] => Gh_burden_post k a1 σ r σ'
    | _ => False))
theorem Gh_burden_w : ∀ w ∈ ([.instanceMethod yX8_burden, .selects yX8_burden.cls yX8_burden yX8_burden, .initialized yX8_burden.cls, .code yX8_burden cX8_burden 2 (some .int)] : List Cond), w ∈ ax_tb := ax_w4 (ax_m4 216 (by decide +kernel) rfl) (ax_m4 217 (by decide +kernel) rfl) (ax_m1 1 (by decide +kernel) rfl) (ax_m4 218 (by decide +kernel) rfl)
theorem Gh_burden_ds : yX8_burden.cls ≠ "java/lang/invoke/MethodHandle" ∧ yX8_burden.cls ≠ "java/lang/invoke/VarHandle" ∧ (parseMethodDescriptor yX8_burden.desc).map (fun d => d.parameters.length) = some 1 := by decide +kernel
def Gh_burden_vc : Prop := ∀ (k : Nat) (a1 : Int) (σ : Hp), ax_H σ → Gh_burden_pre k a1 σ →
  Gh_isAhead_pre a1 σ ∧
  ∀ (r2 : Int) (σ1 : Hp), Gh_isAhead_post a1 σ r2 σ1 →
  (¬ r2 = 0 →
    Ou_after_pre (k + 3) ((σ1 k 8).toNat) (k + 31) a1 0 σ1 ∧
    ∀ (r4 : Nat) (σ3 : Hp), Ou_after_post (k + 3) ((σ1 k 8).toNat) (k + 31) a1 0 σ1 (r4 : Int) σ3 →
    St_sumCares_pre r4 σ3 ∧
    ∀ (r6 : Int) (σ5 : Hp), St_sumCares_post r4 σ3 r6 σ5 →
    Gh_burden_post k a1 σ r6 σ5) ∧
  (¬ (¬ r2 = 0) →
    Gh_burden_post k a1 σ (-1) σ1)
theorem Gh_burden_p : Gh_burden_vc := by
  intro k a σ hH hp
  obtain ⟨rfl, hP⟩ := hp
  have hX := hP.1
  refine ⟨trivial, ?_⟩
  rintro r2 σ1 ⟨rfl, rfl⟩
  refine ⟨fun h => ⟨⟨rfl, rfl, hP.ow, (ite1 h).1, (ite1 h).2, Or.inr rfl⟩, ?_⟩, fun h => ob0 hX ?_⟩
  · rintro r4 σ3 ⟨g0, g1, g2⟩
    have : r4 = 4 := by omega
    subst this
    have hok : OKs (999 + a.toNat) (stX σ3 4) := by rw [g2]; exact hP.2.2.2.1.1.itr hP.n6 z64 a.toNat
    refine ⟨hok.ss, ?_⟩
    rintro r6 σ5 ⟨rfl, rfl⟩
    refine ob1 hX g1 scx_sg ?_
    show _ = _
    rw [if_pos (ite1 h), sm_X, g2]
    rfl
  · show _ = _; rw [if_neg (ite0' h)]
def Gh_burden_I : List AV → Hp → Nat → Nat → List AV → List AV → Hp → Prop := fun as σ0 pc n st ls σ => (match as with
    | [.inr (.inr (.inl (k, 0, 8))), .inl a1] => False
    | _ => False)
def Gh_burden_ct : Nat → Ct := fun n => match n with
  | 0 => Gh_isAhead_cs
  | 1 => Ou_after_cs
  | 2 => St_sumCares_cs
  | _ => Gh_burden_cs
set_option maxRecDepth 20000 in
set_option maxHeartbeats 4000000 in
theorem Gh_burden_met {l : Launch} {D : va_G} {ad : Nat → Nat} {ca : Nat → ClassId} {L : Nat} {fx : Nat → Int} : ax_MC l D ad ca L fx yX8_burden cX8_burden 2 (some .int) 7 Gh_burden_cs := by
  refine ax_met (oc := 8) (ct := Gh_burden_ct) (calls := Gh_burden_cl) (bs := Gh_burden_bk) (cut := fun pc => false) (f := 3) (I := Gh_burden_I) (by decide) rfl rfl Gh_burden_ck (List.forall_mem_cons.mpr ⟨ax_cwS Gh_isAhead_met (by decide) (by decide) (ax_m4 78 (by decide +kernel) rfl) Gh_isAhead_w rfl Gh_isAhead_ds, List.forall_mem_cons.mpr ⟨ax_cwV Ou_after_met (by decide) (by decide) rfl (by decide) rfl (ax_m4 81 (by decide +kernel) rfl) Ou_after_w rfl Ou_after_ds, List.forall_mem_cons.mpr ⟨ax_cwV St_sumCares_met (by decide) (by decide) rfl (by decide) rfl (ax_m4 219 (by decide +kernel) rfl) St_sumCares_w rfl St_sumCares_ds, fun _ h => absurd h List.not_mem_nil⟩⟩⟩) ?_ ?_
  · intro as σ0 hp hH
    match as, hp with
    | [.inr (.inr (.inl (k, 0, 8))), .inl a1], hp => exact ⟨rfl, Gh_burden_p k a1 σ0 hH hp⟩
  · intro as σ0 hp n pc st ls σ hH hI
    match as, hp, hI with
    | [.inr (.inr (.inl (k, 0, 8))), .inl a1], hp, hI => exact False.elim hI
def Gh_calm_pre (k : Nat) (σ : Hp) : Prop := k = 0 ∧ XP σ
def Gh_calm_post (_k : Nat) (σ : Hp) (r : Int) (σ' : Hp) : Prop := XQ σ σ' ∧ s_calm (xA σ) r (xA σ')
def Gh_calm_bk : List (Nat × List Item) := [(0, [(.aload_n 0, 1, [], []), (.getfield 19, 3, [8, 1, 4, 3, 0, 4], []), (.aload_n 0, 1, [], []), (.getfield 58, 3, [8, 8, 5, 0, 0, 1], []), (.aload_n 0, 1, [], []), (.getfield 47, 3, [8, 5, 4, 31, 0, 7], []), (.invokevirtual 221, 3, [0], []), (.ireturn, 1, [], [])])]
def Gh_calm_cl : List (Instr × Nat) := [(.invokevirtual 221, 0)]
set_option maxRecDepth 20000 in
theorem Gh_calm_ck : Gh_calm_bk.all (fun b => ax_chB 8 1 cX8_calm Gh_calm_cl b.1 b.2) = true := by decide +kernel
def Gh_calm_cs : Ct := (1, 9, 1, (0, 0), fun as σ => (match as with
    | [.inr (.inr (.inl (k, 0, 8)))] => Gh_calm_pre k σ
    | _ => False), fun as σ r σ' => (match as with
    | [.inr (.inr (.inl (k, 0, 8)))] => Gh_calm_post k σ r σ'
    | _ => False))
theorem Gh_calm_w : ∀ w ∈ ([.instanceMethod yX8_calm, .selects yX8_calm.cls yX8_calm yX8_calm, .initialized yX8_calm.cls, .code yX8_calm cX8_calm 1 (some .int)] : List Cond), w ∈ ax_tb := ax_w4 (ax_m4 225 (by decide +kernel) rfl) (ax_m4 226 (by decide +kernel) rfl) (ax_m1 1 (by decide +kernel) rfl) (ax_m4 227 (by decide +kernel) rfl)
theorem Gh_calm_ds : yX8_calm.cls ≠ "java/lang/invoke/MethodHandle" ∧ yX8_calm.cls ≠ "java/lang/invoke/VarHandle" ∧ (parseMethodDescriptor yX8_calm.desc).map (fun d => d.parameters.length) = some 0 := by decide +kernel
def Gh_calm_vc : Prop := ∀ (k : Nat) (σ : Hp), ax_H σ → Gh_calm_pre k σ →
  Ou_findCalm_pre (k + 3) ((σ k 8).toNat) (k + 31) σ ∧
  ∀ (r2 : Int) (σ1 : Hp), Ou_findCalm_post (k + 3) ((σ k 8).toNat) (k + 31) σ r2 σ1 →
  Gh_calm_post k σ r2 σ1
theorem Gh_calm_p : Gh_calm_vc := by
  intro k σ hH hp
  obtain ⟨rfl, hP⟩ := hp
  refine ⟨⟨rfl, rfl, hP.ow⟩, ?_⟩
  rintro r4 σ3 ⟨g1, rfl⟩
  exact ob1 hP.1 g1 scx_sg rfl
def Gh_calm_I : List AV → Hp → Nat → Nat → List AV → List AV → Hp → Prop := fun as σ0 pc n st ls σ => (match as with
    | [.inr (.inr (.inl (k, 0, 8)))] => False
    | _ => False)
def Gh_calm_ct : Nat → Ct := fun n => match n with
  | 0 => Ou_findCalm_cs
  | _ => Gh_calm_cs
set_option maxRecDepth 20000 in
set_option maxHeartbeats 4000000 in
theorem Gh_calm_met {l : Launch} {D : va_G} {ad : Nat → Nat} {ca : Nat → ClassId} {L : Nat} {fx : Nat → Int} : ax_MC l D ad ca L fx yX8_calm cX8_calm 1 (some .int) 6 Gh_calm_cs := by
  refine ax_met (oc := 8) (ct := Gh_calm_ct) (calls := Gh_calm_cl) (bs := Gh_calm_bk) (cut := fun pc => false) (f := 2) (I := Gh_calm_I) (by decide) rfl rfl Gh_calm_ck (List.forall_mem_cons.mpr ⟨ax_cwV Ou_findCalm_met (by decide) (by decide) rfl (by decide) rfl (ax_m4 228 (by decide +kernel) rfl) Ou_findCalm_w rfl Ou_findCalm_ds, fun _ h => absurd h List.not_mem_nil⟩) ?_ ?_
  · intro as σ0 hp hH
    match as, hp with
    | [.inr (.inr (.inl (k, 0, 8)))], hp => exact ⟨rfl, Gh_calm_p k σ0 hH hp⟩
  · intro as σ0 hp n pc st ls σ hH hI
    match as, hp, hI with
    | [.inr (.inr (.inl (k, 0, 8)))], hp, hI => exact False.elim hI
def Gh_odds_pre (k : Nat) (_a _b : Int) (σ : Hp) : Prop := k = 0 ∧ XP σ
def Gh_odds_post (_k : Nat) (a b : Int) (σ : Hp) (r : Int) (σ' : Hp) : Prop := XQ σ σ' ∧ s_odds (xA σ) a b r (xA σ')
def Gh_odds_bk : List (Nat × List Item) := [(0, [(.iload_n 1, 1, [], []), (.iconst (-1), 1, [], []), (.if_icmp .eq 11, 3, [13], []), (.aload_n 0, 1, [], []), (.iload_n 1, 1, [], []), (.invokevirtual 102, 3, [0], []), (.ifCond .eq 10, 3, [20], [])]),
  (13, [(.iload_n 2, 1, [], []), (.invokestatic 182, 3, [1], []), (.ifCond .ne 5, 3, [22], [])]),
  (20, [(.iconst (-1), 1, [], []), (.ireturn, 1, [], [])]),
  (22, [(.aload_n 0, 1, [], []), (.getfield 19, 3, [8, 1, 4, 3, 0, 4], []), (.aload_n 0, 1, [], []), (.getfield 58, 3, [8, 8, 5, 0, 0, 1], []), (.aload_n 0, 1, [], []), (.getfield 47, 3, [8, 5, 4, 31, 0, 7], []), (.iload_n 1, 1, [], []), (.iload_n 2, 1, [], []), (.invokevirtual 224, 3, [2], []), (.ireturn, 1, [], [])])]
def Gh_odds_cl : List (Instr × Nat) := [(.invokevirtual 102, 0), (.invokestatic 182, 1), (.invokevirtual 224, 2)]
set_option maxRecDepth 20000 in
theorem Gh_odds_ck : Gh_odds_bk.all (fun b => ax_chB 8 3 cX8_odds Gh_odds_cl b.1 b.2) = true := by decide +kernel
def Gh_odds_cs : Ct := (3, 9, 1, (0, 0), fun as σ => (match as with
    | [.inr (.inr (.inl (k, 0, 8))), .inl a1, .inl a2] => Gh_odds_pre k a1 a2 σ
    | _ => False), fun as σ r σ' => (match as with
    | [.inr (.inr (.inl (k, 0, 8))), .inl a1, .inl a2] => Gh_odds_post k a1 a2 σ r σ'
    | _ => False))
theorem Gh_odds_w : ∀ w ∈ ([.instanceMethod yX8_odds, .selects yX8_odds.cls yX8_odds yX8_odds, .initialized yX8_odds.cls, .code yX8_odds cX8_odds 3 (some .int)] : List Cond), w ∈ ax_tb := ax_w4 (ax_m4 238 (by decide +kernel) rfl) (ax_m4 239 (by decide +kernel) rfl) (ax_m1 1 (by decide +kernel) rfl) (ax_m5 0 (by decide +kernel) rfl)
theorem Gh_odds_ds : yX8_odds.cls ≠ "java/lang/invoke/MethodHandle" ∧ yX8_odds.cls ≠ "java/lang/invoke/VarHandle" ∧ (parseMethodDescriptor yX8_odds.desc).map (fun d => d.parameters.length) = some 2 := by decide +kernel
def Gh_odds_vc : Prop := ∀ (k : Nat) (a1 : Int) (a2 : Int) (σ : Hp), ax_H σ → Gh_odds_pre k a1 a2 σ →
  (a1 = (-1) →
    Gh_isOneOfTwo_pre a2 σ ∧
    ∀ (r2 : Int) (σ1 : Hp), Gh_isOneOfTwo_post a2 σ r2 σ1 →
    (¬ r2 = 0 →
      Ou_findOdds_pre (k + 3) ((σ1 k 8).toNat) (k + 31) a1 a2 σ1 ∧
      ∀ (r4 : Int) (σ3 : Hp), Ou_findOdds_post (k + 3) ((σ1 k 8).toNat) (k + 31) a1 a2 σ1 r4 σ3 →
      Gh_odds_post k a1 a2 σ r4 σ3) ∧
    (¬ (¬ r2 = 0) →
      Gh_odds_post k a1 a2 σ (-1) σ1)) ∧
  (¬ (a1 = (-1)) →
    Gh_isPerson_pre k a1 σ ∧
    ∀ (r6 : Int) (σ5 : Hp), Gh_isPerson_post k a1 σ r6 σ5 →
    (r6 = 0 →
      Gh_odds_post k a1 a2 σ (-1) σ5) ∧
    (¬ (r6 = 0) →
      Gh_isOneOfTwo_pre a2 σ5 ∧
      ∀ (r8 : Int) (σ7 : Hp), Gh_isOneOfTwo_post a2 σ5 r8 σ7 →
      (¬ r8 = 0 →
        Ou_findOdds_pre (k + 3) ((σ7 k 8).toNat) (k + 31) a1 a2 σ7 ∧
        ∀ (r10 : Int) (σ9 : Hp), Ou_findOdds_post (k + 3) ((σ7 k 8).toNat) (k + 31) a1 a2 σ7 r10 σ9 →
        Gh_odds_post k a1 a2 σ r10 σ9) ∧
      (¬ (¬ r8 = 0) →
        Gh_odds_post k a1 a2 σ (-1) σ7)))
theorem Gh_odds_p : Gh_odds_vc := by
  intro k a b σ hH hp
  obtain ⟨rfl, hP⟩ := hp
  have hX := hP.1
  refine ⟨fun h => ⟨trivial, ?_⟩, fun h => ⟨⟨rfl, hX⟩, ?_⟩⟩
  · rintro r2 σ1 ⟨rfl, rfl⟩
    refine ⟨fun h2 => ⟨⟨rfl, rfl, hP.ow⟩, ?_⟩, fun h2 => ob0 hX ?_⟩
    · rintro r4 σ3 ⟨g1, rfl⟩
      refine ob1 hX g1 scx_sg ?_
      show _ = _; rw [if_pos ⟨Or.inl h, ite1 h2⟩]; rfl
    · show _ = _; rw [if_neg (fun z => ite0' h2 z.2)]
  · rintro r6 σ5 ⟨rfl, rfl⟩
    refine ⟨fun h2 => ob0 hX ?_, fun h2 => ⟨trivial, ?_⟩⟩
    · show _ = _; rw [if_neg (fun z => z.1.elim h (ite0 h2))]
    · rintro r8 σ7 ⟨rfl, rfl⟩
      refine ⟨fun h3 => ⟨⟨rfl, rfl, hP.ow⟩, ?_⟩, fun h3 => ob0 hX ?_⟩
      · rintro r4 σ3 ⟨g1, rfl⟩
        refine ob1 hX g1 scx_sg ?_
        show _ = _; rw [if_pos ⟨Or.inr (ite1 h2), ite1 h3⟩]; rfl
      · show _ = _; rw [if_neg (fun z => ite0' h3 z.2)]
def Gh_odds_I : List AV → Hp → Nat → Nat → List AV → List AV → Hp → Prop := fun as σ0 pc n st ls σ => (match as with
    | [.inr (.inr (.inl (k, 0, 8))), .inl a1, .inl a2] => False
    | _ => False)
def Gh_odds_ct : Nat → Ct := fun n => match n with
  | 0 => Gh_isPerson_cs
  | 1 => Gh_isOneOfTwo_cs
  | 2 => Ou_findOdds_cs
  | _ => Gh_odds_cs
set_option maxRecDepth 20000 in
set_option maxHeartbeats 4000000 in
theorem Gh_odds_met {l : Launch} {D : va_G} {ad : Nat → Nat} {ca : Nat → ClassId} {L : Nat} {fx : Nat → Int} : ax_MC l D ad ca L fx yX8_odds cX8_odds 3 (some .int) 7 Gh_odds_cs := by
  refine ax_met (oc := 8) (ct := Gh_odds_ct) (calls := Gh_odds_cl) (bs := Gh_odds_bk) (cut := fun pc => false) (f := 5) (I := Gh_odds_I) (by decide) rfl rfl Gh_odds_ck (List.forall_mem_cons.mpr ⟨ax_cwV Gh_isPerson_met (by decide) (by decide) rfl (by decide) rfl (ax_m3 188 (by decide +kernel) rfl) Gh_isPerson_w rfl Gh_isPerson_ds, List.forall_mem_cons.mpr ⟨ax_cwS Gh_isOneOfTwo_met (by decide) (by decide) (ax_m4 102 (by decide +kernel) rfl) Gh_isOneOfTwo_w rfl Gh_isOneOfTwo_ds, List.forall_mem_cons.mpr ⟨ax_cwV Ou_findOdds_met (by decide) (by decide) rfl (by decide) rfl (ax_m5 1 (by decide +kernel) rfl) Ou_findOdds_w rfl Ou_findOdds_ds, fun _ h => absurd h List.not_mem_nil⟩⟩⟩) ?_ ?_
  · intro as σ0 hp hH
    match as, hp with
    | [.inr (.inr (.inl (k, 0, 8))), .inl a1, .inl a2], hp => exact ⟨rfl, Gh_odds_p k a1 a2 σ0 hH hp⟩
  · intro as σ0 hp n pc st ls σ hH hI
    match as, hp, hI with
    | [.inr (.inr (.inl (k, 0, 8))), .inl a1, .inl a2], hp, hI => exact False.elim hI
def Gh_lies_pre (k : Nat) (_a : Int) (σ : Hp) : Prop := k = 0 ∧ XP σ
def Gh_lies_post (_k : Nat) (a : Int) (σ : Hp) (r : Int) (σ' : Hp) : Prop := XQ σ σ' ∧ s_lies (xA σ) a r (xA σ')
def Gh_lies_bk : List (Nat × List Item) := [(0, [(.iload_n 1, 1, [], []), (.ifCond .lt 20, 3, [21], []), (.iload_n 1, 1, [], []), (.aload_n 0, 1, [], []), (.getfield 90, 3, [8, 7, 0, 0, 0, 0], []), (.if_icmp .ge 12, 3, [21], []), (.iload_n 1, 1, [], []), (.aload_n 0, 1, [], []), (.getfield 51, 3, [8, 6, 4, 34, 1, 6], []), (.arraylength, 1, [], []), (.if_icmp .lt 6, 3, [24], [])]),
  (21, [(.bipush (-2), 2, [], []), (.ireturn, 1, [], [])]),
  (24, [(.aload_n 0, 1, [], []), (.getfield 51, 3, [8, 6, 4, 34, 1, 6], []), (.iload_n 1, 1, [], []), (.iaload, 1, [], []), (.ireturn, 1, [], [])])]
def Gh_lies_cl : List (Instr × Nat) := []
set_option maxRecDepth 20000 in
theorem Gh_lies_ck : Gh_lies_bk.all (fun b => ax_chB 8 2 cX8_lies Gh_lies_cl b.1 b.2) = true := by decide +kernel
def Gh_lies_cs : Ct := (2, 9, 1, (0, 0), fun as σ => (match as with
    | [.inr (.inr (.inl (k, 0, 8))), .inl a1] => Gh_lies_pre k a1 σ
    | _ => False), fun as σ r σ' => (match as with
    | [.inr (.inr (.inl (k, 0, 8))), .inl a1] => Gh_lies_post k a1 σ r σ'
    | _ => False))
theorem Gh_lies_w : ∀ w ∈ ([.instanceMethod yX8_lies, .selects yX8_lies.cls yX8_lies yX8_lies, .initialized yX8_lies.cls, .code yX8_lies cX8_lies 2 (some .int)] : List Cond), w ∈ ax_tb := ax_w4 (ax_m5 50 (by decide +kernel) rfl) (ax_m5 51 (by decide +kernel) rfl) (ax_m1 1 (by decide +kernel) rfl) (ax_m5 52 (by decide +kernel) rfl)
theorem Gh_lies_ds : yX8_lies.cls ≠ "java/lang/invoke/MethodHandle" ∧ yX8_lies.cls ≠ "java/lang/invoke/VarHandle" ∧ (parseMethodDescriptor yX8_lies.desc).map (fun d => d.parameters.length) = some 1 := by decide +kernel
def Gh_lies_vc : Prop := ∀ (k : Nat) (a1 : Int) (σ : Hp), ax_H σ → Gh_lies_pre k a1 σ →
  (a1 < 0 →
    Gh_lies_post k a1 σ (-2) σ) ∧
  (¬ (a1 < 0) →
    (σ k 7 ≤ a1 →
      Gh_lies_post k a1 σ (-2) σ) ∧
    (¬ (σ k 7 ≤ a1) →
      (a1 < 6 →
        (0 ≤ a1 ∧ a1 < 6) ∧
        Gh_lies_post k a1 σ (σ (k + 34) a1.toNat) σ) ∧
      (¬ (a1 < 6) →
        Gh_lies_post k a1 σ (-2) σ)))
theorem Gh_lies_p : Gh_lies_vc := by
  intro k a σ hH hp
  obtain ⟨rfl, hP⟩ := hp
  have hX := hP.1
  have h7 := hX.2.2.2.2.2.2.1
  have eL : ((aL (xA σ)).1 : Int) = σ 0 7 := by show (((σ 0 7).toNat : Nat) : Int) = σ 0 7; omega
  refine ⟨fun h => ob0 hX ?_, fun h => ⟨fun h2 => ob0 hX ?_, fun h2 => ⟨fun h3 => ⟨⟨by omega, h3⟩, ob0 hX ?_⟩, fun h3 => absurd (by omega) h3⟩⟩⟩
  · show _ = _; rw [eL, if_neg (by omega)]
  · show _ = _; rw [eL, if_neg (by omega)]
  · show _ = _; rw [eL, if_pos ⟨by omega, by omega⟩]; exact (tr_in (by omega)).symm
def Gh_lies_I : List AV → Hp → Nat → Nat → List AV → List AV → Hp → Prop := fun as σ0 pc n st ls σ => (match as with
    | [.inr (.inr (.inl (k, 0, 8))), .inl a1] => False
    | _ => False)
def Gh_lies_ct : Nat → Ct := fun n => match n with
  | _ => Gh_lies_cs
set_option maxRecDepth 20000 in
set_option maxHeartbeats 4000000 in
theorem Gh_lies_met {l : Launch} {D : va_G} {ad : Nat → Nat} {ca : Nat → ClassId} {L : Nat} {fx : Nat → Int} : ax_MC l D ad ca L fx yX8_lies cX8_lies 2 (some .int) 1 Gh_lies_cs := by
  refine ax_met (oc := 8) (ct := Gh_lies_ct) (calls := Gh_lies_cl) (bs := Gh_lies_bk) (cut := fun pc => false) (f := 4) (I := Gh_lies_I) (by decide) rfl rfl Gh_lies_ck (fun _ h => absurd h List.not_mem_nil) ?_ ?_
  · intro as σ0 hp hH
    match as, hp with
    | [.inr (.inr (.inl (k, 0, 8))), .inl a1], hp => exact ⟨rfl, Gh_lies_p k a1 σ0 hH hp⟩
  · intro as σ0 hp n pc st ls σ hH hI
    match as, hp, hI with
    | [.inr (.inr (.inl (k, 0, 8))), .inl a1], hp, hI => exact False.elim hI
