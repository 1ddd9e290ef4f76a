-- THE CLASS: the calls that do something
theorem xA_gen {σ σ' : Hp} (hX : XIr σ) (h8 : σ' 0 8 = σ 0 8) (h9 : σ' 0 9 = σ 0 9) (e1 : σ' 1 = σ 1) (e2 : σ' 2 = σ 2) (hK : FK (tld σ) σ σ') (hO : HO σ') (hG : 0 ≤ σ' 19 9 ∧ σ' 19 9 ≤ 30) (hM : σ' 19 10 = σ 19 10) (e28 : σ' 28 = σ 28) (h7 : 0 ≤ σ' 0 7 ∧ σ' 0 7 ≤ 6)
    (hh : σ' 14 2 < σ' 14 3 → hst σ' (σ' 14 2).toNat = stX σ' 31) (hm : ∀ c, 67 ≤ c → σ' c = σ c) : XQ σ σ' ∧ xA σ' = ((xA σ).1, (xA σ).2.1, (xA σ).2.2.1, stX σ' 31, hstL σ', bxX σ', sgX σ', ((σ' 0 7).toNat, tr (σ' 0 7).toNat (σ' 34)), σ' 0 10) := by
  obtain ⟨x1, x2, x3, x4, x5, x6, x7, x8⟩ := hX
  have et : tld σ' = tld σ := by unfold tld; rw [h8]
  have eB : tpX σ' = tpX σ := tpX_eq (by rw [e1]) e2
  refine ⟨⟨⟨?_, ?_, ?_, hO, hG, ?_, h7, hh⟩, hm⟩, ?_⟩
  · unfold TD; rw [h8, h9]; exact x1
  · unfold RT; rw [e1]; exact x2
  · rw [et]; exact hK.fs x3
  · unfold HM HT; rw [et, hK.fam, hM, e28]; exact x6
  · unfold xA
    rw [eB, e1, et, hK.fam]
/-- a frame: scratch, or some cells that are named -/
theorem frx {f : Nat} {σ σ' : Hp} {cs : List Nat} {P : Nat → Prop} (hf : Fr cs σ σ') (hc : ∀ c ∈ cs, scx f c ∨ P c) {c : Nat} (h1 : ¬ scx f c) (h2 : ¬ P c) : σ' c = σ c := hf c (fun z => (hc c z).elim h1 h2)
theorem scx_no {f c : Nat} (hf : FO f) (h : c < 3 ∨ (14 ≤ c ∧ c ≤ 24) ∨ c = 28 ∨ (31 ≤ c ∧ c ≤ 34) ∨ 67 ≤ c) : ¬ scx f c := by
  unfold scx
  rcases FO_35 hf with rfl | rfl <;> omega
theorem keep_L {σ σ1 : Hp} (hO : HO σ) (h : Hi_keep_post 14 31 σ σ1) : hstL σ1 = (hk (hstL σ).1 (stX σ 31), []) := by
  obtain ⟨h1, h2, h3, h4⟩ := h
  obtain ⟨o1, o2, o3, o4⟩ := hO
  unfold hstL
  rw [h3, Nat.sub_self]
  refine Prod.ext ?_ rfl
  show List.map (hst σ1) (List.range (σ1 14 2).toNat) = hk (List.map (hst σ) (List.range (σ 14 2).toNat)) (stX σ 31)
  unfold hk
  rw [List.length_map, List.length_range]
  by_cases e : σ 14 2 < 40
  · rw [if_pos e] at h4
    obtain ⟨k1, k2, k3⟩ := h4
    rw [if_pos (by omega), k1, show (σ 14 2 + 1).toNat = (σ 14 2).toNat + 1 by omega, List.range_succ, List.map_append]
    have : List.map (hst σ1) (List.range (σ 14 2).toNat) = List.map (hst σ) (List.range (σ 14 2).toNat) := List.map_congr_left (fun i hi => k3 i (by have := List.mem_range.mp hi; omega))
    rw [this]
    simp [k2]
  · rw [if_neg e] at h4
    obtain ⟨k1, k2, k3⟩ := h4
    have e40 : (σ 14 2).toNat = 40 := by omega
    rw [if_neg (by omega), k1, e40]
    have t : (List.map (hst σ) (List.range 40)).tail = List.map (fun i => hst σ (i + 1)) (List.range 39) := by
      rw [show (40 : Nat) = 39 + 1 from rfl, List.range_succ_eq_map, List.map_cons, List.tail_cons, List.map_map]
      rfl
    rw [t, show (40 : Int).toNat = 39 + 1 from rfl, List.range_succ, List.map_append]
    have : List.map (hst σ1) (List.range 39) = List.map (fun i => hst σ (i + 1)) (List.range 39) := List.map_congr_left (fun i hi => k3 i (List.mem_range.mp hi))
    rw [this]
    simp [k2]
abbrev P3 (c : Nat) : Prop := c = 31 ∨ c = 32 ∨ c = 33
theorem bxX_eq {σ σ' : Hp} (h17 : σ' 17 = σ 17) (h18 : σ' 18 = σ 18) : bxX σ' = bxX σ := by funext i; unfold bxX; rw [h17, h18]
/-- an act: the state is kept, then it changes -/
theorem act_x {σ σ1 σ2 : Hp} {cs : List Nat} {s : Sta} (hP : XP σ) (hk : Hi_keep_post 14 31 σ σ1) (hf : Fr cs σ1 σ2) (hc : ∀ c ∈ cs, scx (tld σ) c ∨ P3 c) (hs : stX σ2 31 = s) : XQ σ σ2 ∧ xA σ2 = act (xA σ) s := by
  have hX := hP.1
  have hfo := hX.1.fo
  have k1 := hk.1
  have e : ∀ c, (c < 3 ∨ (16 ≤ c ∧ c ≤ 24) ∨ c = 28 ∨ c = 34 ∨ 67 ≤ c) → σ2 c = σ c := fun c hcc => by
    rw [frx hf hc (scx_no hfo (by omega)) (by show ¬ (c = 31 ∨ c = 32 ∨ c = 33); omega), k1 c (by simp; omega)]
  have e14 : σ2 14 = σ1 14 := frx hf hc (scx_no hfo (by omega)) (by show ¬ ((14 : Nat) = 31 ∨ (14 : Nat) = 32 ∨ (14 : Nat) = 33); omega)
  have e15 : σ2 15 = σ1 15 := frx hf hc (scx_no hfo (by omega)) (by show ¬ ((15 : Nat) = 31 ∨ (15 : Nat) = 32 ∨ (15 : Nat) = 33); omega)
  have hK1 : FK (tld σ) σ1 σ2 := FK_of hfo hf (fun c z => by
    have := hc c z
    unfold scx P3 at this
    omega)
  have hK0 : FK (tld σ) σ σ1 := FK_of hfo k1 (fun c z => by simp at z; omega)
  have hK : FK (tld σ) σ σ2 := ⟨hK1.1.trans hK0.1, fun d d1 d2 => (hK1.2.1 d d1 d2).trans (hK0.2.1 d d1 d2), hK1.2.2.1.trans hK0.2.2.1, hK1.2.2.2.1.trans hK0.2.2.2.1, hK1.2.2.2.2.1.trans hK0.2.2.2.2.1, hK1.2.2.2.2.2.trans hK0.2.2.2.2.2⟩
  have hO2 : HO σ2 := by unfold HO; rw [e14]; exact hk.2.1
  have G := xA_gen hX (by rw [e 0 (by omega)]) (by rw [e 0 (by omega)]) (e 1 (by omega)) (e 2 (by omega)) hK hO2 (by rw [e 19 (by omega)]; exact hX.2.2.2.2.1) (by rw [e 19 (by omega)]) (e 28 (by omega)) (by rw [e 0 (by omega)]; exact hX.2.2.2.2.2.2.1) (fun z => by rw [e14, hk.2.2.1] at z; omega) (fun c hcc => e c (by omega))
  refine ⟨G.1, ?_⟩
  rw [G.2, hs]
  have eh : hst σ2 = hst σ1 := by funext i; unfold hst; rw [e14, e15]
  have eL : hstL σ2 = hstL σ1 := by unfold hstL; rw [eh, e14]
  have eG : sgX σ2 = sgX σ := sgX_eq (by rw [e 19 (by omega)]) (fun c c1 c2 => e c (by omega))
  rw [eL, keep_L hX.2.2.2.1 hk, bxX_eq (e 17 (by omega)) (e 18 (by omega)), eG, e 0 (by omega), e 34 (by omega)]
  rfl
theorem same0 {σ : Hp} (hX : XIr σ) : XQ σ σ := ⟨hX, fun _ _ => rfl⟩
theorem keep_F {σ σ1 : Hp} (hX : XIr σ) (hk : Hi_keep_post 14 31 σ σ1) : (σ1 0 8).toNat = tld σ ∧ famX σ1 (tld σ) = famX σ (tld σ) ∧ FS σ1 (tld σ) ∧ (∀ d, d < 3 → σ1 (31 + d) = σ (31 + d)) := by
  have hfo := hX.1.fo
  have hK0 : FK (tld σ) σ σ1 := FK_of hfo hk.1 (fun c z => by simp at z; omega)
  refine ⟨?_, hK0.fam, hK0.fs hX.2.2.1, fun d hd => hk.1 _ (by simp; omega)⟩
  rw [hk.1 0 (by decide)]; rfl
def Gh_day_pre (k : Nat) (σ : Hp) : Prop := k = 0 ∧ XP σ
def Gh_day_post (_k : Nat) (σ : Hp) (r : Int) (σ' : Hp) : Prop := XQ σ σ' ∧ s_day (xA σ) r (xA σ')
def Gh_day_bk : List (Nat × List Item) := [(0, [(.aload_n 0, 1, [], []), (.getfield 47, 3, [8, 5, 4, 31, 0, 7], []), (.getfield 132, 3, [7, 3, 0, 0, 0, 0], []), (.sipush 999, 3, [], []), (.if_icmp .lt 6, 3, [16], []), (.bipush (-2), 2, [], []), (.ireturn, 1, [], [])]),
  (16, [(.aload_n 0, 1, [], []), (.getfield 26, 3, [8, 2, 4, 14, 0, 3], []), (.aload_n 0, 1, [], []), (.getfield 47, 3, [8, 5, 4, 31, 0, 7], []), (.invokevirtual 135, 3, [0], []), (.aload_n 0, 1, [], []), (.getfield 58, 3, [8, 8, 5, 0, 0, 1], []), (.aload_n 0, 1, [], []), (.getfield 47, 3, [8, 5, 4, 31, 0, 7], []), (.iconst (-1), 1, [], []), (.invokevirtual 139, 3, [1], []), (.aload_n 0, 1, [], []), (.getfield 47, 3, [8, 5, 4, 31, 0, 7], []), (.getfield 129, 3, [7, 2, 0, 0, 0, 0], []), (.ireturn, 1, [], [])])]
def Gh_day_cl : List (Instr × Nat) := [(.invokevirtual 135, 0), (.invokevirtual 139, 1)]
set_option maxRecDepth 20000 in
theorem Gh_day_ck : Gh_day_bk.all (fun b => ax_chB 8 1 cX8_day Gh_day_cl b.1 b.2) = true := by decide +kernel
def Gh_day_cs : Ct := (1, 9, 1, (0, 0), fun as σ => (match as with
    | [.inr (.inr (.inl (k, 0, 8)))] => Gh_day_pre k σ
    | _ => False), fun as σ r σ' => (match as with
    | [.inr (.inr (.inl (k, 0, 8)))] => Gh_day_post k σ r σ'
    | _ => False))
theorem Gh_day_w : ∀ w ∈ ([.instanceMethod yX8_day, .selects yX8_day.cls yX8_day yX8_day, .initialized yX8_day.cls, .code yX8_day cX8_day 1 (some .int)] : List Cond), w ∈ ax_tb := ax_w4 (ax_m3 206 (by decide +kernel) rfl) (ax_m3 207 (by decide +kernel) rfl) (ax_m1 1 (by decide +kernel) rfl) (ax_m3 208 (by decide +kernel) rfl)
theorem Gh_day_ds : yX8_day.cls ≠ "java/lang/invoke/MethodHandle" ∧ yX8_day.cls ≠ "java/lang/invoke/VarHandle" ∧ (parseMethodDescriptor yX8_day.desc).map (fun d => d.parameters.length) = some 0 := by decide +kernel
def Gh_day_vc : Prop := ∀ (k : Nat) (σ : Hp), ax_H σ → Gh_day_pre k σ →
  (σ (k + 31) 3 < 999 →
    Hi_keep_pre (k + 14) (k + 31) σ ∧
    ∀ σ1 : Hp, Hi_keep_post (k + 14) (k + 31) σ σ1 →
    Fa_pass_pre ((σ1 k 8).toNat) (k + 31) (-1) σ1 ∧
    ∀ σ2 : Hp, Fa_pass_post ((σ1 k 8).toNat) (k + 31) (-1) σ1 σ2 →
    Gh_day_post k σ (σ2 (k + 31) 2) σ2) ∧
  (¬ (σ (k + 31) 3 < 999) →
    Gh_day_post k σ (-2) σ)
theorem Gh_day_p : Gh_day_vc := by
  intro k σ hH hp
  obtain ⟨rfl, hP⟩ := hp
  have hX := hP.1
  refine ⟨fun h => ⟨⟨rfl, rfl, hX.2.2.2.1⟩, ?_⟩, fun h => ⟨same0 hX, ?_⟩⟩
  · intro σ1 hk
    obtain ⟨t1, t2, t3, t4⟩ := keep_F hX hk
    have es : stX σ1 31 = stX σ 31 := stX_eq t4
    have hok : OKs 999 (stX σ1 31) := by rw [es]; exact hP.2.2.2.1.1
    rw [t1]
    refine ⟨⟨hX.1.fo, Or.inr (Or.inr rfl), t3, hok.ss, hok.sd (by decide), Or.inl rfl⟩, ?_⟩
    rintro σ2 ⟨g1, g2⟩
    have g2' : stX σ2 31 = stp (famX σ (tld σ)) (-1) (stX σ 31) := by
      have : stX σ2 31 = stp (famX σ1 (tld σ)) (-1) (stX σ1 31) := g2
      rw [this, t2, es]
    have A := act_x hP hk g1 (fun c hc => by
      simp only [sg, List.mem_cons, List.not_mem_nil, or_false] at hc
      unfold scx P3
      omega) g2'
    refine ⟨A.1, ?_⟩
    unfold s_day
    rw [if_neg (show ¬ 999 ≤ (aS (xA σ)).2.2.2.1 from Int.not_le.mpr h)]
    refine ⟨?_, A.2⟩
    have : σ2 31 2 = (stX σ2 31).2.2.1 := rfl
    show σ2 31 2 = _
    rw [this, g2']; rfl
  · unfold s_day
    rw [if_pos (show 999 ≤ (aS (xA σ)).2.2.2.1 from Int.not_lt.mp h)]
    exact ⟨rfl, rfl⟩
def Gh_day_I : List AV → Hp → Nat → Nat → List AV → List AV → Hp → Prop := fun as σ0 pc n st ls σ => (match as with
    | [.inr (.inr (.inl (k, 0, 8)))] => False
    | _ => False)
def Gh_day_ct : Nat → Ct := fun n => match n with
  | 0 => Hi_keep_cs
  | 1 => Fa_pass_cs
  | _ => Gh_day_cs
set_option maxRecDepth 20000 in
set_option maxHeartbeats 4000000 in
theorem Gh_day_met {l : Launch} {D : va_G} {ad : Nat → Nat} {ca : Nat → ClassId} {L : Nat} {fx : Nat → Int} : ax_MC l D ad ca L fx yX8_day cX8_day 1 (some .int) 6 Gh_day_cs := by
  refine ax_met (oc := 8) (ct := Gh_day_ct) (calls := Gh_day_cl) (bs := Gh_day_bk) (cut := fun pc => false) (f := 3) (I := Gh_day_I) (by decide) rfl rfl Gh_day_ck (List.forall_mem_cons.mpr ⟨ax_cwV Hi_keep_met (by decide) (by decide) rfl (by decide) rfl (ax_m3 209 (by decide +kernel) rfl) Hi_keep_w rfl Hi_keep_ds, List.forall_mem_cons.mpr ⟨ax_cwV Fa_pass_met (by decide) (by decide) rfl (by decide) rfl (ax_m3 221 (by decide +kernel) rfl) Fa_pass_w rfl Fa_pass_ds, fun _ h => absurd h List.not_mem_nil⟩⟩) ?_ ?_
  · intro as σ0 hp hH
    match as, hp with
    | [.inr (.inr (.inl (k, 0, 8)))], hp => exact ⟨rfl, Gh_day_p k σ0 hH hp⟩
  · intro as σ0 hp n pc st ls σ hH hI
    match as, hp, hI with
    | [.inr (.inr (.inl (k, 0, 8)))], hp, hI => exact False.elim hI
theorem chg_x {σ σ5 σ6 : Hp} {a v : Int} {r : Int} (hP : XP σ) (hk : Hi_keep_post 14 31 σ σ5) (ha : isP (xA σ) a) (h : St_change_post 31 a v σ5 r σ6) : XQ σ σ6 ∧ r = (chg (aS (xA σ)) a.toNat v).1 a.toNat ∧ xA σ6 = act (xA σ) (chg (aS (xA σ)) a.toNat v) := by
  obtain ⟨g1, g2⟩ := h
  obtain ⟨t1, t2, t3, t4⟩ := keep_F hP.1 hk
  have hn6 := hP.n6
  have nf : fN (aF (xA σ)) = fN (famX σ (tld σ)) := rfl
  have ha6 : a.toNat < 6 := by have := ha.2; omega
  have e32 : σ5 (31 + 1) a.toNat = (stX σ 31).1 a.toNat := by rw [t4 1 (by decide)]; exact (tr_in ha6).symm
  have es : stX σ5 31 = stX σ 31 := stX_eq t4
  rw [e32] at g1
  have hs : stX σ6 31 = chg (stX σ 31) a.toNat v := by
    rw [g2, stX_care ha6, es, g1]; rfl
  have A := act_x (cs := [32]) hP hk (by rw [g2]; exact Fr.hp Fr.rf (by simp)) (fun c hc => Or.inr (Or.inr (Or.inl (List.mem_singleton.mp hc)))) hs
  refine ⟨A.1, ?_, A.2⟩
  rw [g1]
  show _ = va_up (stX σ 31).1 a.toNat _ a.toNat
  rw [vu_at]
  rfl
def Gh_ease_pre (k : Nat) (_a _b : Int) (σ : Hp) : Prop := k = 0 ∧ XP σ
def Gh_ease_post (_k : Nat) (a b : Int) (σ : Hp) (r : Int) (σ' : Hp) : Prop := XQ σ σ' ∧ s_ease (xA σ) a b r (xA σ')
def Gh_ease_bk : List (Nat × List Item) := [(0, [(.aload_n 0, 1, [], []), (.iload_n 1, 1, [], []), (.invokevirtual 102, 3, [0], []), (.ifCond .eq 10, 3, [15], []), (.iload_n 2, 1, [], []), (.invokestatic 143, 3, [1], []), (.ifCond .ne 5, 3, [17], [])]),
  (15, [(.iconst (-1), 1, [], []), (.ireturn, 1, [], [])]),
  (17, [(.aload_n 0, 1, [], []), (.getfield 26, 3, [8, 2, 4, 14, 0, 3], []), (.aload_n 0, 1, [], []), (.getfield 47, 3, [8, 5, 4, 31, 0, 7], []), (.invokevirtual 135, 3, [2], []), (.aload_n 0, 1, [], []), (.getfield 47, 3, [8, 5, 4, 31, 0, 7], []), (.iload_n 1, 1, [], []), (.iload_n 2, 1, [], []), (.ineg, 1, [], []), (.invokevirtual 146, 3, [3], []), (.ireturn, 1, [], [])])]
def Gh_ease_cl : List (Instr × Nat) := [(.invokevirtual 102, 0), (.invokestatic 143, 1), (.invokevirtual 135, 2), (.invokevirtual 146, 3)]
set_option maxRecDepth 20000 in
theorem Gh_ease_ck : Gh_ease_bk.all (fun b => ax_chB 8 3 cX8_ease Gh_ease_cl b.1 b.2) = true := by decide +kernel
def Gh_ease_cs : Ct := (3, 9, 1, (0, 0), fun as σ => (match as with
    | [.inr (.inr (.inl (k, 0, 8))), .inl a1, .inl a2] => Gh_ease_pre k a1 a2 σ
    | _ => False), fun as σ r σ' => (match as with
    | [.inr (.inr (.inl (k, 0, 8))), .inl a1, .inl a2] => Gh_ease_post k a1 a2 σ r σ'
    | _ => False))
theorem Gh_ease_w : ∀ w ∈ ([.instanceMethod yX8_ease, .selects yX8_ease.cls yX8_ease yX8_ease, .initialized yX8_ease.cls, .code yX8_ease cX8_ease 3 (some .int)] : List Cond), w ∈ ax_tb := ax_w4 (ax_m4 11 (by decide +kernel) rfl) (ax_m4 12 (by decide +kernel) rfl) (ax_m1 1 (by decide +kernel) rfl) (ax_m4 13 (by decide +kernel) rfl)
theorem Gh_ease_ds : yX8_ease.cls ≠ "java/lang/invoke/MethodHandle" ∧ yX8_ease.cls ≠ "java/lang/invoke/VarHandle" ∧ (parseMethodDescriptor yX8_ease.desc).map (fun d => d.parameters.length) = some 2 := by decide +kernel
def Gh_ease_vc : Prop := ∀ (k : Nat) (a1 : Int) (a2 : Int) (σ : Hp), ax_H σ → Gh_ease_pre k a1 a2 σ →
  Gh_isPerson_pre k a1 σ ∧
  ∀ (r2 : Int) (σ1 : Hp), Gh_isPerson_post k a1 σ r2 σ1 →
  (r2 = 0 →
    Gh_ease_post k a1 a2 σ (-1) σ1) ∧
  (¬ (r2 = 0) →
    Gh_isSomeCare_pre a2 σ1 ∧
    ∀ (r4 : Int) (σ3 : Hp), Gh_isSomeCare_post a2 σ1 r4 σ3 →
    (¬ r4 = 0 →
      Hi_keep_pre (k + 14) (k + 31) σ3 ∧
      ∀ σ5 : Hp, Hi_keep_post (k + 14) (k + 31) σ3 σ5 →
      St_change_pre (k + 31) a1 (wr (-a2)) σ5 ∧
      ∀ (r7 : Int) (σ6 : Hp), St_change_post (k + 31) a1 (wr (-a2)) σ5 r7 σ6 →
      Gh_ease_post k a1 a2 σ r7 σ6) ∧
    (¬ (¬ r4 = 0) →
      Gh_ease_post k a1 a2 σ (-1) σ3))
theorem Gh_ease_p : Gh_ease_vc := by
  intro k a b σ hH hp
  obtain ⟨rfl, hP⟩ := hp
  have hX := hP.1
  have hn6 := hP.n6
  have nf : fN (aF (xA σ)) = fN (famX σ (tld σ)) := rfl
  refine ⟨⟨rfl, hX⟩, ?_⟩
  rintro r2 σ1 ⟨rfl, rfl⟩
  refine ⟨fun h => ⟨same0 hX, ?_⟩, fun h => ⟨trivial, ?_⟩⟩
  · show if _ then _ else _; rw [if_neg (fun z => ite0 h z.1)]; exact ⟨rfl, rfl⟩
  · rintro r4 σ3 ⟨rfl, rfl⟩
    refine ⟨fun h2 => ⟨⟨rfl, rfl, hX.2.2.2.1⟩, ?_⟩, fun h2 => ⟨same0 hX, ?_⟩⟩
    · intro σ5 hk
      have hb := ite1 h2
      have ha := ite1 h
      have ew : wr (-b) = -b := wr_id (by omega) (by omega)
      rw [ew]
      obtain ⟨t1, t2, t3, t4⟩ := keep_F hX hk
      refine ⟨⟨ha.1, by have := ha.2; omega, by omega, by omega, SS_eq t4 hP.ss⟩, ?_⟩
      intro r7 σ6 h6
      have A := chg_x hP hk ha h6
      refine ⟨A.1, ?_⟩
      show if _ then _ else _
      rw [if_pos ⟨ha, hb⟩]
      exact A.2
    · show if _ then _ else _; rw [if_neg (fun z => ite0' h2 z.2)]; exact ⟨rfl, rfl⟩
def Gh_ease_I : List AV → Hp → Nat → Nat → List AV → List AV → Hp → Prop := fun as σ0 pc n st ls σ => (match as with
    | [.inr (.inr (.inl (k, 0, 8))), .inl a1, .inl a2] => False
    | _ => False)
def Gh_ease_ct : Nat → Ct := fun n => match n with
  | 0 => Gh_isPerson_cs
  | 1 => Gh_isSomeCare_cs
  | 2 => Hi_keep_cs
  | 3 => St_change_cs
  | _ => Gh_ease_cs
set_option maxRecDepth 20000 in
set_option maxHeartbeats 4000000 in
theorem Gh_ease_met {l : Launch} {D : va_G} {ad : Nat → Nat} {ca : Nat → ClassId} {L : Nat} {fx : Nat → Int} : ax_MC l D ad ca L fx yX8_ease cX8_ease 3 (some .int) 4 Gh_ease_cs := by
  refine ax_met (oc := 8) (ct := Gh_ease_ct) (calls := Gh_ease_cl) (bs := Gh_ease_bk) (cut := fun pc => false) (f := 4) (I := Gh_ease_I) (by decide) rfl rfl Gh_ease_ck (List.forall_mem_cons.mpr ⟨ax_cwV Gh_isPerson_met (by decide) (by decide) rfl (by decide) rfl (ax_m3 188 (by decide +kernel) rfl) Gh_isPerson_w rfl Gh_isPerson_ds, List.forall_mem_cons.mpr ⟨ax_cwS Gh_isSomeCare_met (by decide) (by decide) (ax_m4 14 (by decide +kernel) rfl) Gh_isSomeCare_w rfl Gh_isSomeCare_ds, List.forall_mem_cons.mpr ⟨ax_cwV Hi_keep_met (by decide) (by decide) rfl (by decide) rfl (ax_m3 209 (by decide +kernel) rfl) Hi_keep_w rfl Hi_keep_ds, List.forall_mem_cons.mpr ⟨ax_cwV St_change_met (by decide) (by decide) rfl (by decide) rfl (ax_m4 17 (by decide +kernel) rfl) St_change_w rfl St_change_ds, fun _ h => absurd h List.not_mem_nil⟩⟩⟩⟩) ?_ ?_
  · intro as σ0 hp hH
    match as, hp with
    | [.inr (.inr (.inl (k, 0, 8))), .inl a1, .inl a2], hp => exact ⟨rfl, Gh_ease_p k a1 a2 σ0 hH hp⟩
  · intro as σ0 hp n pc st ls σ hH hI
    match as, hp, hI with
    | [.inr (.inr (.inl (k, 0, 8))), .inl a1, .inl a2], hp, hI => exact False.elim hI
def Gh_take_pre (k : Nat) (_a _b : Int) (σ : Hp) : Prop := k = 0 ∧ XP σ
def Gh_take_post (_k : Nat) (a b : Int) (σ : Hp) (r : Int) (σ' : Hp) : Prop := XQ σ σ' ∧ s_take (xA σ) a b r (xA σ')
def Gh_take_bk : List (Nat × List Item) := [(0, [(.aload_n 0, 1, [], []), (.iload_n 1, 1, [], []), (.invokevirtual 102, 3, [0], []), (.ifCond .eq 10, 3, [15], []), (.iload_n 2, 1, [], []), (.invokestatic 143, 3, [1], []), (.ifCond .ne 5, 3, [17], [])]),
  (15, [(.iconst (-1), 1, [], []), (.ireturn, 1, [], [])]),
  (17, [(.aload_n 0, 1, [], []), (.getfield 26, 3, [8, 2, 4, 14, 0, 3], []), (.aload_n 0, 1, [], []), (.getfield 47, 3, [8, 5, 4, 31, 0, 7], []), (.invokevirtual 135, 3, [2], []), (.aload_n 0, 1, [], []), (.getfield 47, 3, [8, 5, 4, 31, 0, 7], []), (.iload_n 1, 1, [], []), (.iload_n 2, 1, [], []), (.invokevirtual 146, 3, [3], []), (.ireturn, 1, [], [])])]
def Gh_take_cl : List (Instr × Nat) := [(.invokevirtual 102, 0), (.invokestatic 143, 1), (.invokevirtual 135, 2), (.invokevirtual 146, 3)]
set_option maxRecDepth 20000 in
theorem Gh_take_ck : Gh_take_bk.all (fun b => ax_chB 8 3 cX8_take Gh_take_cl b.1 b.2) = true := by decide +kernel
def Gh_take_cs : Ct := (3, 9, 1, (0, 0), fun as σ => (match as with
    | [.inr (.inr (.inl (k, 0, 8))), .inl a1, .inl a2] => Gh_take_pre k a1 a2 σ
    | _ => False), fun as σ r σ' => (match as with
    | [.inr (.inr (.inl (k, 0, 8))), .inl a1, .inl a2] => Gh_take_post k a1 a2 σ r σ'
    | _ => False))
theorem Gh_take_w : ∀ w ∈ ([.instanceMethod yX8_take, .selects yX8_take.cls yX8_take yX8_take, .initialized yX8_take.cls, .code yX8_take cX8_take 3 (some .int)] : List Cond), w ∈ ax_tb := ax_w4 (ax_m4 19 (by decide +kernel) rfl) (ax_m4 20 (by decide +kernel) rfl) (ax_m1 1 (by decide +kernel) rfl) (ax_m4 21 (by decide +kernel) rfl)
theorem Gh_take_ds : yX8_take.cls ≠ "java/lang/invoke/MethodHandle" ∧ yX8_take.cls ≠ "java/lang/invoke/VarHandle" ∧ (parseMethodDescriptor yX8_take.desc).map (fun d => d.parameters.length) = some 2 := by decide +kernel
def Gh_take_vc : Prop := ∀ (k : Nat) (a1 : Int) (a2 : Int) (σ : Hp), ax_H σ → Gh_take_pre k a1 a2 σ →
  Gh_isPerson_pre k a1 σ ∧
  ∀ (r2 : Int) (σ1 : Hp), Gh_isPerson_post k a1 σ r2 σ1 →
  (r2 = 0 →
    Gh_take_post k a1 a2 σ (-1) σ1) ∧
  (¬ (r2 = 0) →
    Gh_isSomeCare_pre a2 σ1 ∧
    ∀ (r4 : Int) (σ3 : Hp), Gh_isSomeCare_post a2 σ1 r4 σ3 →
    (¬ r4 = 0 →
      Hi_keep_pre (k + 14) (k + 31) σ3 ∧
      ∀ σ5 : Hp, Hi_keep_post (k + 14) (k + 31) σ3 σ5 →
      St_change_pre (k + 31) a1 a2 σ5 ∧
      ∀ (r7 : Int) (σ6 : Hp), St_change_post (k + 31) a1 a2 σ5 r7 σ6 →
      Gh_take_post k a1 a2 σ r7 σ6) ∧
    (¬ (¬ r4 = 0) →
      Gh_take_post k a1 a2 σ (-1) σ3))
theorem Gh_take_p : Gh_take_vc := by
  intro k a b σ hH hp
  obtain ⟨rfl, hP⟩ := hp
  have hX := hP.1
  have hn6 := hP.n6
  have nf : fN (aF (xA σ)) = fN (famX σ (tld σ)) := rfl
  refine ⟨⟨rfl, hX⟩, ?_⟩
  rintro r2 σ1 ⟨rfl, rfl⟩
  refine ⟨fun h => ⟨same0 hX, ?_⟩, fun h => ⟨trivial, ?_⟩⟩
  · show if _ then _ else _; rw [if_neg (fun z => ite0 h z.1)]; exact ⟨rfl, rfl⟩
  · rintro r4 σ3 ⟨rfl, rfl⟩
    refine ⟨fun h2 => ⟨⟨rfl, rfl, hX.2.2.2.1⟩, ?_⟩, fun h2 => ⟨same0 hX, ?_⟩⟩
    · intro σ5 hk
      have hb := ite1 h2
      have ha := ite1 h
      obtain ⟨t1, t2, t3, t4⟩ := keep_F hX hk
      refine ⟨⟨ha.1, by have := ha.2; omega, by omega, by omega, SS_eq t4 hP.ss⟩, ?_⟩
      intro r7 σ6 h6
      have A := chg_x hP hk ha h6
      refine ⟨A.1, ?_⟩
      show if _ then _ else _
      rw [if_pos ⟨ha, hb⟩]
      exact A.2
    · show if _ then _ else _; rw [if_neg (fun z => ite0' h2 z.2)]; exact ⟨rfl, rfl⟩
def Gh_take_I : List AV → Hp → Nat → Nat → List AV → List AV → Hp → Prop := fun as σ0 pc n st ls σ => (match as with
    | [.inr (.inr (.inl (k, 0, 8))), .inl a1, .inl a2] => False
    | _ => False)
def Gh_take_ct : Nat → Ct := fun n => match n with
  | 0 => Gh_isPerson_cs
  | 1 => Gh_isSomeCare_cs
  | 2 => Hi_keep_cs
  | 3 => St_change_cs
  | _ => Gh_take_cs
set_option maxRecDepth 20000 in
set_option maxHeartbeats 4000000 in
theorem Gh_take_met {l : Launch} {D : va_G} {ad : Nat → Nat} {ca : Nat → ClassId} {L : Nat} {fx : Nat → Int} : ax_MC l D ad ca L fx yX8_take cX8_take 3 (some .int) 4 Gh_take_cs := by
  refine ax_met (oc := 8) (ct := Gh_take_ct) (calls := Gh_take_cl) (bs := Gh_take_bk) (cut := fun pc => false) (f := 4) (I := Gh_take_I) (by decide) rfl rfl Gh_take_ck (List.forall_mem_cons.mpr ⟨ax_cwV Gh_isPerson_met (by decide) (by decide) rfl (by decide) rfl (ax_m3 188 (by decide +kernel) rfl) Gh_isPerson_w rfl Gh_isPerson_ds, List.forall_mem_cons.mpr ⟨ax_cwS Gh_isSomeCare_met (by decide) (by decide) (ax_m4 14 (by decide +kernel) rfl) Gh_isSomeCare_w rfl Gh_isSomeCare_ds, List.forall_mem_cons.mpr ⟨ax_cwV Hi_keep_met (by decide) (by decide) rfl (by decide) rfl (ax_m3 209 (by decide +kernel) rfl) Hi_keep_w rfl Hi_keep_ds, List.forall_mem_cons.mpr ⟨ax_cwV St_change_met (by decide) (by decide) rfl (by decide) rfl (ax_m4 17 (by decide +kernel) rfl) St_change_w rfl St_change_ds, fun _ h => absurd h List.not_mem_nil⟩⟩⟩⟩) ?_ ?_
  · intro as σ0 hp hH
    match as, hp with
    | [.inr (.inr (.inl (k, 0, 8))), .inl a1, .inl a2], hp => exact ⟨rfl, Gh_take_p k a1 a2 σ0 hH hp⟩
  · intro as σ0 hp n pc st ls σ hH hI
    match as, hp, hI with
    | [.inr (.inr (.inl (k, 0, 8))), .inl a1, .inl a2], hp, hI => exact False.elim hI
/-- knows changed, then he worries -/
theorem kno_x {σ σ5 σ6 σ7 : Hp} {a v r : Int} (hP : XP σ) (hk : Hi_keep_post 14 31 σ σ5) (ha : isP (xA σ) a) (hv : 0 ≤ v ∧ v < 64) (h6 : σ6 = hp σ5 33 a.toNat v) : (σ6 0 8).toNat = tld σ ∧ Fa_worryOf_pre (tld σ) 31 a σ6 ∧ (Fa_worryOf_post (tld σ) 31 a σ6 r σ7 → XQ σ σ7 ∧ r = wry (aF (xA σ)) (wkn (aS (xA σ)) a.toNat v) a.toNat ∧ xA σ7 = act (xA σ) (wkn (aS (xA σ)) a.toNat v)) := by
  obtain ⟨t1, t2, t3, t4⟩ := keep_F hP.1 hk
  have hfo := hP.1.1.fo
  have hn6 := hP.n6
  have nf : fN (aF (xA σ)) = fN (famX σ (tld σ)) := rfl
  have ha6 : a.toNat < 6 := by have := ha.2; omega
  have es : stX σ5 31 = stX σ 31 := stX_eq t4
  have hs : stX σ6 31 = wkn (stX σ 31) a.toNat v := by rw [h6, show (33 : Nat) = 31 + 2 from rfl, stX_know ha6, es]
  have f6 : Fr [33] σ5 σ6 := by rw [h6]; exact Fr.hp Fr.rf (by simp)
  have hK : FK (tld σ) σ5 σ6 := FK_of hfo f6 (fun c z => by simp at z; omega)
  have hok : OKs 999 (stX σ6 31) := by rw [hs]; exact hP.2.2.2.1.1.wkn _ hv
  refine ⟨by rw [f6 0 (by decide)]; exact t1, ⟨hfo, Or.inr (Or.inr rfl), ha.1, by omega, hK.fs t3, hok.ss.ws ha6⟩, ?_⟩
  rintro ⟨g1, rfl⟩
  have es7 : stX σ7 31 = wkn (stX σ 31) a.toNat v := by
    rw [← hs]; exact stX_eq (sc_st hfo (Or.inr (Or.inr rfl)) g1)
  have A := act_x (cs := 33 :: sc (tld σ)) hP hk ((f6.mono (by simp)).tr (g1.mono (fun c hc => List.mem_cons_of_mem _ hc))) (fun c hc => by
    rcases List.mem_cons.mp hc with z | z
    · exact Or.inr (Or.inr (Or.inr z))
    · exact Or.inl (scx_sc c z)) es7
  refine ⟨A.1, ?_, A.2⟩
  rw [hK.fam, t2, hs]; rfl
def Gh_tell_pre (k : Nat) (_a _b : Int) (σ : Hp) : Prop := k = 0 ∧ XP σ
def Gh_tell_post (_k : Nat) (a b : Int) (σ : Hp) (r : Int) (σ' : Hp) : Prop := XQ σ σ' ∧ s_tell (xA σ) a b r (xA σ')
def Gh_tell_bk : List (Nat × List Item) := [(0, [(.aload_n 0, 1, [], []), (.iload_n 1, 1, [], []), (.iload_n 2, 1, [], []), (.invokevirtual 150, 3, [0], []), (.ifCond .eq 27, 3, [33], []), (.aload_n 0, 1, [], []), (.getfield 47, 3, [8, 5, 4, 31, 0, 7], []), (.iload_n 1, 1, [], []), (.iload_n 2, 1, [], []), (.invokevirtual 154, 3, [1], []), (.ifCond .ne 15, 3, [33], []), (.aload_n 0, 1, [], []), (.getfield 47, 3, [8, 5, 4, 31, 0, 7], []), (.invokevirtual 157, 3, [2], []), (.bipush 12, 2, [], []), (.if_icmp .lt 5, 3, [35], [])]),
  (33, [(.iconst (-1), 1, [], []), (.ireturn, 1, [], [])]),
  (35, [(.aload_n 0, 1, [], []), (.getfield 26, 3, [8, 2, 4, 14, 0, 3], []), (.aload_n 0, 1, [], []), (.getfield 47, 3, [8, 5, 4, 31, 0, 7], []), (.invokevirtual 135, 3, [3], []), (.aload_n 0, 1, [], []), (.getfield 47, 3, [8, 5, 4, 31, 0, 7], []), (.getfield 116, 3, [7, 1, 4, 2, 1, 6], []), (.iload_n 1, 1, [], []), (.dup2, 1, [], []), (.iaload, 1, [], []), (.iconst 1, 1, [], []), (.iload_n 2, 1, [], []), (.ishl, 1, [], []), (.ior, 1, [], []), (.iastore, 1, [], []), (.aload_n 0, 1, [], []), (.getfield 58, 3, [8, 8, 5, 0, 0, 1], []), (.aload_n 0, 1, [], []), (.getfield 47, 3, [8, 5, 4, 31, 0, 7], []), (.iload_n 1, 1, [], []), (.invokevirtual 112, 3, [4], []), (.ireturn, 1, [], [])])]
def Gh_tell_cl : List (Instr × Nat) := [(.invokevirtual 150, 0), (.invokevirtual 154, 1), (.invokevirtual 157, 2), (.invokevirtual 135, 3), (.invokevirtual 112, 4)]
set_option maxRecDepth 20000 in
theorem Gh_tell_ck : Gh_tell_bk.all (fun b => ax_chB 8 3 cX8_tell Gh_tell_cl b.1 b.2) = true := by decide +kernel
def Gh_tell_cs : Ct := (3, 9, 1, (0, 0), fun as σ => (match as with
    | [.inr (.inr (.inl (k, 0, 8))), .inl a1, .inl a2] => Gh_tell_pre k a1 a2 σ
    | _ => False), fun as σ r σ' => (match as with
    | [.inr (.inr (.inl (k, 0, 8))), .inl a1, .inl a2] => Gh_tell_post k a1 a2 σ r σ'
    | _ => False))
theorem Gh_tell_w : ∀ w ∈ ([.instanceMethod yX8_tell, .selects yX8_tell.cls yX8_tell yX8_tell, .initialized yX8_tell.cls, .code yX8_tell cX8_tell 3 (some .int)] : List Cond), w ∈ ax_tb := ax_w4 (ax_m4 23 (by decide +kernel) rfl) (ax_m4 24 (by decide +kernel) rfl) (ax_m1 1 (by decide +kernel) rfl) (ax_m4 25 (by decide +kernel) rfl)
theorem Gh_tell_ds : yX8_tell.cls ≠ "java/lang/invoke/MethodHandle" ∧ yX8_tell.cls ≠ "java/lang/invoke/VarHandle" ∧ (parseMethodDescriptor yX8_tell.desc).map (fun d => d.parameters.length) = some 2 := by decide +kernel
def Gh_tell_vc : Prop := ∀ (k : Nat) (a1 : Int) (a2 : Int) (σ : Hp), ax_H σ → Gh_tell_pre k a1 a2 σ →
  Gh_areTwo_pre k a1 a2 σ ∧
  ∀ (r2 : Int) (σ1 : Hp), Gh_areTwo_post k a1 a2 σ r2 σ1 →
  (r2 = 0 →
    Gh_tell_post k a1 a2 σ (-1) σ1) ∧
  (¬ (r2 = 0) →
    St_isKnown_pre (k + 31) a1 a2 σ1 ∧
    ∀ (r4 : Int) (σ3 : Hp), St_isKnown_post (k + 31) a1 a2 σ1 r4 σ3 →
    (¬ r4 = 0 →
      Gh_tell_post k a1 a2 σ (-1) σ3) ∧
    (¬ (¬ r4 = 0) →
      St_countKnows_pre (k + 31) σ3 ∧
      ∀ (r6 : Int) (σ5 : Hp), St_countKnows_post (k + 31) σ3 r6 σ5 →
      (r6 < 12 →
        Hi_keep_pre (k + 14) (k + 31) σ5 ∧
        ∀ σ7 : Hp, Hi_keep_post (k + 14) (k + 31) σ5 σ7 →
        (0 ≤ a1 ∧ a1 < 6) ∧
        (0 ≤ a1 ∧ a1 < 6) ∧
        ∀ σ8 : Hp, σ8 = hp σ7 (k + 33) a1.toNat (iOr (σ7 (k + 33) a1.toNat) (iShl 1 a2)) →
        Fa_worryOf_pre ((σ8 k 8).toNat) (k + 31) a1 σ8 ∧
        ∀ (r10 : Int) (σ9 : Hp), Fa_worryOf_post ((σ8 k 8).toNat) (k + 31) a1 σ8 r10 σ9 →
        Gh_tell_post k a1 a2 σ r10 σ9) ∧
      (¬ (r6 < 12) →
        Gh_tell_post k a1 a2 σ (-1) σ5)))
theorem kn_X {σ : Hp} : kn (σ 33) 6 = kn (aS (xA σ)).2.1 6 := kn_ext' (fun j hj => (tr_in hj).symm)
theorem Gh_tell_p : Gh_tell_vc := by
  intro k a b σ hH hp
  obtain ⟨rfl, hP⟩ := hp
  have hX := hP.1
  have hn6 := hP.n6
  have nf : fN (aF (xA σ)) = fN (famX σ (tld σ)) := rfl
  refine ⟨⟨rfl, hX⟩, ?_⟩
  rintro r2 σ1 ⟨rfl, rfl⟩
  refine ⟨fun h => ⟨same0 hX, ?_⟩, fun h => ?_⟩
  · unfold s_tell; rw [if_neg (fun z => ite0 h z.1)]; exact ⟨rfl, rfl⟩
  · have hw := ite1 h
    obtain ⟨⟨ha, hb⟩, hne⟩ := hw
    have ha6 : a.toNat < 6 := by have := ha.2; omega
    have hb6 : b.toNat < 6 := by have := hb.2; omega
    refine ⟨⟨ha.1, by omega, hb.1, by omega, hP.ss⟩, ?_⟩
    rintro r4 σ3 ⟨rfl, rfl⟩
    have eb : bt (σ3 (0 + 31 + 2) a.toNat) b.toNat = bt ((aS (xA σ3)).2.1 a.toNat) b.toNat := congrArg (fun z => bt z b.toNat) (tr_in ha6).symm
    rw [eb]
    refine ⟨fun h4 => ⟨same0 hX, ?_⟩, fun h4 => ⟨hP.ss, ?_⟩⟩
    · unfold s_tell; rw [if_neg (fun z => z.2.1 (ite1 h4))]; exact ⟨rfl, rfl⟩
    · have hnk := ite0' h4
      rintro r6 σ5 ⟨rfl, rfl⟩
      rw [show (0 + 31 + 2 : Nat) = 33 from rfl, kn_X]
      refine ⟨fun h6 => ⟨⟨rfl, rfl, hX.2.2.2.1⟩, ?_⟩, fun h6 => ⟨same0 hX, ?_⟩⟩
      · intro σ7 hk
        refine ⟨⟨ha.1, by omega⟩, ⟨ha.1, by omega⟩, ?_⟩
        intro σ8 h8
        obtain ⟨t1, t2, t3, t4⟩ := keep_F hX hk
        have e33 : σ7 33 a.toNat = (aS (xA σ5)).2.1 a.toNat := by rw [t4 2 (by decide)]; exact (tr_in ha6).symm
        have hkr := hP.2.2.2.1.1.2.1 a.toNat
        have hb31 : (2 : Nat) ^ b.toNat < 2 ^ 6 := Nat.pow_lt_pow_right (by decide) hb6
        have hor : ((aS (xA σ5)).2.1 a.toNat).toNat ||| 2 ^ b.toNat < 2 ^ 6 := Nat.or_lt_two_pow (by omega) hb31
        have ev : iOr (σ7 (0 + 33) a.toNat) (iShl 1 b) = ((((aS (xA σ5)).2.1 a.toNat).toNat ||| 2 ^ b.toNat : Nat) : Int) := by
          rw [show (0 + 33 : Nat) = 33 from rfl, e33, shl_1 hb.1 (by omega)]
          conv => lhs; rw [e_nat hkr.1]
          exact iOr_n (by omega) (by omega)
        rw [ev] at h8
        have KX := fun (r : Int) (σ9 : Hp) => kno_x (σ7 := σ9) (r := r) hP hk ha (v := ((((aS (xA σ5)).2.1 a.toNat).toNat ||| 2 ^ b.toNat : Nat) : Int)) (by omega) h8
        rw [(KX 0 σ8).1]
        refine ⟨(KX 0 σ8).2.1, ?_⟩
        intro r10 σ9 h9
        have A := (KX r10 σ9).2.2 h9
        refine ⟨A.1, ?_⟩
        unfold s_tell
        rw [if_pos ⟨⟨⟨ha, hb⟩, hne⟩, hnk, by omega⟩]
        exact A.2
      · unfold s_tell; rw [if_neg (fun z => h6 (by have := z.2.2; omega))]; exact ⟨rfl, rfl⟩
def Gh_tell_I : List AV → Hp → Nat → Nat → List AV → List AV → Hp → Prop := fun as σ0 pc n st ls σ => (match as with
    | [.inr (.inr (.inl (k, 0, 8))), .inl a1, .inl a2] => False
    | _ => False)
def Gh_tell_ct : Nat → Ct := fun n => match n with
  | 0 => Gh_areTwo_cs
  | 1 => St_isKnown_cs
  | 2 => St_countKnows_cs
  | 3 => Hi_keep_cs
  | 4 => Fa_worryOf_cs
  | _ => Gh_tell_cs
set_option maxRecDepth 20000 in
set_option maxHeartbeats 4000000 in
theorem Gh_tell_met {l : Launch} {D : va_G} {ad : Nat → Nat} {ca : Nat → ClassId} {L : Nat} {fx : Nat → Int} : ax_MC l D ad ca L fx yX8_tell cX8_tell 3 (some .int) 4 Gh_tell_cs := by
  refine ax_met (oc := 8) (ct := Gh_tell_ct) (calls := Gh_tell_cl) (bs := Gh_tell_bk) (cut := fun pc => false) (f := 4) (I := Gh_tell_I) (by decide) rfl rfl Gh_tell_ck (List.forall_mem_cons.mpr ⟨ax_cwV Gh_areTwo_met (by decide) (by decide) rfl (by decide) rfl (ax_m4 26 (by decide +kernel) rfl) Gh_areTwo_w rfl Gh_areTwo_ds, List.forall_mem_cons.mpr ⟨ax_cwV St_isKnown_met (by decide) (by decide) rfl (by decide) rfl (ax_m4 30 (by decide +kernel) rfl) St_isKnown_w rfl St_isKnown_ds, List.forall_mem_cons.mpr ⟨ax_cwV St_countKnows_met (by decide) (by decide) rfl (by decide) rfl (ax_m4 31 (by decide +kernel) rfl) St_countKnows_w rfl St_countKnows_ds, List.forall_mem_cons.mpr ⟨ax_cwV Hi_keep_met (by decide) (by decide) rfl (by decide) rfl (ax_m3 209 (by decide +kernel) rfl) Hi_keep_w rfl Hi_keep_ds, List.forall_mem_cons.mpr ⟨ax_cwV Fa_worryOf_met (by decide) (by decide) rfl (by decide) rfl (ax_m3 192 (by decide +kernel) rfl) Fa_worryOf_w rfl Fa_worryOf_ds, fun _ h => absurd h List.not_mem_nil⟩⟩⟩⟩⟩) ?_ ?_
  · intro as σ0 hp hH
    match as, hp with
    | [.inr (.inr (.inl (k, 0, 8))), .inl a1, .inl a2], hp => exact ⟨rfl, Gh_tell_p k a1 a2 σ0 hH hp⟩
  · intro as σ0 hp n pc st ls σ hH hI
    match as, hp, hI with
    | [.inr (.inr (.inl (k, 0, 8))), .inl a1, .inl a2], hp, hI => exact False.elim hI
def Gh_forget_pre (k : Nat) (_a _b : Int) (σ : Hp) : Prop := k = 0 ∧ XP σ
def Gh_forget_post (_k : Nat) (a b : Int) (σ : Hp) (r : Int) (σ' : Hp) : Prop := XQ σ σ' ∧ s_forget (xA σ) a b r (xA σ')
def Gh_forget_bk : List (Nat × List Item) := [(0, [(.aload_n 0, 1, [], []), (.iload_n 1, 1, [], []), (.iload_n 2, 1, [], []), (.invokevirtual 150, 3, [0], []), (.ifCond .eq 15, 3, [21], []), (.aload_n 0, 1, [], []), (.getfield 47, 3, [8, 5, 4, 31, 0, 7], []), (.iload_n 1, 1, [], []), (.iload_n 2, 1, [], []), (.invokevirtual 154, 3, [1], []), (.ifCond .ne 5, 3, [23], [])]),
  (21, [(.iconst (-1), 1, [], []), (.ireturn, 1, [], [])]),
  (23, [(.aload_n 0, 1, [], []), (.getfield 26, 3, [8, 2, 4, 14, 0, 3], []), (.aload_n 0, 1, [], []), (.getfield 47, 3, [8, 5, 4, 31, 0, 7], []), (.invokevirtual 135, 3, [2], []), (.aload_n 0, 1, [], []), (.getfield 47, 3, [8, 5, 4, 31, 0, 7], []), (.getfield 116, 3, [7, 1, 4, 2, 1, 6], []), (.iload_n 1, 1, [], []), (.dup2, 1, [], []), (.iaload, 1, [], []), (.iconst 1, 1, [], []), (.iload_n 2, 1, [], []), (.ishl, 1, [], []), (.iconst (-1), 1, [], []), (.ixor, 1, [], []), (.iand, 1, [], []), (.iastore, 1, [], []), (.aload_n 0, 1, [], []), (.getfield 58, 3, [8, 8, 5, 0, 0, 1], []), (.aload_n 0, 1, [], []), (.getfield 47, 3, [8, 5, 4, 31, 0, 7], []), (.iload_n 1, 1, [], []), (.invokevirtual 112, 3, [3], []), (.ireturn, 1, [], [])])]
def Gh_forget_cl : List (Instr × Nat) := [(.invokevirtual 150, 0), (.invokevirtual 154, 1), (.invokevirtual 135, 2), (.invokevirtual 112, 3)]
set_option maxRecDepth 20000 in
theorem Gh_forget_ck : Gh_forget_bk.all (fun b => ax_chB 8 3 cX8_forget Gh_forget_cl b.1 b.2) = true := by decide +kernel
def Gh_forget_cs : Ct := (3, 9, 1, (0, 0), fun as σ => (match as with
    | [.inr (.inr (.inl (k, 0, 8))), .inl a1, .inl a2] => Gh_forget_pre k a1 a2 σ
    | _ => False), fun as σ r σ' => (match as with
    | [.inr (.inr (.inl (k, 0, 8))), .inl a1, .inl a2] => Gh_forget_post k a1 a2 σ r σ'
    | _ => False))
theorem Gh_forget_w : ∀ w ∈ ([.instanceMethod yX8_forget, .selects yX8_forget.cls yX8_forget yX8_forget, .initialized yX8_forget.cls, .code yX8_forget cX8_forget 3 (some .int)] : List Cond), w ∈ ax_tb := ax_w4 (ax_m4 42 (by decide +kernel) rfl) (ax_m4 43 (by decide +kernel) rfl) (ax_m1 1 (by decide +kernel) rfl) (ax_m4 44 (by decide +kernel) rfl)
theorem Gh_forget_ds : yX8_forget.cls ≠ "java/lang/invoke/MethodHandle" ∧ yX8_forget.cls ≠ "java/lang/invoke/VarHandle" ∧ (parseMethodDescriptor yX8_forget.desc).map (fun d => d.parameters.length) = some 2 := by decide +kernel
def Gh_forget_vc : Prop := ∀ (k : Nat) (a1 : Int) (a2 : Int) (σ : Hp), ax_H σ → Gh_forget_pre k a1 a2 σ →
  Gh_areTwo_pre k a1 a2 σ ∧
  ∀ (r2 : Int) (σ1 : Hp), Gh_areTwo_post k a1 a2 σ r2 σ1 →
  (r2 = 0 →
    Gh_forget_post k a1 a2 σ (-1) σ1) ∧
  (¬ (r2 = 0) →
    St_isKnown_pre (k + 31) a1 a2 σ1 ∧
    ∀ (r4 : Int) (σ3 : Hp), St_isKnown_post (k + 31) a1 a2 σ1 r4 σ3 →
    (¬ r4 = 0 →
      Hi_keep_pre (k + 14) (k + 31) σ3 ∧
      ∀ σ5 : Hp, Hi_keep_post (k + 14) (k + 31) σ3 σ5 →
      (0 ≤ a1 ∧ a1 < 6) ∧
      (0 ≤ a1 ∧ a1 < 6) ∧
      ∀ σ6 : Hp, σ6 = hp σ5 (k + 33) a1.toNat (iAnd (σ5 (k + 33) a1.toNat) (iXor (iShl 1 a2) (-1))) →
      Fa_worryOf_pre ((σ6 k 8).toNat) (k + 31) a1 σ6 ∧
      ∀ (r8 : Int) (σ7 : Hp), Fa_worryOf_post ((σ6 k 8).toNat) (k + 31) a1 σ6 r8 σ7 →
      Gh_forget_post k a1 a2 σ r8 σ7) ∧
    (¬ (¬ r4 = 0) →
      Gh_forget_post k a1 a2 σ (-1) σ3))
theorem Gh_forget_p : Gh_forget_vc := by
  intro k a b σ hH hp
  obtain ⟨rfl, hP⟩ := hp
  have hX := hP.1
  have hn6 := hP.n6
  have nf : fN (aF (xA σ)) = fN (famX σ (tld σ)) := rfl
  refine ⟨⟨rfl, hX⟩, ?_⟩
  rintro r2 σ1 ⟨rfl, rfl⟩
  refine ⟨fun h => ⟨same0 hX, ?_⟩, fun h => ?_⟩
  · unfold s_forget; rw [if_neg (fun z => ite0 h z.1)]; exact ⟨rfl, rfl⟩
  · have hw := ite1 h
    obtain ⟨⟨ha, hb⟩, hne⟩ := hw
    have ha6 : a.toNat < 6 := by have := ha.2; omega
    have hb6 : b.toNat < 6 := by have := hb.2; omega
    refine ⟨⟨ha.1, by omega, hb.1, by omega, hP.ss⟩, ?_⟩
    rintro r4 σ3 ⟨rfl, rfl⟩
    have eb : bt (σ3 (0 + 31 + 2) a.toNat) b.toNat = bt ((aS (xA σ3)).2.1 a.toNat) b.toNat := congrArg (fun z => bt z b.toNat) (tr_in ha6).symm
    rw [eb]
    refine ⟨fun h4 => ⟨⟨rfl, rfl, hX.2.2.2.1⟩, ?_⟩, fun h4 => ⟨same0 hX, ?_⟩⟩
    · have hnk := ite1 h4
      intro σ7 hk
      refine ⟨⟨ha.1, by omega⟩, ⟨ha.1, by omega⟩, ?_⟩
      intro σ8 h8
      obtain ⟨t1, t2, t3, t4⟩ := keep_F hX hk
      have e33 : σ7 33 a.toNat = (aS (xA σ3)).2.1 a.toNat := by rw [t4 2 (by decide)]; exact (tr_in ha6).symm
      have hkr := hP.2.2.2.1.1.2.1 a.toNat
      have hb31 : (2 : Nat) ^ b.toNat < 2 ^ 6 := Nat.pow_lt_pow_right (by decide) hb6
      have hor : ndf ((aS (xA σ3)).2.1 a.toNat).toNat (2 ^ b.toNat) < 2 ^ 6 := ndf_lt (by omega)
      have ev : iAnd (σ7 (0 + 33) a.toNat) (iXor (iShl 1 b) (-1)) = ((ndf ((aS (xA σ3)).2.1 a.toNat).toNat (2 ^ b.toNat) : Nat) : Int) := by
        rw [show (0 + 33 : Nat) = 33 from rfl, e33, shl_1 hb.1 (by omega)]
        conv => lhs; rw [e_nat hkr.1]
        exact iAndN_n (by omega) (by omega)
      rw [ev, show (0 + 33 : Nat) = 33 from rfl] at h8
      have KX := fun (r : Int) (σ9 : Hp) => kno_x (σ7 := σ9) (r := r) hP hk ha (v := ((ndf ((aS (xA σ3)).2.1 a.toNat).toNat (2 ^ b.toNat) : Nat) : Int)) (by omega) h8
      rw [(KX 0 σ8).1]
      refine ⟨(KX 0 σ8).2.1, ?_⟩
      intro r10 σ9 h9
      have A := (KX r10 σ9).2.2 h9
      refine ⟨A.1, ?_⟩
      unfold s_forget
      rw [if_pos ⟨⟨⟨ha, hb⟩, hne⟩, hnk⟩]
      exact A.2
    · unfold s_forget; rw [if_neg (fun z => ite0' h4 z.2)]; exact ⟨rfl, rfl⟩
def Gh_forget_I : List AV → Hp → Nat → Nat → List AV → List AV → Hp → Prop := fun as σ0 pc n st ls σ => (match as with
    | [.inr (.inr (.inl (k, 0, 8))), .inl a1, .inl a2] => False
    | _ => False)
def Gh_forget_ct : Nat → Ct := fun n => match n with
  | 0 => Gh_areTwo_cs
  | 1 => St_isKnown_cs
  | 2 => Hi_keep_cs
  | 3 => Fa_worryOf_cs
  | _ => Gh_forget_cs
set_option maxRecDepth 20000 in
set_option maxHeartbeats 4000000 in
theorem Gh_forget_met {l : Launch} {D : va_G} {ad : Nat → Nat} {ca : Nat → ClassId} {L : Nat} {fx : Nat → Int} : ax_MC l D ad ca L fx yX8_forget cX8_forget 3 (some .int) 4 Gh_forget_cs := by
  refine ax_met (oc := 8) (ct := Gh_forget_ct) (calls := Gh_forget_cl) (bs := Gh_forget_bk) (cut := fun pc => false) (f := 4) (I := Gh_forget_I) (by decide) rfl rfl Gh_forget_ck (List.forall_mem_cons.mpr ⟨ax_cwV Gh_areTwo_met (by decide) (by decide) rfl (by decide) rfl (ax_m4 26 (by decide +kernel) rfl) Gh_areTwo_w rfl Gh_areTwo_ds, List.forall_mem_cons.mpr ⟨ax_cwV St_isKnown_met (by decide) (by decide) rfl (by decide) rfl (ax_m4 30 (by decide +kernel) rfl) St_isKnown_w rfl St_isKnown_ds, List.forall_mem_cons.mpr ⟨ax_cwV Hi_keep_met (by decide) (by decide) rfl (by decide) rfl (ax_m3 209 (by decide +kernel) rfl) Hi_keep_w rfl Hi_keep_ds, List.forall_mem_cons.mpr ⟨ax_cwV Fa_worryOf_met (by decide) (by decide) rfl (by decide) rfl (ax_m3 192 (by decide +kernel) rfl) Fa_worryOf_w rfl Fa_worryOf_ds, fun _ h => absurd h List.not_mem_nil⟩⟩⟩⟩) ?_ ?_
  · intro as σ0 hp hH
    match as, hp with
    | [.inr (.inr (.inl (k, 0, 8))), .inl a1, .inl a2], hp => exact ⟨rfl, Gh_forget_p k a1 a2 σ0 hH hp⟩
  · intro as σ0 hp n pc st ls σ hH hI
    match as, hp, hI with
    | [.inr (.inr (.inl (k, 0, 8))), .inl a1, .inl a2], hp, hI => exact False.elim hI
def Gh_pluck_pre (k : Nat) (σ : Hp) : Prop := k = 0 ∧ XP σ
def Gh_pluck_post (_k : Nat) (σ : Hp) (r : Int) (σ' : Hp) : Prop := XQ σ σ' ∧ s_pluck (xA σ) r (xA σ')
def Gh_pluck_bk : List (Nat × List Item) := [(0, [(.aload_n 0, 1, [], []), (.getfield 47, 3, [8, 5, 4, 31, 0, 7], []), (.getfield 129, 3, [7, 2, 0, 0, 0, 0], []), (.iconst (-1), 1, [], []), (.if_icmp .ne 6, 3, [14], []), (.bipush (-2), 2, [], []), (.ireturn, 1, [], [])]),
  (14, [(.aload_n 0, 1, [], []), (.getfield 26, 3, [8, 2, 4, 14, 0, 3], []), (.aload_n 0, 1, [], []), (.getfield 47, 3, [8, 5, 4, 31, 0, 7], []), (.invokevirtual 135, 3, [0], []), (.aload_n 0, 1, [], []), (.getfield 47, 3, [8, 5, 4, 31, 0, 7], []), (.aload_n 0, 1, [], []), (.getfield 58, 3, [8, 8, 5, 0, 0, 1], []), (.aload_n 0, 1, [], []), (.getfield 47, 3, [8, 5, 4, 31, 0, 7], []), (.aload_n 0, 1, [], []), (.getfield 47, 3, [8, 5, 4, 31, 0, 7], []), (.getfield 129, 3, [7, 2, 0, 0, 0, 0], []), (.invokevirtual 161, 3, [1], []), (.putfield 129, 3, [7, 2, 0, 0, 0, 0], []), (.aload_n 0, 1, [], []), (.getfield 47, 3, [8, 5, 4, 31, 0, 7], []), (.iconst 0, 1, [], []), (.putfield 164, 3, [7, 5, 1, 0, 0, 0], []), (.aload_n 0, 1, [], []), (.getfield 47, 3, [8, 5, 4, 31, 0, 7], []), (.getfield 129, 3, [7, 2, 0, 0, 0, 0], []), (.ireturn, 1, [], [])])]
def Gh_pluck_cl : List (Instr × Nat) := [(.invokevirtual 135, 0), (.invokevirtual 161, 1)]
set_option maxRecDepth 20000 in
theorem Gh_pluck_ck : Gh_pluck_bk.all (fun b => ax_chB 8 1 cX8_pluck Gh_pluck_cl b.1 b.2) = true := by decide +kernel
def Gh_pluck_cs : Ct := (1, 9, 1, (0, 0), fun as σ => (match as with
    | [.inr (.inr (.inl (k, 0, 8)))] => Gh_pluck_pre k σ
    | _ => False), fun as σ r σ' => (match as with
    | [.inr (.inr (.inl (k, 0, 8)))] => Gh_pluck_post k σ r σ'
    | _ => False))
theorem Gh_pluck_w : ∀ w ∈ ([.instanceMethod yX8_pluck, .selects yX8_pluck.cls yX8_pluck yX8_pluck, .initialized yX8_pluck.cls, .code yX8_pluck cX8_pluck 1 (some .int)] : List Cond), w ∈ ax_tb := ax_w4 (ax_m4 46 (by decide +kernel) rfl) (ax_m4 47 (by decide +kernel) rfl) (ax_m1 1 (by decide +kernel) rfl) (ax_m4 48 (by decide +kernel) rfl)
theorem Gh_pluck_ds : yX8_pluck.cls ≠ "java/lang/invoke/MethodHandle" ∧ yX8_pluck.cls ≠ "java/lang/invoke/VarHandle" ∧ (parseMethodDescriptor yX8_pluck.desc).map (fun d => d.parameters.length) = some 0 := by decide +kernel
def Gh_pluck_vc : Prop := ∀ (k : Nat) (σ : Hp), ax_H σ → Gh_pluck_pre k σ →
  (¬ σ (k + 31) 2 = (-1) →
    Hi_keep_pre (k + 14) (k + 31) σ ∧
    ∀ σ1 : Hp, Hi_keep_post (k + 14) (k + 31) σ σ1 →
    Fa_mostWorried_pre ((σ1 k 8).toNat) (k + 31) (σ1 (k + 31) 2) σ1 ∧
    ∀ (r3 : Int) (σ2 : Hp), Fa_mostWorried_post ((σ1 k 8).toNat) (k + 31) (σ1 (k + 31) 2) σ1 r3 σ2 →
    ∀ σ4 : Hp, σ4 = hp σ2 (k + 31) 2 r3 →
    ((0 : Int) = 0 ∨ (0 : Int) = 1) ∧
    ∀ σ5 : Hp, σ5 = hp σ4 (k + 31) 5 0 →
    Gh_pluck_post k σ (σ5 (k + 31) 2) σ5) ∧
  (¬ (¬ σ (k + 31) 2 = (-1)) →
    Gh_pluck_post k σ (-2) σ)
theorem Gh_pluck_p : Gh_pluck_vc := by
  intro k σ hH hp
  obtain ⟨rfl, hP⟩ := hp
  have hX := hP.1
  refine ⟨fun h => ⟨⟨rfl, rfl, hX.2.2.2.1⟩, ?_⟩, fun h => ⟨same0 hX, ?_⟩⟩
  · intro σ1 hk
    obtain ⟨t1, t2, t3, t4⟩ := keep_F hX hk
    have es : stX σ1 31 = stX σ 31 := stX_eq t4
    have hfo := hX.1.fo
    rw [t1]
    refine ⟨⟨hfo, Or.inr (Or.inr rfl), t3, SS_eq t4 hP.ss⟩, ?_⟩
    rintro r3 σ2 ⟨g1, rfl⟩
    intro σ4 h4
    refine ⟨Or.inl rfl, ?_⟩
    intro σ5 h5
    have e31 : σ1 (0 + 31) 2 = (stX σ 31).2.2.1 := by rw [← es]; rfl
    have eg : goes (famX σ1 (tld σ)) (stX σ1 (0 + 31)) (σ1 (0 + 31) 2) = goes (aF (xA σ)) (aS (xA σ)) (aS (xA σ)).2.2.1 := by
      rw [t2, e31, show (0 + 31 : Nat) = 31 from rfl, es]; rfl
    rw [eg] at h4
    have g2 := sc_st hfo (Or.inr (Or.inr rfl)) g1
    have e2s : stX σ2 31 = stX σ 31 := (stX_eq g2).trans es
    have hs : stX σ5 31 = plk (aF (xA σ)) (aS (xA σ)) := by
      have z2 : stX σ2 31 = stX σ 31 := e2s
      unfold stX at z2 ⊢
      rw [h5, h4]
      rw [hp_ne (show (31 + 1 : Nat) ≠ 0 + 31 by decide), hp_ne (show (31 + 1 : Nat) ≠ 0 + 31 by decide), hp_ne (show (31 + 2 : Nat) ≠ 0 + 31 by decide), hp_ne (show (31 + 2 : Nat) ≠ 0 + 31 by decide)]
      injection z2 with q1 q2
      injection q2 with q2 q3
      injection q3 with q3 q4
      injection q4 with q4 q5
      injection q5 with q5 q6
      rw [q1, q2]
      refine Prod.ext rfl (Prod.ext rfl (Prod.ext ?_ (Prod.ext ?_ (Prod.ext ?_ ?_))))
      · show hp (hp σ2 31 2 (goes (aF (xA σ)) (aS (xA σ)) (aS (xA σ)).2.2.1)) 31 5 0 31 2 = _
        rw [hp_r2 (by omega), hp_r1]; rfl
      · show hp (hp σ2 31 2 (goes (aF (xA σ)) (aS (xA σ)) (aS (xA σ)).2.2.1)) 31 5 0 31 3 = _
        rw [hp_r2 (by omega), hp_r2 (by omega), q4]; rfl
      · show hp (hp σ2 31 2 (goes (aF (xA σ)) (aS (xA σ)) (aS (xA σ)).2.2.1)) 31 5 0 31 4 = _
        rw [hp_r2 (by omega), hp_r2 (by omega), q5]; rfl
      · show hp (hp σ2 31 2 (goes (aF (xA σ)) (aS (xA σ)) (aS (xA σ)).2.2.1)) 31 5 0 31 5 = _
        rw [hp_r1]; rfl
    have A := act_x (cs := 31 :: sc (tld σ)) hP hk (by
      refine Fr.tr (g1.mono (fun c hc => List.mem_cons_of_mem _ hc)) ?_
      rw [h5, h4]
      exact Fr.hp (Fr.hp Fr.rf List.mem_cons_self) List.mem_cons_self) (fun c hc => by
      rcases List.mem_cons.mp hc with z | z
      · exact Or.inr (Or.inl z)
      · exact Or.inl (scx_sc c z)) hs
    refine ⟨A.1, ?_⟩
    unfold s_pluck
    rw [if_neg (show ¬ (aS (xA σ)).2.2.1 = -1 from h)]
    refine ⟨?_, A.2⟩
    have : σ5 (0 + 31) 2 = (stX σ5 31).2.2.1 := rfl
    rw [this, hs]; rfl
  · unfold s_pluck
    rw [if_pos (show (aS (xA σ)).2.2.1 = -1 from Classical.not_not.mp h)]
    exact ⟨rfl, rfl⟩
def Gh_pluck_I : List AV → Hp → Nat → Nat → List AV → List AV → Hp → Prop := fun as σ0 pc n st ls σ => (match as with
    | [.inr (.inr (.inl (k, 0, 8)))] => False
    | _ => False)
def Gh_pluck_ct : Nat → Ct := fun n => match n with
  | 0 => Hi_keep_cs
  | 1 => Fa_mostWorried_cs
  | _ => Gh_pluck_cs
set_option maxRecDepth 20000 in
set_option maxHeartbeats 4000000 in
theorem Gh_pluck_met {l : Launch} {D : va_G} {ad : Nat → Nat} {ca : Nat → ClassId} {L : Nat} {fx : Nat → Int} : ax_MC l D ad ca L fx yX8_pluck cX8_pluck 1 (some .int) 5 Gh_pluck_cs := by
  refine ax_met (oc := 8) (ct := Gh_pluck_ct) (calls := Gh_pluck_cl) (bs := Gh_pluck_bk) (cut := fun pc => false) (f := 3) (I := Gh_pluck_I) (by decide) rfl rfl Gh_pluck_ck (List.forall_mem_cons.mpr ⟨ax_cwV Hi_keep_met (by decide) (by decide) rfl (by decide) rfl (ax_m3 209 (by decide +kernel) rfl) Hi_keep_w rfl Hi_keep_ds, List.forall_mem_cons.mpr ⟨ax_cwV Fa_mostWorried_met (by decide) (by decide) rfl (by decide) rfl (ax_m4 49 (by decide +kernel) rfl) Fa_mostWorried_w rfl Fa_mostWorried_ds, fun _ h => absurd h List.not_mem_nil⟩⟩) ?_ ?_
  · intro as σ0 hp hH
    match as, hp with
    | [.inr (.inr (.inl (k, 0, 8)))], hp => exact ⟨rfl, Gh_pluck_p k σ0 hH hp⟩
  · intro as σ0 hp n pc st ls σ hH hI
    match as, hp, hI with
    | [.inr (.inr (.inl (k, 0, 8)))], hp, hI => exact False.elim hI
def Gh_dye_pre (k : Nat) (σ : Hp) : Prop := k = 0 ∧ XP σ
def Gh_dye_post (_k : Nat) (σ : Hp) (r : Int) (σ' : Hp) : Prop := XQ σ σ' ∧ s_dye (xA σ) r (xA σ')
def Gh_dye_bk : List (Nat × List Item) := [(0, [(.aload_n 0, 1, [], []), (.getfield 47, 3, [8, 5, 4, 31, 0, 7], []), (.getfield 164, 3, [7, 5, 1, 0, 0, 0], []), (.ifCond .ne 14, 3, [21], []), (.aload_n 0, 1, [], []), (.getfield 47, 3, [8, 5, 4, 31, 0, 7], []), (.getfield 129, 3, [7, 2, 0, 0, 0, 0], []), (.iconst (-1), 1, [], []), (.if_icmp .ne 5, 3, [23], [])]),
  (21, [(.iconst (-1), 1, [], []), (.ireturn, 1, [], [])]),
  (23, [(.aload_n 0, 1, [], []), (.getfield 26, 3, [8, 2, 4, 14, 0, 3], []), (.aload_n 0, 1, [], []), (.getfield 47, 3, [8, 5, 4, 31, 0, 7], []), (.invokevirtual 135, 3, [0], []), (.aload_n 0, 1, [], []), (.getfield 47, 3, [8, 5, 4, 31, 0, 7], []), (.iconst 1, 1, [], []), (.putfield 164, 3, [7, 5, 1, 0, 0, 0], []), (.aload_n 0, 1, [], []), (.getfield 47, 3, [8, 5, 4, 31, 0, 7], []), (.getfield 129, 3, [7, 2, 0, 0, 0, 0], []), (.ireturn, 1, [], [])])]
def Gh_dye_cl : List (Instr × Nat) := [(.invokevirtual 135, 0)]
set_option maxRecDepth 20000 in
theorem Gh_dye_ck : Gh_dye_bk.all (fun b => ax_chB 8 1 cX8_dye Gh_dye_cl b.1 b.2) = true := by decide +kernel
def Gh_dye_cs : Ct := (1, 9, 1, (0, 0), fun as σ => (match as with
    | [.inr (.inr (.inl (k, 0, 8)))] => Gh_dye_pre k σ
    | _ => False), fun as σ r σ' => (match as with
    | [.inr (.inr (.inl (k, 0, 8)))] => Gh_dye_post k σ r σ'
    | _ => False))
theorem Gh_dye_w : ∀ w ∈ ([.instanceMethod yX8_dye, .selects yX8_dye.cls yX8_dye yX8_dye, .initialized yX8_dye.cls, .code yX8_dye cX8_dye 1 (some .int)] : List Cond), w ∈ ax_tb := ax_w4 (ax_m4 51 (by decide +kernel) rfl) (ax_m4 52 (by decide +kernel) rfl) (ax_m1 1 (by decide +kernel) rfl) (ax_m4 53 (by decide +kernel) rfl)
theorem Gh_dye_ds : yX8_dye.cls ≠ "java/lang/invoke/MethodHandle" ∧ yX8_dye.cls ≠ "java/lang/invoke/VarHandle" ∧ (parseMethodDescriptor yX8_dye.desc).map (fun d => d.parameters.length) = some 0 := by decide +kernel
def Gh_dye_vc : Prop := ∀ (k : Nat) (σ : Hp), ax_H σ → Gh_dye_pre k σ →
  (¬ σ (k + 31) 5 = 0 →
    Gh_dye_post k σ (-1) σ) ∧
  (¬ (¬ σ (k + 31) 5 = 0) →
    (¬ σ (k + 31) 2 = (-1) →
      Hi_keep_pre (k + 14) (k + 31) σ ∧
      ∀ σ1 : Hp, Hi_keep_post (k + 14) (k + 31) σ σ1 →
      ((1 : Int) = 0 ∨ (1 : Int) = 1) ∧
      ∀ σ2 : Hp, σ2 = hp σ1 (k + 31) 5 1 →
      Gh_dye_post k σ (σ2 (k + 31) 2) σ2) ∧
    (¬ (¬ σ (k + 31) 2 = (-1)) →
      Gh_dye_post k σ (-1) σ))
theorem Gh_dye_p : Gh_dye_vc := by
  intro k σ hH hp
  obtain ⟨rfl, hP⟩ := hp
  have hX := hP.1
  refine ⟨fun h => ⟨same0 hX, ?_⟩, fun h => ⟨fun h2 => ⟨⟨rfl, rfl, hX.2.2.2.1⟩, ?_⟩, fun h2 => ⟨same0 hX, ?_⟩⟩⟩
  · unfold s_dye
    rw [if_pos (Or.inl (show ¬ (aS (xA σ)).2.2.2.2.2 = 0 from h))]
    exact ⟨rfl, rfl⟩
  · intro σ1 hk
    refine ⟨Or.inr rfl, ?_⟩
    intro σ2 h3
    obtain ⟨t1, t2, t3, t4⟩ := keep_F hX hk
    have es : stX σ1 31 = stX σ 31 := stX_eq t4
    have hs : stX σ2 31 = dyd (aS (xA σ)) := by
      have z2 : stX σ1 31 = stX σ 31 := es
      unfold stX at z2 ⊢
      rw [h3]
      rw [hp_ne (show (31 + 1 : Nat) ≠ 0 + 31 by decide), hp_ne (show (31 + 2 : Nat) ≠ 0 + 31 by decide)]
      injection z2 with q1 q2
      injection q2 with q2 q3
      injection q3 with q3 q4
      injection q4 with q4 q5
      injection q5 with q5 q6
      rw [q1, q2]
      refine Prod.ext rfl (Prod.ext rfl (Prod.ext ?_ (Prod.ext ?_ (Prod.ext ?_ ?_))))
      · show hp σ1 31 5 1 31 2 = _
        rw [hp_r2 (by omega), q3]; rfl
      · show hp σ1 31 5 1 31 3 = _
        rw [hp_r2 (by omega), q4]; rfl
      · show hp σ1 31 5 1 31 4 = _
        rw [hp_r2 (by omega), q5]; rfl
      · show hp σ1 31 5 1 31 5 = _
        rw [hp_r1]; rfl
    have A := act_x (cs := [31]) hP hk (by rw [h3]; exact Fr.hp Fr.rf List.mem_cons_self) (fun c hc => Or.inr (Or.inl (List.mem_singleton.mp hc))) hs
    refine ⟨A.1, ?_⟩
    unfold s_dye
    rw [if_neg (fun z => z.elim h h2)]
    refine ⟨?_, A.2⟩
    have : σ2 (0 + 31) 2 = (stX σ2 31).2.2.1 := rfl
    rw [this, hs]; rfl
  · unfold s_dye
    rw [if_pos (Or.inr (show (aS (xA σ)).2.2.1 = -1 from Classical.not_not.mp h2))]
    exact ⟨rfl, rfl⟩
def Gh_dye_I : List AV → Hp → Nat → Nat → List AV → List AV → Hp → Prop := fun as σ0 pc n st ls σ => (match as with
    | [.inr (.inr (.inl (k, 0, 8)))] => False
    | _ => False)
def Gh_dye_ct : Nat → Ct := fun n => match n with
  | 0 => Hi_keep_cs
  | _ => Gh_dye_cs
set_option maxRecDepth 20000 in
set_option maxHeartbeats 4000000 in
theorem Gh_dye_met {l : Launch} {D : va_G} {ad : Nat → Nat} {ca : Nat → ClassId} {L : Nat} {fx : Nat → Int} : ax_MC l D ad ca L fx yX8_dye cX8_dye 1 (some .int) 3 Gh_dye_cs := by
  refine ax_met (oc := 8) (ct := Gh_dye_ct) (calls := Gh_dye_cl) (bs := Gh_dye_bk) (cut := fun pc => false) (f := 4) (I := Gh_dye_I) (by decide) rfl rfl Gh_dye_ck (List.forall_mem_cons.mpr ⟨ax_cwV Hi_keep_met (by decide) (by decide) rfl (by decide) rfl (ax_m3 209 (by decide +kernel) rfl) Hi_keep_w rfl Hi_keep_ds, fun _ h => absurd h List.not_mem_nil⟩) ?_ ?_
  · intro as σ0 hp hH
    match as, hp with
    | [.inr (.inr (.inl (k, 0, 8)))], hp => exact ⟨rfl, Gh_dye_p k σ0 hH hp⟩
  · intro as σ0 hp n pc st ls σ hH hI
    match as, hp, hI with
    | [.inr (.inr (.inl (k, 0, 8)))], hp, hI => exact False.elim hI
