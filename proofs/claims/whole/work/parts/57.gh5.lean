-- THE CLASS: boxes, the text, the family
def Gh_image_pre (k : Nat) (_a : Int) (σ : Hp) : Prop := k = 0 ∧ XP σ
def Gh_image_post (_k : Nat) (a : Int) (σ : Hp) (r : Int) (σ' : Hp) : Prop := XQ σ σ' ∧ s_image (xA σ) a r (xA σ')
def Gh_image_bk : List (Nat × List Item) := [(0, [(.aload_n 0, 1, [], []), (.getfield 33, 3, [8, 3, 4, 16, 0, 0], []), (.aload_n 0, 1, [], []), (.getfield 47, 3, [8, 5, 4, 31, 0, 7], []), (.iload_n 1, 1, [], []), (.invokevirtual 265, 3, [0], []), (.ifCond .eq 13, 3, [25], []), (.aload_n 0, 1, [], []), (.getfield 47, 3, [8, 5, 4, 31, 0, 7], []), (.getfield 132, 3, [7, 3, 0, 0, 0, 0], []), (.goto 4, 3, [26], [])]),
  (25, [(.iconst (-1), 1, [], [])]),
  (26, [(.ireturn, 1, [], [])])]
def Gh_image_cl : List (Instr × Nat) := [(.invokevirtual 265, 0)]
set_option maxRecDepth 20000 in
theorem Gh_image_ck : Gh_image_bk.all (fun b => ax_chB 8 2 cX8_image Gh_image_cl b.1 b.2) = true := by decide +kernel
def Gh_image_cs : Ct := (2, 9, 1, (0, 0), fun as σ => (match as with
    | [.inr (.inr (.inl (k, 0, 8))), .inl a1] => Gh_image_pre k a1 σ
    | _ => False), fun as σ r σ' => (match as with
    | [.inr (.inr (.inl (k, 0, 8))), .inl a1] => Gh_image_post k a1 σ r σ'
    | _ => False))
theorem Gh_image_w : ∀ w ∈ ([.instanceMethod yX8_image, .selects yX8_image.cls yX8_image yX8_image, .initialized yX8_image.cls, .code yX8_image cX8_image 2 (some .int)] : List Cond), w ∈ ax_tb := ax_w4 (ax_m5 123 (by decide +kernel) rfl) (ax_m5 124 (by decide +kernel) rfl) (ax_m1 1 (by decide +kernel) rfl) (ax_m5 125 (by decide +kernel) rfl)
theorem Gh_image_ds : yX8_image.cls ≠ "java/lang/invoke/MethodHandle" ∧ yX8_image.cls ≠ "java/lang/invoke/VarHandle" ∧ (parseMethodDescriptor yX8_image.desc).map (fun d => d.parameters.length) = some 1 := by decide +kernel
def Gh_image_vc : Prop := ∀ (k : Nat) (a1 : Int) (σ : Hp), ax_H σ → Gh_image_pre k a1 σ →
  Bx_store_pre (k + 16) (k + 31) a1 σ ∧
  ∀ (r2 : Int) (σ1 : Hp), Bx_store_post (k + 16) (k + 31) a1 σ r2 σ1 →
  (r2 = 0 →
    Gh_image_post k a1 σ (-1) σ1) ∧
  (¬ (r2 = 0) →
    Gh_image_post k a1 σ (σ1 (k + 31) 3) σ1)
theorem Gh_image_p : Gh_image_vc := by
  intro k a σ hH hp
  obtain ⟨rfl, hP⟩ := hp
  have hX := hP.1
  refine ⟨⟨rfl, rfl⟩, ?_⟩
  intro r2 σ1 h
  unfold Bx_store_post at h
  by_cases z : 0 ≤ a ∧ a < 3
  · rw [if_pos z] at h
    obtain ⟨rfl, g1, g2, g3, g4⟩ := h
    refine ⟨fun y => (by cases y), fun _ => ?_⟩
    have hfo := hX.1.fo
    have e : ∀ c, (c < 17 ∨ 19 ≤ c) → σ1 c = σ c := fun c hc => g1 c (by simp; omega)
    have hK : FK (tld σ) σ σ1 := FK_of hfo g1 (fun c z => by simp at z; omega)
    have eh : hst σ1 = hst σ := by funext i; unfold hst; rw [e 14 (by omega), e 15 (by omega)]
    have es : stX σ1 31 = stX σ 31 := stX_eq (fun d hd => e _ (by omega))
    have G := xA_gen hX (by rw [e 0 (by omega)]) (by rw [e 0 (by omega)]) (e 1 (by omega)) (e 2 (by omega)) hK (by unfold HO; rw [e 14 (by omega)]; exact hX.2.2.2.1) (by rw [e 19 (by omega)]; exact hX.2.2.2.2.1) (by rw [e 19 (by omega)]) (e 28 (by omega)) (by rw [e 0 (by omega)]; exact hX.2.2.2.2.2.2.1) (by rw [e 14 (by omega), eh, es]; exact hX.2.2.2.2.2.2.2) (fun c hcc => e c (by omega))
    refine ⟨G.1, ?_⟩
    unfold s_image
    rw [if_pos z]
    refine ⟨by rw [e (0 + 31) (by omega)]; rfl, ?_⟩
    have eG : sgX σ1 = sgX σ := sgX_eq (by rw [e 19 (by omega)]) (fun c c1 c2 => e c (by omega))
    have eL : hstL σ1 = hstL σ := by unfold hstL; rw [eh, e 14 (by omega)]
    have eX : bxX σ1 = fun i => if i = a.toNat then some (aS (xA σ)) else aX (xA σ) i := by
      funext i
      unfold bxX
      by_cases y : i = a.toNat
      · rw [if_pos y, y, if_pos ⟨by omega, by rw [g3]; decide⟩, g2]; rfl
      · rw [if_neg y]
        show _ = bxX σ i
        unfold bxX
        by_cases w : i < 3
        · obtain ⟨w1, w2⟩ := g4 i w y
          rw [w1, w2]
        · rw [if_neg (fun q => w q.1), if_neg (fun q => w q.1)]
    rw [G.2, eX, eG, e 0 (by omega), e 34 (by omega), es, eL]
    rfl
  · rw [if_neg z] at h
    obtain ⟨rfl, rfl⟩ := h
    refine ⟨fun _ => ⟨same0 hX, ?_⟩, fun y => absurd rfl y⟩
    unfold s_image
    rw [if_neg z]; exact ⟨rfl, rfl⟩
def Gh_image_I : List AV → Hp → Nat → Nat → List AV → List AV → Hp → Prop := fun as σ0 pc n st ls σ => (match as with
    | [.inr (.inr (.inl (k, 0, 8))), .inl a1] => False
    | _ => False)
def Gh_image_ct : Nat → Ct := fun n => match n with
  | 0 => Bx_store_cs
  | _ => Gh_image_cs
set_option maxRecDepth 20000 in
set_option maxHeartbeats 4000000 in
theorem Gh_image_met {l : Launch} {D : va_G} {ad : Nat → Nat} {ca : Nat → ClassId} {L : Nat} {fx : Nat → Int} : ax_MC l D ad ca L fx yX8_image cX8_image 2 (some .int) 3 Gh_image_cs := by
  refine ax_met (oc := 8) (ct := Gh_image_ct) (calls := Gh_image_cl) (bs := Gh_image_bk) (cut := fun pc => false) (f := 4) (I := Gh_image_I) (by decide) rfl rfl Gh_image_ck (List.forall_mem_cons.mpr ⟨ax_cwV Bx_store_met (by decide) (by decide) rfl (by decide) rfl (ax_m5 126 (by decide +kernel) rfl) Bx_store_w rfl Bx_store_ds, fun _ h => absurd h List.not_mem_nil⟩) ?_ ?_
  · intro as σ0 hp hH
    match as, hp with
    | [.inr (.inr (.inl (k, 0, 8))), .inl a1], hp => exact ⟨rfl, Gh_image_p k a1 σ0 hH hp⟩
  · intro as σ0 hp n pc st ls σ hH hI
    match as, hp, hI with
    | [.inr (.inr (.inl (k, 0, 8))), .inl a1], hp, hI => exact False.elim hI
def Gh_back_pre (k : Nat) (_a : Int) (σ : Hp) : Prop := k = 0 ∧ XP σ
def Gh_back_post (_k : Nat) (a : Int) (σ : Hp) (r : Int) (σ' : Hp) : Prop := XQ σ σ' ∧ s_back (xA σ) a r (xA σ')
def Gh_back_bk : List (Nat × List Item) := [(0, [(.aload_n 0, 1, [], []), (.getfield 33, 3, [8, 3, 4, 16, 0, 0], []), (.aload_n 0, 1, [], []), (.getfield 47, 3, [8, 5, 4, 31, 0, 7], []), (.iload_n 1, 1, [], []), (.invokevirtual 269, 3, [0], []), (.ifCond .ne 5, 3, [17], []), (.iconst (-1), 1, [], []), (.ireturn, 1, [], [])]),
  (17, [(.aload_n 0, 1, [], []), (.getfield 26, 3, [8, 2, 4, 14, 0, 3], []), (.invokevirtual 85, 3, [1], []), (.aload_n 0, 1, [], []), (.getfield 47, 3, [8, 5, 4, 31, 0, 7], []), (.getfield 132, 3, [7, 3, 0, 0, 0, 0], []), (.ireturn, 1, [], [])])]
def Gh_back_cl : List (Instr × Nat) := [(.invokevirtual 269, 0), (.invokevirtual 85, 1)]
set_option maxRecDepth 20000 in
theorem Gh_back_ck : Gh_back_bk.all (fun b => ax_chB 8 2 cX8_back Gh_back_cl b.1 b.2) = true := by decide +kernel
def Gh_back_cs : Ct := (2, 9, 1, (0, 0), fun as σ => (match as with
    | [.inr (.inr (.inl (k, 0, 8))), .inl a1] => Gh_back_pre k a1 σ
    | _ => False), fun as σ r σ' => (match as with
    | [.inr (.inr (.inl (k, 0, 8))), .inl a1] => Gh_back_post k a1 σ r σ'
    | _ => False))
theorem Gh_back_w : ∀ w ∈ ([.instanceMethod yX8_back, .selects yX8_back.cls yX8_back yX8_back, .initialized yX8_back.cls, .code yX8_back cX8_back 2 (some .int)] : List Cond), w ∈ ax_tb := ax_w4 (ax_m5 132 (by decide +kernel) rfl) (ax_m5 133 (by decide +kernel) rfl) (ax_m1 1 (by decide +kernel) rfl) (ax_m5 134 (by decide +kernel) rfl)
theorem Gh_back_ds : yX8_back.cls ≠ "java/lang/invoke/MethodHandle" ∧ yX8_back.cls ≠ "java/lang/invoke/VarHandle" ∧ (parseMethodDescriptor yX8_back.desc).map (fun d => d.parameters.length) = some 1 := by decide +kernel
def Gh_back_vc : Prop := ∀ (k : Nat) (a1 : Int) (σ : Hp), ax_H σ → Gh_back_pre k a1 σ →
  Bx_load_pre (k + 16) (k + 31) a1 σ ∧
  ∀ (r2 : Int) (σ1 : Hp), Bx_load_post (k + 16) (k + 31) a1 σ r2 σ1 →
  (¬ r2 = 0 →
    Hi_clear_pre (k + 14) σ1 ∧
    ∀ σ3 : Hp, Hi_clear_post (k + 14) σ1 σ3 →
    Gh_back_post k a1 σ (σ3 (k + 31) 3) σ3) ∧
  (¬ (¬ r2 = 0) →
    Gh_back_post k a1 σ (-1) σ1)
theorem Gh_back_p : Gh_back_vc := by
  intro k a σ hH hp
  obtain ⟨rfl, hP⟩ := hp
  have hX := hP.1
  have inX : 0 ≤ a → a < 3 → ¬ σ 18 a.toNat = 0 → aX (xA σ) a.toNat = some (rowS (σ 17) (16 * a.toNat)) := fun h1 h2 h3 => if_pos ⟨by omega, h3⟩
  refine ⟨⟨rfl, rfl, fun h1 h2 h3 => (hP.2.2.2.2.2.2.1 _ _ (inX h1 h2 h3)).2.2.2⟩, ?_⟩
  intro r2 σ1 h
  unfold Bx_load_post at h
  by_cases z : 0 ≤ a ∧ a < 3 ∧ ¬ σ 18 a.toNat = 0
  · rw [if_pos z] at h
    obtain ⟨rfl, g1, g2⟩ := h
    refine ⟨fun _ => ⟨⟨rfl, by unfold HO; rw [g1 14 (by decide)]; exact hX.2.2.2.1⟩, ?_⟩, fun y => absurd (by decide) y⟩
    rintro σ3 ⟨k1, k2, k3, k4⟩
    have f3 : Fr [14, 15, 31, 32, 33] σ σ3 := (g1.mono (by simp)).tr (k1.mono (by simp))
    have S := step_x hP f3 k2 (fun y => by omega)
    have es : stX σ3 31 = rowS (σ 17) (16 * a.toNat) := by
      rw [← g2]; exact stX_eq (fun d hd => k1 _ (by simp; omega))
    refine ⟨S.1, ?_⟩
    unfold s_back
    rw [if_pos ⟨z.1, z.2.1⟩, inX z.1 z.2.1 z.2.2]
    refine ⟨?_, ?_⟩
    · have : σ3 (0 + 31) 3 = (stX σ3 31).2.2.2.1 := rfl
      rw [this, es]
    · rw [S.2, es]
      unfold hstL
      rw [k3, k4]
      rfl
  · rw [if_neg z] at h
    obtain ⟨rfl, rfl⟩ := h
    refine ⟨fun y => absurd rfl y, fun _ => ⟨same0 hX, ?_⟩⟩
    have : (if 0 ≤ a ∧ a < 3 then aX (xA σ1) a.toNat else none) = none := by
      by_cases y : 0 ≤ a ∧ a < 3
      · rw [if_pos y]
        exact if_neg (fun w => z ⟨y.1, y.2, w.2⟩)
      · rw [if_neg y]
    unfold s_back
    rw [this]; exact ⟨rfl, rfl⟩
def Gh_back_I : List AV → Hp → Nat → Nat → List AV → List AV → Hp → Prop := fun as σ0 pc n st ls σ => (match as with
    | [.inr (.inr (.inl (k, 0, 8))), .inl a1] => False
    | _ => False)
def Gh_back_ct : Nat → Ct := fun n => match n with
  | 0 => Bx_load_cs
  | 1 => Hi_clear_cs
  | _ => Gh_back_cs
set_option maxRecDepth 20000 in
set_option maxHeartbeats 4000000 in
theorem Gh_back_met {l : Launch} {D : va_G} {ad : Nat → Nat} {ca : Nat → ClassId} {L : Nat} {fx : Nat → Int} : ax_MC l D ad ca L fx yX8_back cX8_back 2 (some .int) 3 Gh_back_cs := by
  refine ax_met (oc := 8) (ct := Gh_back_ct) (calls := Gh_back_cl) (bs := Gh_back_bk) (cut := fun pc => false) (f := 3) (I := Gh_back_I) (by decide) rfl rfl Gh_back_ck (List.forall_mem_cons.mpr ⟨ax_cwV Bx_load_met (by decide) (by decide) rfl (by decide) rfl (ax_m5 135 (by decide +kernel) rfl) Bx_load_w rfl Bx_load_ds, List.forall_mem_cons.mpr ⟨ax_cwV Hi_clear_met (by decide) (by decide) rfl (by decide) rfl (ax_m3 168 (by decide +kernel) rfl) Hi_clear_w rfl Hi_clear_ds, fun _ h => absurd h List.not_mem_nil⟩⟩) ?_ ?_
  · intro as σ0 hp hH
    match as, hp with
    | [.inr (.inr (.inl (k, 0, 8))), .inl a1], hp => exact ⟨rfl, Gh_back_p k a1 σ0 hH hp⟩
  · intro as σ0 hp n pc st ls σ hH hI
    match as, hp, hI with
    | [.inr (.inr (.inl (k, 0, 8))), .inl a1], hp, hI => exact False.elim hI
-- the text
theorem iByte_rg (a : Int) : -128 ≤ iByte a ∧ iByte a ≤ 127 := by
  unfold iByte
  rw [Int8.toInt_toInt32]
  have h1 := (Int32.ofInt a).toInt8.le_toInt
  have h2 := (Int32.ofInt a).toInt8.toInt_lt
  omega
theorem iByte_sm : ∀ n : Nat, n < 256 → iByte ((n : Int) - 128) = (n : Int) - 128 := by decide +kernel
theorem iByte_id {v : Int} (h : -128 ≤ v ∧ v ≤ 127) : iByte v = v := by
  have := iByte_sm (v + 128).toNat (by omega)
  rw [show (((v + 128).toNat : Nat) : Int) - 128 = v by omega] at this
  exact this
theorem iByte2 (a : Int) : iByte (iByte a) = iByte a := iByte_id (iByte_rg a)
def Rd_hasRoom_pre (k : Nat) (_σ : Hp) : Prop := k = 1
def Rd_hasRoom_post (_k : Nat) (σ : Hp) (r : Int) (σ' : Hp) : Prop := σ' = σ ∧ r = if 1580 < σ 1 1 then 0 else 1
def Rd_hasRoom_bk : List (Nat × List Item) := [(0, [(.aload_n 0, 1, [], []), (.getfield 19, 3, [5, 1, 0, 0, 0, 0], []), (.sipush 1580, 3, [], []), (.if_icmp .gt 7, 3, [14], []), (.iconst 1, 1, [], []), (.goto 4, 3, [15], [])]),
  (14, [(.iconst 0, 1, [], [])]),
  (15, [(.ireturn, 1, [], [])])]
def Rd_hasRoom_cl : List (Instr × Nat) := []
set_option maxRecDepth 20000 in
theorem Rd_hasRoom_ck : Rd_hasRoom_bk.all (fun b => ax_chB 5 1 cX5_hasRoom Rd_hasRoom_cl b.1 b.2) = true := by decide +kernel
def Rd_hasRoom_cs : Ct := (1, 6, 2, (0, 0), fun as σ => (match as with
    | [.inr (.inr (.inl (k, 0, 5)))] => Rd_hasRoom_pre k σ
    | _ => False), fun as σ r σ' => (match as with
    | [.inr (.inr (.inl (k, 0, 5)))] => Rd_hasRoom_post k σ r σ'
    | _ => False))
theorem Rd_hasRoom_w : ∀ w ∈ ([.instanceMethod yX5_hasRoom, .selects yX5_hasRoom.cls yX5_hasRoom yX5_hasRoom, .initialized yX5_hasRoom.cls, .code yX5_hasRoom cX5_hasRoom 1 (some .boolean)] : List Cond), w ∈ ax_tb := ax_w4 (ax_m2 139 (by decide +kernel) rfl) (ax_m2 140 (by decide +kernel) rfl) (ax_m1 2 (by decide +kernel) rfl) (ax_m2 141 (by decide +kernel) rfl)
theorem Rd_hasRoom_ds : yX5_hasRoom.cls ≠ "java/lang/invoke/MethodHandle" ∧ yX5_hasRoom.cls ≠ "java/lang/invoke/VarHandle" ∧ (parseMethodDescriptor yX5_hasRoom.desc).map (fun d => d.parameters.length) = some 0 := by decide +kernel
def Rd_hasRoom_vc : Prop := ∀ (k : Nat) (σ : Hp), ax_H σ → Rd_hasRoom_pre k σ →
  (1580 < σ k 1 →
    ((0 : Int) = 0 ∨ (0 : Int) = 1) ∧ Rd_hasRoom_post k σ 0 σ) ∧
  (¬ (1580 < σ k 1) →
    ((1 : Int) = 0 ∨ (1 : Int) = 1) ∧ Rd_hasRoom_post k σ 1 σ)
theorem Rd_hasRoom_p : Rd_hasRoom_vc := by
  intro k σ hH hp
  obtain rfl : k = 1 := hp
  exact ⟨fun h => ⟨Or.inl rfl, rfl, by rw [if_pos h]⟩, fun h => ⟨Or.inr rfl, rfl, by rw [if_neg h]⟩⟩
def Rd_hasRoom_I : List AV → Hp → Nat → Nat → List AV → List AV → Hp → Prop := fun as σ0 pc n st ls σ => (match as with
    | [.inr (.inr (.inl (k, 0, 5)))] => False
    | _ => False)
def Rd_hasRoom_ct : Nat → Ct := fun n => match n with
  | _ => Rd_hasRoom_cs
set_option maxRecDepth 20000 in
set_option maxHeartbeats 4000000 in
theorem Rd_hasRoom_met {l : Launch} {D : va_G} {ad : Nat → Nat} {ca : Nat → ClassId} {L : Nat} {fx : Nat → Int} : ax_MC l D ad ca L fx yX5_hasRoom cX5_hasRoom 1 (some .boolean) 1 Rd_hasRoom_cs := by
  refine ax_met (oc := 5) (ct := Rd_hasRoom_ct) (calls := Rd_hasRoom_cl) (bs := Rd_hasRoom_bk) (cut := fun pc => false) (f := 4) (I := Rd_hasRoom_I) (by decide) rfl rfl Rd_hasRoom_ck (fun _ h => absurd h List.not_mem_nil) ?_ ?_
  · intro as σ0 hp hH
    match as, hp with
    | [.inr (.inr (.inl (k, 0, 5)))], hp => exact ⟨rfl, Rd_hasRoom_p k σ0 hH hp⟩
  · intro as σ0 hp n pc st ls σ hH hI
    match as, hp, hI with
    | [.inr (.inr (.inl (k, 0, 5)))], hp, hI => exact False.elim hI
def Rd_put_pre (k : Nat) (_a : Int) (σ : Hp) : Prop := k = 1 ∧ 0 ≤ σ 1 1 ∧ σ 1 1 + 4 ≤ 1600
def Rd_put_post (_k : Nat) (a : Int) (σ σ' : Hp) : Prop := Fr [1, 2] σ σ' ∧ σ' 1 1 = σ 1 1 + 4 ∧ (∀ j, ¬ j = 1 → σ' 1 j = σ 1 j) ∧ ∀ j : Nat, (j : Int) < σ 1 1 + 4 → σ' 2 j = if (j : Int) < σ 1 1 then σ 2 j else iByte (iShr a (24 - 8 * ((j : Int) - σ 1 1)))
def Rd_put_I3 (_k : Nat) (a : Int) (σ0 : Hp) (n : Nat) (v2 : Int) (σ : Hp) : Prop := ∃ i : Nat, i ≤ 4 ∧ v2 = 24 - 8 * (i : Int) ∧ n = 4 - i ∧ Fr [1, 2] σ0 σ ∧ σ 1 1 = σ0 1 1 + i ∧ (∀ j, ¬ j = 1 → σ 1 j = σ0 1 j) ∧ ∀ j : Nat, (j : Int) < σ0 1 1 + i → σ 2 j = if (j : Int) < σ0 1 1 then σ0 2 j else iByte (iShr a (24 - 8 * ((j : Int) - σ0 1 1)))
def Rd_put_bk : List (Nat × List Item) := [(0, [(.bipush 24, 2, [], []), (.istore_n 2, 1, [], [])]),
  (3, [(.iload_n 2, 1, [], []), (.ifCond .lt 49, 3, [53], []), (.aload_n 0, 1, [], []), (.getfield 19, 3, [5, 1, 0, 0, 0, 0], []), (.ifCond .lt 36, 3, [47], []), (.aload_n 0, 1, [], []), (.getfield 19, 3, [5, 1, 0, 0, 0, 0], []), (.sipush 1600, 3, [], []), (.if_icmp .ge 26, 3, [47], []), (.aload_n 0, 1, [], []), (.getfield 11, 3, [5, 0, 4, 1, 2, 1600], []), (.aload_n 0, 1, [], []), (.getfield 19, 3, [5, 1, 0, 0, 0, 0], []), (.iload_n 1, 1, [], []), (.iload_n 2, 1, [], []), (.ishr, 1, [], []), (.i2b, 1, [], []), (.bastore, 1, [], []), (.aload_n 0, 1, [], []), (.dup, 1, [], []), (.getfield 19, 3, [5, 1, 0, 0, 0, 0], []), (.iconst 1, 1, [], []), (.iadd, 1, [], []), (.putfield 19, 3, [5, 1, 0, 0, 0, 0], [])]),
  (47, [(.iinc 2 (-8), 3, [], []), (.goto (-47), 3, [3], [])]),
  (53, [(.return_, 1, [], [])])]
def Rd_put_cl : List (Instr × Nat) := []
set_option maxRecDepth 20000 in
theorem Rd_put_ck : Rd_put_bk.all (fun b => ax_chB 5 3 cX5_put Rd_put_cl b.1 b.2) = true := by decide +kernel
def Rd_put_cs : Ct := (2, 6, 0, (0, 0), fun as σ => (match as with
    | [.inr (.inr (.inl (k, 0, 5))), .inl a1] => Rd_put_pre k a1 σ
    | _ => False), fun as σ r σ' => (match as with
    | [.inr (.inr (.inl (k, 0, 5))), .inl a1] => Rd_put_post k a1 σ σ'
    | _ => False))
theorem Rd_put_w : ∀ w ∈ ([.instanceMethod yX5_put, .selects yX5_put.cls yX5_put yX5_put, .initialized yX5_put.cls, .code yX5_put cX5_put 3 none] : List Cond), w ∈ ax_tb := ax_w4 (ax_m2 143 (by decide +kernel) rfl) (ax_m2 144 (by decide +kernel) rfl) (ax_m1 2 (by decide +kernel) rfl) (ax_m2 145 (by decide +kernel) rfl)
theorem Rd_put_ds : yX5_put.cls ≠ "java/lang/invoke/MethodHandle" ∧ yX5_put.cls ≠ "java/lang/invoke/VarHandle" ∧ (parseMethodDescriptor yX5_put.desc).map (fun d => d.parameters.length) = some 1 := by decide +kernel
def Rd_put_vc : Prop := ∀ (k : Nat) (a1 : Int) (σ : Hp), ax_H σ → Rd_put_pre k a1 σ →
  ∃ n' : Nat, k = k ∧ a1 = a1 ∧ Rd_put_I3 k a1 σ n' 24 σ
def Rd_put_vc3 : Prop := ∀ (k : Nat) (a1 : Int) (σ0 : Hp), Rd_put_pre k a1 σ0 → ∀ (n : Nat) (v2 : Int) (σ : Hp), ax_H σ → Rd_put_I3 k a1 σ0 n v2 σ →
  (v2 < 0 →
    Rd_put_post k a1 σ0 σ) ∧
  (¬ (v2 < 0) →
    (σ k 1 < 0 →
      ∃ n' : Nat, n' < n ∧ k = k ∧ a1 = a1 ∧ Rd_put_I3 k a1 σ0 n' (wr (v2 + (-8))) σ) ∧
    (¬ (σ k 1 < 0) →
      (1600 ≤ σ k 1 →
        ∃ n' : Nat, n' < n ∧ k = k ∧ a1 = a1 ∧ Rd_put_I3 k a1 σ0 n' (wr (v2 + (-8))) σ) ∧
      (¬ (1600 ≤ σ k 1) →
        (0 ≤ σ k 1 ∧ σ k 1 < 1600) ∧
        ∀ σ1 : Hp, σ1 = hp σ (k + 1) (σ k 1).toNat (iByte (iByte (iShr a1 v2))) →
        ∀ σ2 : Hp, σ2 = hp σ1 k 1 (wr ((σ1 k 1) + 1)) →
        ∃ n' : Nat, n' < n ∧ k = k ∧ a1 = a1 ∧ Rd_put_I3 k a1 σ0 n' (wr (v2 + (-8))) σ2)))
theorem Rd_put_p : Rd_put_vc := by
  intro k a σ hH hp
  exact ⟨4, rfl, rfl, 0, by omega, by omega, rfl, Fr.rf, by simp, fun j _ => rfl, fun j hj => by rw [if_pos (by omega)]⟩
theorem Rd_put_p3 : Rd_put_vc3 := by
  intro k a σ0 hp n v2 σ hH hI
  obtain ⟨rfl, p1, p2⟩ := hp
  obtain ⟨i, hi, rfl, rfl, hf, h1, hk, hr⟩ := hI
  refine ⟨fun h => ?_, fun h => ⟨fun h2 => absurd h2 (by omega), fun h2 => ⟨fun h3 => absurd h3 (by omega), fun h3 => ⟨⟨by omega, by omega⟩, ?_⟩⟩⟩⟩
  · have : i = 4 := by omega
    subst this
    exact ⟨hf, h1, hk, hr⟩
  · rintro σ1 rfl
    rintro σ2 rfl
    rw [hp_ne (show (1 : Nat) ≠ 1 + 1 by decide), wr1 (by omega) (by omega), wr_id (by omega) (by omega), iByte2]
    refine ⟨4 - (i + 1), by omega, rfl, rfl, i + 1, by omega, by omega, rfl, Fr.hp (Fr.hp hf (by simp)) (by simp), by rw [hp_r1, h1]; omega, fun j hj => ?_, fun j hj => ?_⟩
    · rw [hp_r2 (fun z => hj z.2), hp_ne (by decide)]; exact hk j hj
    · rw [hp_ne (show (2 : Nat) ≠ 1 by decide), show (1 + 1 : Nat) = 2 from rfl, hp_rd]
      by_cases e : j = (σ 1 1).toNat
      · rw [if_pos ⟨rfl, e⟩, if_neg (by omega)]
        refine congrArg (fun z => iByte (iShr a z)) ?_
        omega
      · rw [if_neg (fun z => e z.2)]
        exact hr j (by omega)
def Rd_put_I : List AV → Hp → Nat → Nat → List AV → List AV → Hp → Prop := fun as σ0 pc n st ls σ => (match as with
    | [.inr (.inr (.inl (k, 0, 5))), .inl a1] => (bif Nat.beq pc 3 then (match st, ls with
      | [], [.inr (.inr (.inl (k', 0, 5))), .inl a1', .inl v2] => k = k' ∧ a1 = a1' ∧ Rd_put_I3 k a1 σ0 n v2 σ
      | _, _ => False) else False)
    | _ => False)
def Rd_put_ct : Nat → Ct := fun n => match n with
  | _ => Rd_put_cs
set_option maxRecDepth 20000 in
set_option maxHeartbeats 4000000 in
theorem Rd_put_met {l : Launch} {D : va_G} {ad : Nat → Nat} {ca : Nat → ClassId} {L : Nat} {fx : Nat → Int} : ax_MC l D ad ca L fx yX5_put cX5_put 3 none 1 Rd_put_cs := by
  refine ax_met (oc := 5) (ct := Rd_put_ct) (calls := Rd_put_cl) (bs := Rd_put_bk) (cut := fun pc => Nat.beq pc 3) (f := 5) (I := Rd_put_I) (by decide) rfl rfl Rd_put_ck (fun _ h => absurd h List.not_mem_nil) ?_ ?_
  · intro as σ0 hp hH
    match as, hp with
    | [.inr (.inr (.inl (k, 0, 5))), .inl a1], hp => exact ⟨rfl, Rd_put_p k a1 σ0 hH hp⟩
  · intro as σ0 hp n pc st ls σ hH hI
    match as, hp, hI with
    | [.inr (.inr (.inl (k, 0, 5))), .inl a1], hp, hI =>
      rcases ax_bifE hI with ⟨hpc, hI⟩ | ⟨-, hI⟩
      · have := Nat.eq_of_beq_eq_true hpc
        subst this
        match st, ls, hI with
        | [], [.inr (.inr (.inl (k', 0, 5))), .inl a1', .inl v2], hI =>
          obtain ⟨rfl, rfl, hI⟩ := hI
          exact Rd_put_p3 k a1 σ0 hp n v2 σ hH hI
      exact False.elim hI
/-- the text has changed, and nothing else -/
theorem txt_x {σ σ' : Hp} {cs : List Nat} (hX : XIr σ) (hf : Fr cs σ σ') (hc : ∀ c ∈ cs, c = 1 ∨ c = 2) (hT : RT σ') (h2 : σ' 1 2 = σ 1 2) (h3 : σ' 1 3 = σ 1 3) : XQ σ σ' ∧ xA σ' = (tpX σ', (xA σ).2) := by
  have e : ∀ c, ¬ c = 1 → ¬ c = 2 → σ' c = σ c := fun c c1 c2 => hf c (fun z => (hc c z).elim c1 c2)
  obtain ⟨x1, x2, x3, x4, x5, x6, x7, x8⟩ := hX
  have hfo := x1.fo
  have hK : FK (tld σ) σ σ' := FK_of hfo hf (fun c z => by have := hc c z; omega)
  have e0 := e 0 (by decide) (by decide)
  have et : tld σ' = tld σ := by unfold tld; rw [e0]
  have eh : hst σ' = hst σ := by funext i; unfold hst; rw [e 14 (by decide) (by decide), e 15 (by decide) (by decide)]
  have es : stX σ' 31 = stX σ 31 := stX_eq (fun d hd => e _ (by omega) (by omega))
  refine ⟨⟨⟨?_, hT, ?_, ?_, ?_, ?_, ?_, ?_⟩, fun c hcc => e c (by omega) (by omega)⟩, ?_⟩
  · unfold TD; rw [e0]; exact x1
  · rw [et]; exact hK.fs x3
  · unfold HO; rw [e 14 (by decide) (by decide)]; exact x4
  · rw [e 19 (by decide) (by decide)]; exact x5
  · unfold HM HT; rw [et, hK.fam, e 19 (by decide) (by decide), e 28 (by decide) (by decide)]; exact x6
  · rw [e0]; exact x7
  · rw [e 14 (by decide) (by decide), eh, es]; exact x8
  · unfold xA
    have eG : sgX σ' = sgX σ := sgX_eq (by rw [e 19 (by decide) (by decide)]) (fun c c1 c2 => e c (by omega) (by omega))
    have eL : hstL σ' = hstL σ := by unfold hstL; rw [eh, e 14 (by decide) (by decide)]
    rw [h2, h3, et, hK.fam, es, eL, bxX_eq (e 17 (by decide) (by decide)) (e 18 (by decide) (by decide)), eG, e0, e 34 (by decide) (by decide)]
def Gh_feed_pre (k : Nat) (_a _b _c _d _e : Int) (σ : Hp) : Prop := k = 0 ∧ XP σ
def Gh_feed_post (_k : Nat) (a b c d e : Int) (σ : Hp) (r : Int) (σ' : Hp) : Prop := XQ σ σ' ∧ s_feed (xA σ) a b c d e r (xA σ')
def Gh_feed_bk : List (Nat × List Item) := [(0, [(.aload_n 0, 1, [], []), (.getfield 10, 3, [8, 0, 4, 1, 0, 5], []), (.invokevirtual 65, 3, [0], []), (.ifCond .ne 5, 3, [12], []), (.iconst (-1), 1, [], []), (.ireturn, 1, [], [])]),
  (12, [(.aload_n 0, 1, [], []), (.getfield 10, 3, [8, 0, 4, 1, 0, 5], []), (.iload_n 1, 1, [], []), (.invokevirtual 69, 3, [1], []), (.aload_n 0, 1, [], []), (.getfield 10, 3, [8, 0, 4, 1, 0, 5], []), (.iload_n 2, 1, [], []), (.invokevirtual 69, 3, [1], []), (.aload_n 0, 1, [], []), (.getfield 10, 3, [8, 0, 4, 1, 0, 5], []), (.iload_n 3, 1, [], []), (.invokevirtual 69, 3, [1], []), (.aload_n 0, 1, [], []), (.getfield 10, 3, [8, 0, 4, 1, 0, 5], []), (.iload 4, 2, [], []), (.invokevirtual 69, 3, [1], []), (.aload_n 0, 1, [], []), (.getfield 10, 3, [8, 0, 4, 1, 0, 5], []), (.iload 5, 2, [], []), (.invokevirtual 69, 3, [1], []), (.aload_n 0, 1, [], []), (.getfield 10, 3, [8, 0, 4, 1, 0, 5], []), (.getfield 73, 3, [5, 1, 0, 0, 0, 0], []), (.ireturn, 1, [], [])])]
def Gh_feed_cl : List (Instr × Nat) := [(.invokevirtual 65, 0), (.invokevirtual 69, 1)]
set_option maxRecDepth 20000 in
theorem Gh_feed_ck : Gh_feed_bk.all (fun b => ax_chB 8 6 cX8_feed Gh_feed_cl b.1 b.2) = true := by decide +kernel
def Gh_feed_cs : Ct := (6, 9, 1, (0, 0), fun as σ => (match as with
    | [.inr (.inr (.inl (k, 0, 8))), .inl a1, .inl a2, .inl a3, .inl a4, .inl a5] => Gh_feed_pre k a1 a2 a3 a4 a5 σ
    | _ => False), fun as σ r σ' => (match as with
    | [.inr (.inr (.inl (k, 0, 8))), .inl a1, .inl a2, .inl a3, .inl a4, .inl a5] => Gh_feed_post k a1 a2 a3 a4 a5 σ r σ'
    | _ => False))
theorem Gh_feed_w : ∀ w ∈ ([.instanceMethod yX8_feed, .selects yX8_feed.cls yX8_feed yX8_feed, .initialized yX8_feed.cls, .code yX8_feed cX8_feed 6 (some .int)] : List Cond), w ∈ ax_tb := ax_w4 (ax_m2 135 (by decide +kernel) rfl) (ax_m2 136 (by decide +kernel) rfl) (ax_m1 1 (by decide +kernel) rfl) (ax_m2 137 (by decide +kernel) rfl)
theorem Gh_feed_ds : yX8_feed.cls ≠ "java/lang/invoke/MethodHandle" ∧ yX8_feed.cls ≠ "java/lang/invoke/VarHandle" ∧ (parseMethodDescriptor yX8_feed.desc).map (fun d => d.parameters.length) = some 5 := by decide +kernel
def Gh_feed_vc : Prop := ∀ (k : Nat) (a1 : Int) (a2 : Int) (a3 : Int) (a4 : Int) (a5 : Int) (σ : Hp), ax_H σ → Gh_feed_pre k a1 a2 a3 a4 a5 σ →
  Rd_hasRoom_pre (k + 1) σ ∧
  ∀ (r2 : Int) (σ1 : Hp), Rd_hasRoom_post (k + 1) σ r2 σ1 →
  (¬ r2 = 0 →
    Rd_put_pre (k + 1) a1 σ1 ∧
    ∀ σ3 : Hp, Rd_put_post (k + 1) a1 σ1 σ3 →
    Rd_put_pre (k + 1) a2 σ3 ∧
    ∀ σ4 : Hp, Rd_put_post (k + 1) a2 σ3 σ4 →
    Rd_put_pre (k + 1) a3 σ4 ∧
    ∀ σ5 : Hp, Rd_put_post (k + 1) a3 σ4 σ5 →
    Rd_put_pre (k + 1) a4 σ5 ∧
    ∀ σ6 : Hp, Rd_put_post (k + 1) a4 σ5 σ6 →
    Rd_put_pre (k + 1) a5 σ6 ∧
    ∀ σ7 : Hp, Rd_put_post (k + 1) a5 σ6 σ7 →
    Gh_feed_post k a1 a2 a3 a4 a5 σ (σ7 (k + 1) 1) σ7) ∧
  (¬ (¬ r2 = 0) →
    Gh_feed_post k a1 a2 a3 a4 a5 σ (-1) σ1)
theorem Gh_feed_p : Gh_feed_vc := by
  intro k a b c d e σ hH hp
  obtain ⟨rfl, hP⟩ := hp
  have hX := hP.1
  have hT := hX.2.1
  have hn := hT.n
  have eB : (aB (xA σ)).2 = (tpX σ).2 := rfl
  have en0 : (tpX σ).2 = (σ 1 1).toNat := rfl
  refine ⟨rfl, ?_⟩
  rintro r2 σ1 ⟨rfl, rfl⟩
  refine ⟨fun h => ?_, fun h => ⟨same0 hX, ?_⟩⟩
  · have h0 : ¬ 1580 < σ1 1 1 := fun z => h (if_pos z)
    have hT0 := hT.1
    refine ⟨⟨rfl, hT0, by omega⟩, ?_⟩
    rintro σ3 ⟨a1, a2, a3, a4⟩
    refine ⟨⟨rfl, by omega, by omega⟩, ?_⟩
    rintro σ4 ⟨b1, b2, b3, b4⟩
    refine ⟨⟨rfl, by omega, by omega⟩, ?_⟩
    rintro σ5 ⟨c1, c2, c3, c4⟩
    refine ⟨⟨rfl, by omega, by omega⟩, ?_⟩
    rintro σ6 ⟨d1, d2, d3, d4⟩
    refine ⟨⟨rfl, by omega, by omega⟩, ?_⟩
    rintro σ7 ⟨e1, e2, e3, e4⟩
    have e11 : σ7 1 1 = σ1 1 1 + 20 := by omega
    have fr : Fr [1, 2] σ1 σ7 := (((a1.tr b1).tr c1).tr d1).tr e1
    have kp : ∀ j, ¬ j = 1 → σ7 1 j = σ1 1 j := fun j hj => by rw [e3 j hj, d3 j hj, c3 j hj, b3 j hj, a3 j hj]
    have A := txt_x hX fr (by simp) ⟨by omega, by omega⟩ (kp 2 (by decide)) (kp 3 (by decide))
    refine ⟨A.1, ?_⟩
    unfold s_feed
    rw [if_neg (by omega)]
    refine ⟨by show σ7 1 1 = _; rw [e11]; omega, ?_⟩
    rw [A.2]
    refine Prod.ext ?_ rfl
    show tpX σ7 = _
    unfold tpX
    rw [e11, show (σ1 1 1 + 20).toNat = (aB (xA σ1)).2 + 20 by omega]
    refine Prod.ext ?_ rfl
    funext j
    show tr ((aB (xA σ1)).2 + 20) (σ7 2) j = if j < (aB (xA σ1)).2 then (aB (xA σ1)).1 j else if j < (aB (xA σ1)).2 + 20 then fb a b c d e (j - (aB (xA σ1)).2) else 0
    have old : j < (aB (xA σ1)).2 → (aB (xA σ1)).1 j = σ1 2 j := fun z => tpX_at z
    by_cases z0 : j < (aB (xA σ1)).2
    · rw [if_pos z0, old z0, tr_in (by omega), e4 j (by omega), if_pos (by omega), d4 j (by omega), if_pos (by omega), c4 j (by omega), if_pos (by omega), b4 j (by omega), if_pos (by omega), a4 j (by omega), if_pos (by omega)]
    · rw [if_neg z0]
      by_cases z1 : j < (aB (xA σ1)).2 + 20
      · rw [if_pos z1, tr_in z1]
        generalize hi : j - (aB (xA σ1)).2 = i
        have hj : (j : Int) = σ1 1 1 + i := by omega
        have hi20 : i < 20 := by omega
        unfold fb fv
        rw [e4 j (by omega)]
        by_cases q4 : i < 16
        · rw [if_pos (by omega), d4 j (by omega)]
          by_cases q3 : i < 12
          · rw [if_pos (by omega), c4 j (by omega)]
            by_cases q2 : i < 8
            · rw [if_pos (by omega), b4 j (by omega)]
              by_cases q1 : i < 4
              · rw [if_pos (by omega), a4 j (by omega), if_neg (by omega), if_pos (show i / 4 = 0 by omega)]
                exact congrArg (fun z => iByte (iShr a z)) (by omega)
              · rw [if_neg (by omega), if_neg (show ¬ i / 4 = 0 by omega), if_pos (show i / 4 = 1 by omega)]
                exact congrArg (fun z => iByte (iShr b z)) (by omega)
            · rw [if_neg (by omega), if_neg (show ¬ i / 4 = 0 by omega), if_neg (show ¬ i / 4 = 1 by omega), if_pos (show i / 4 = 2 by omega)]
              exact congrArg (fun z => iByte (iShr c z)) (by omega)
          · rw [if_neg (by omega), if_neg (show ¬ i / 4 = 0 by omega), if_neg (show ¬ i / 4 = 1 by omega), if_neg (show ¬ i / 4 = 2 by omega), if_pos (show i / 4 = 3 by omega)]
            exact congrArg (fun z => iByte (iShr d z)) (by omega)
        · rw [if_neg (by omega), if_neg (show ¬ i / 4 = 0 by omega), if_neg (show ¬ i / 4 = 1 by omega), if_neg (show ¬ i / 4 = 2 by omega), if_neg (show ¬ i / 4 = 3 by omega)]
          exact congrArg (fun z => iByte (iShr e z)) (by omega)
      · rw [if_neg z1, tr_out (by omega)]
  · have h0 : 1580 < σ1 1 1 := Classical.byContradiction fun z => h (by rw [if_neg z]; decide)
    unfold s_feed
    rw [if_pos (by omega)]
    exact ⟨rfl, rfl⟩
def Gh_feed_I : List AV → Hp → Nat → Nat → List AV → List AV → Hp → Prop := fun as σ0 pc n st ls σ => (match as with
    | [.inr (.inr (.inl (k, 0, 8))), .inl a1, .inl a2, .inl a3, .inl a4, .inl a5] => False
    | _ => False)
def Gh_feed_ct : Nat → Ct := fun n => match n with
  | 0 => Rd_hasRoom_cs
  | 1 => Rd_put_cs
  | _ => Gh_feed_cs
set_option maxRecDepth 20000 in
set_option maxHeartbeats 4000000 in
theorem Gh_feed_met {l : Launch} {D : va_G} {ad : Nat → Nat} {ca : Nat → ClassId} {L : Nat} {fx : Nat → Int} : ax_MC l D ad ca L fx yX8_feed cX8_feed 6 (some .int) 2 Gh_feed_cs := by
  refine ax_met (oc := 8) (ct := Gh_feed_ct) (calls := Gh_feed_cl) (bs := Gh_feed_bk) (cut := fun pc => false) (f := 3) (I := Gh_feed_I) (by decide) rfl rfl Gh_feed_ck (List.forall_mem_cons.mpr ⟨ax_cwV Rd_hasRoom_met (by decide) (by decide) rfl (by decide) rfl (ax_m2 138 (by decide +kernel) rfl) Rd_hasRoom_w rfl Rd_hasRoom_ds, List.forall_mem_cons.mpr ⟨ax_cwV Rd_put_met (by decide) (by decide) rfl (by decide) rfl (ax_m2 142 (by decide +kernel) rfl) Rd_put_w rfl Rd_put_ds, fun _ h => absurd h List.not_mem_nil⟩⟩) ?_ ?_
  · intro as σ0 hp hH
    match as, hp with
    | [.inr (.inr (.inl (k, 0, 8))), .inl a1, .inl a2, .inl a3, .inl a4, .inl a5], hp => exact ⟨rfl, Gh_feed_p k a1 a2 a3 a4 a5 σ0 hH hp⟩
  · intro as σ0 hp n pc st ls σ hH hI
    match as, hp, hI with
    | [.inr (.inr (.inl (k, 0, 8))), .inl a1, .inl a2, .inl a3, .inl a4, .inl a5], hp, hI => exact False.elim hI
def Gh_end_pre (k : Nat) (_a : Int) (σ : Hp) : Prop := k = 0 ∧ XP σ
def Gh_end_post (_k : Nat) (a : Int) (σ : Hp) (r : Int) (σ' : Hp) : Prop := XQ σ σ' ∧ s_end (xA σ) a r (xA σ')
def Gh_end_bk : List (Nat × List Item) := [(0, [(.iload_n 1, 1, [], []), (.ifCond .lt 14, 3, [15], []), (.iload_n 1, 1, [], []), (.aload_n 0, 1, [], []), (.getfield 10, 3, [8, 0, 4, 1, 0, 5], []), (.getfield 73, 3, [5, 1, 0, 0, 0, 0], []), (.if_icmp .le 5, 3, [17], [])]),
  (15, [(.iconst (-1), 1, [], []), (.ireturn, 1, [], [])]),
  (17, [(.aload_n 0, 1, [], []), (.getfield 10, 3, [8, 0, 4, 1, 0, 5], []), (.iload_n 1, 1, [], []), (.putfield 73, 3, [5, 1, 0, 0, 0, 0], []), (.iload_n 1, 1, [], []), (.ireturn, 1, [], [])])]
def Gh_end_cl : List (Instr × Nat) := []
set_option maxRecDepth 20000 in
theorem Gh_end_ck : Gh_end_bk.all (fun b => ax_chB 8 2 cX8_end Gh_end_cl b.1 b.2) = true := by decide +kernel
def Gh_end_cs : Ct := (2, 9, 1, (0, 0), fun as σ => (match as with
    | [.inr (.inr (.inl (k, 0, 8))), .inl a1] => Gh_end_pre k a1 σ
    | _ => False), fun as σ r σ' => (match as with
    | [.inr (.inr (.inl (k, 0, 8))), .inl a1] => Gh_end_post k a1 σ r σ'
    | _ => False))
theorem Gh_end_w : ∀ w ∈ ([.instanceMethod yX8_end, .selects yX8_end.cls yX8_end yX8_end, .initialized yX8_end.cls, .code yX8_end cX8_end 2 (some .int)] : List Cond), w ∈ ax_tb := ax_w4 (ax_m2 147 (by decide +kernel) rfl) (ax_m2 148 (by decide +kernel) rfl) (ax_m1 1 (by decide +kernel) rfl) (ax_m2 149 (by decide +kernel) rfl)
theorem Gh_end_ds : yX8_end.cls ≠ "java/lang/invoke/MethodHandle" ∧ yX8_end.cls ≠ "java/lang/invoke/VarHandle" ∧ (parseMethodDescriptor yX8_end.desc).map (fun d => d.parameters.length) = some 1 := by decide +kernel
def Gh_end_vc : Prop := ∀ (k : Nat) (a1 : Int) (σ : Hp), ax_H σ → Gh_end_pre k a1 σ →
  (a1 < 0 →
    Gh_end_post k a1 σ (-1) σ) ∧
  (¬ (a1 < 0) →
    (a1 ≤ σ (k + 1) 1 →
      ∀ σ1 : Hp, σ1 = hp σ (k + 1) 1 a1 →
      Gh_end_post k a1 σ a1 σ1) ∧
    (¬ (a1 ≤ σ (k + 1) 1) →
      Gh_end_post k a1 σ (-1) σ))
theorem Gh_end_p : Gh_end_vc := by
  intro k a σ hH hp
  obtain ⟨rfl, hP⟩ := hp
  have hX := hP.1
  have hT := hX.2.1
  have hn := hT.n
  have eB : (aB (xA σ)).2 = (tpX σ).2 := rfl
  rw [show (0 + 1 : Nat) = 1 from rfl, hn.2]
  refine ⟨fun h => ⟨same0 hX, ?_⟩, fun h => ⟨fun h2 => ?_, fun h2 => ⟨same0 hX, ?_⟩⟩⟩
  · unfold s_end; rw [if_neg (by omega)]; exact ⟨rfl, rfl⟩
  · rintro σ1 hσ1
    have e1 : σ1 1 1 = a := by rw [hσ1, hp_r1]
    have A := txt_x (cs := [1]) (σ' := σ1) hX (by rw [hσ1]; exact Fr.hp Fr.rf List.mem_cons_self) (by simp) ⟨by omega, by omega⟩ (by rw [hσ1, hp_r2 (by omega)]) (by rw [hσ1, hp_r2 (by omega)])
    refine ⟨A.1, ?_⟩
    unfold s_end
    rw [if_pos ⟨by omega, by rw [eB]; exact h2⟩]
    refine ⟨rfl, ?_⟩
    rw [A.2]
    refine Prod.ext ?_ rfl
    show tpX σ1 = _
    unfold tpX
    rw [e1]
    refine Prod.ext ?_ rfl
    funext j
    show tr a.toNat (σ1 2) j = tr a.toNat (tr (σ 1 1).toNat (σ 2)) j
    unfold tr
    by_cases z : j < a.toNat
    · rw [if_pos z, if_pos z, if_pos (by omega), hσ1, hp_ne (by decide)]
    · rw [if_neg z, if_neg z]
  · unfold s_end; rw [if_neg (by rw [eB]; omega)]; exact ⟨rfl, rfl⟩
def Gh_end_I : List AV → Hp → Nat → Nat → List AV → List AV → Hp → Prop := fun as σ0 pc n st ls σ => (match as with
    | [.inr (.inr (.inl (k, 0, 8))), .inl a1] => False
    | _ => False)
def Gh_end_ct : Nat → Ct := fun n => match n with
  | _ => Gh_end_cs
set_option maxRecDepth 20000 in
set_option maxHeartbeats 4000000 in
theorem Gh_end_met {l : Launch} {D : va_G} {ad : Nat → Nat} {ca : Nat → ClassId} {L : Nat} {fx : Nat → Int} : ax_MC l D ad ca L fx yX8_end cX8_end 2 (some .int) 1 Gh_end_cs := by
  refine ax_met (oc := 8) (ct := Gh_end_ct) (calls := Gh_end_cl) (bs := Gh_end_bk) (cut := fun pc => false) (f := 4) (I := Gh_end_I) (by decide) rfl rfl Gh_end_ck (fun _ h => absurd h List.not_mem_nil) ?_ ?_
  · intro as σ0 hp hH
    match as, hp with
    | [.inr (.inr (.inl (k, 0, 8))), .inl a1], hp => exact ⟨rfl, Gh_end_p k a1 σ0 hH hp⟩
  · intro as σ0 hp n pc st ls σ hH hI
    match as, hp, hI with
    | [.inr (.inr (.inl (k, 0, 8))), .inl a1], hp, hI => exact False.elim hI
theorem FV_of {σ : Hp} {f : Nat} {q : PS} (hq : okPS q) (hF : FS σ f) (e : famX σ f = famO q) : FV (famO q) := by
  obtain ⟨k1, k2, k3, k4, k5, k6, k7, k8, k9⟩ := hq
  have fm : ∀ g, okF σ g → ∀ v, frX σ g = frO v → WFm (frO v) := by
    intro g hg v hv
    cases v with
    | none => exact Or.inl ⟨rfl, rfl⟩
    | some v =>
      right
      rw [← hv]
      have h1 : σ g 5 = 1 := congrArg Prod.fst hv
      obtain ⟨g1, g2, g3⟩ := hg
      obtain ⟨g4, g5⟩ := g3 (by rw [h1]; decide)
      refine ⟨h1, by show (σ g 3).toNat ≤ 280; omega, wfc_ext (fun j hj => (tr_in hj).symm) g4, ?_⟩
      show 1 ≤ tp (tr (σ g 3).toNat (σ (g + 1))) (σ g 3).toNat
      rw [← tp_ext (fun j hj => (tr_in hj).symm)]
      exact g5
  have e1 : fWor (famX σ f) = fWor (famO q) := by rw [e]
  have e2 : fGro (famX σ f) = fGro (famO q) := by rw [e]
  refine ⟨k1.1, k4, fun j hj => (k5 j hj).2, by show nwn (pAm q) 6 ≤ 4; omega, k7, by show kn (pKn q) 6 ≤ 12; omega, ?_, ?_, fm (f + 8) hF.2.2.2.2.1 (pWo q) e1, fm (f + 12) hF.2.2.2.2.2 (pGr q) e2⟩
  · have : fEas (famX σ f) = fEas (famO q) := by rw [e]
    rw [← this]; exact hF.2.1
  · have : fDra (famX σ f) = fDra (famO q) := by rw [e]
    rw [← this]; exact hF.2.2.1
def Gh_family_pre (k : Nat) (σ : Hp) : Prop := k = 0 ∧ XP σ
def Gh_family_post (_k : Nat) (σ : Hp) (r : Int) (σ' : Hp) : Prop := XQ σ σ' ∧ s_family (xA σ) r (xA σ') ∧ ∀ x, RdA (aB (xA σ)) (.inr x) → FV (famO x.1)
def Gh_family_bk : List (Nat × List Item) := [(0, [(.aload_n 0, 1, [], []), (.getfield 10, 3, [8, 0, 4, 1, 0, 5], []), (.aload_n 0, 1, [], []), (.getfield 62, 3, [8, 9, 5, 0, 0, 1], []), (.invokevirtual 77, 3, [0], []), (.istore_n 1, 1, [], []), (.aload_n 0, 1, [], []), (.getfield 10, 3, [8, 0, 4, 1, 0, 5], []), (.iconst 0, 1, [], []), (.putfield 73, 3, [5, 1, 0, 0, 0, 0], []), (.iload_n 1, 1, [], []), (.ifCond .ne 5, 3, [26], []), (.iconst (-1), 1, [], []), (.ireturn, 1, [], [])]),
  (26, [(.aload_n 0, 1, [], []), (.getfield 58, 3, [8, 8, 5, 0, 0, 1], []), (.astore_n 2, 1, [], []), (.aload_n 0, 1, [], []), (.aload_n 0, 1, [], []), (.getfield 62, 3, [8, 9, 5, 0, 0, 1], []), (.putfield 58, 3, [8, 8, 5, 0, 0, 1], []), (.aload_n 0, 1, [], []), (.aload_n 2, 1, [], []), (.putfield 62, 3, [8, 9, 5, 0, 0, 1], []), (.aload_n 0, 1, [], []), (.getfield 58, 3, [8, 8, 5, 0, 0, 1], []), (.aload_n 0, 1, [], []), (.getfield 47, 3, [8, 5, 4, 31, 0, 7], []), (.iconst (-1), 1, [], []), (.iconst 0, 1, [], []), (.invokevirtual 81, 3, [1], []), (.aload_n 0, 1, [], []), (.getfield 26, 3, [8, 2, 4, 14, 0, 3], []), (.invokevirtual 85, 3, [2], []), (.aload_n 0, 1, [], []), (.getfield 33, 3, [8, 3, 4, 16, 0, 0], []), (.invokevirtual 88, 3, [3], []), (.aload_n 0, 1, [], []), (.getfield 40, 3, [8, 4, 4, 19, 0, 6], []), (.invokevirtual 89, 3, [4], []), (.aload_n 0, 1, [], []), (.iconst 0, 1, [], []), (.putfield 90, 3, [8, 7, 0, 0, 0, 0], []), (.aload_n 0, 1, [], []), (.getfield 58, 3, [8, 8, 5, 0, 0, 1], []), (.getfield 93, 3, [1, 9, 0, 0, 0, 0], []), (.ireturn, 1, [], [])])]
def Gh_family_cl : List (Instr × Nat) := [(.invokevirtual 77, 0), (.invokevirtual 81, 1), (.invokevirtual 85, 2), (.invokevirtual 88, 3), (.invokevirtual 89, 4)]
set_option maxRecDepth 20000 in
theorem Gh_family_ck : Gh_family_bk.all (fun b => ax_chB 8 3 cX8_family Gh_family_cl b.1 b.2) = true := by decide +kernel
def Gh_family_cs : Ct := (1, 9, 1, (0, 0), fun as σ => (match as with
    | [.inr (.inr (.inl (k, 0, 8)))] => Gh_family_pre k σ
    | _ => False), fun as σ r σ' => (match as with
    | [.inr (.inr (.inl (k, 0, 8)))] => Gh_family_post k σ r σ'
    | _ => False))
theorem Gh_family_w : ∀ w ∈ ([.instanceMethod yX8_family, .selects yX8_family.cls yX8_family yX8_family, .initialized yX8_family.cls, .code yX8_family cX8_family 3 (some .int)] : List Cond), w ∈ ax_tb := ax_w4 (ax_m2 151 (by decide +kernel) rfl) (ax_m2 152 (by decide +kernel) rfl) (ax_m1 1 (by decide +kernel) rfl) (ax_m2 153 (by decide +kernel) rfl)
theorem Gh_family_ds : yX8_family.cls ≠ "java/lang/invoke/MethodHandle" ∧ yX8_family.cls ≠ "java/lang/invoke/VarHandle" ∧ (parseMethodDescriptor yX8_family.desc).map (fun d => d.parameters.length) = some 0 := by decide +kernel
def Gh_family_vc : Prop := ∀ (k : Nat) (σ : Hp), ax_H σ → Gh_family_pre k σ →
  Rd_read_pre (k + 1) ((σ k 9).toNat) σ ∧
  ∀ (r2 : Int) (σ1 : Hp), Rd_read_post (k + 1) ((σ k 9).toNat) σ r2 σ1 →
  ∀ σ3 : Hp, σ3 = hp σ1 (k + 1) 1 0 →
  (¬ r2 = 0 →
    ∀ σ4 : Hp, σ4 = hp σ3 k 8 ((σ3 k 9).toNat : Nat) →
    ∀ σ5 : Hp, σ5 = hp σ4 k 9 ((σ3 k 8).toNat : Nat) →
    Fa_begin_pre ((σ5 k 8).toNat) (k + 31) (-1) 0 σ5 ∧
    ∀ σ6 : Hp, Fa_begin_post ((σ5 k 8).toNat) (k + 31) (-1) 0 σ5 σ6 →
    Hi_clear_pre (k + 14) σ6 ∧
    ∀ σ7 : Hp, Hi_clear_post (k + 14) σ6 σ7 →
    Bx_clear_pre (k + 16) σ7 ∧
    ∀ σ8 : Hp, Bx_clear_post (k + 16) σ7 σ8 →
    Si_clear_pre (k + 19) σ8 ∧
    ∀ σ9 : Hp, Si_clear_post (k + 19) σ8 σ9 →
    ∀ σ10 : Hp, σ10 = hp σ9 k 7 0 →
    Gh_family_post k σ (σ10 (σ10 k 8).toNat 9) σ10) ∧
  (¬ (¬ r2 = 0) →
    Gh_family_post k σ (-1) σ3)
theorem Gh_family_p : Gh_family_vc := by
  intro k σ hH hp
  obtain ⟨rfl, hP⟩ := hp
  have hX := hP.1
  obtain ⟨x1, x2, x3, x4, x5, x6, x7, x8⟩ := hX
  have hfo := x1.fo
  have hgo : FO (σ 0 9).toNat := by
    rcases x1 with h | h
    · rw [h.2]; exact Or.inr rfl
    · rw [h.2]; exact Or.inl rfl
  have hdf : (tld σ = 35 ∧ (σ 0 9).toNat = 51) ∨ (tld σ = 51 ∧ (σ 0 9).toNat = 35) := by
    unfold tld
    rcases x1 with h | h
    · left; rw [h.1, h.2]; exact ⟨rfl, rfl⟩
    · right; rw [h.1, h.2]; exact ⟨rfl, rfl⟩
  generalize hg : (σ 0 9).toNat = g at *
  refine ⟨⟨rfl, hgo, x2⟩, ?_⟩
  rintro r2 σ1 ⟨f1, h11, o, hRd, hm⟩
  rintro σ3 hσ3
  rw [show (0 + 1 : Nat) = 1 from rfl] at hσ3
  have c1 : ∀ c, ¬ c = 1 → (c < g ∨ g + 16 ≤ c) → σ3 c = σ c := fun c h1 h2 => by
    rw [hσ3, hp_ne h1, f1 c (fun z => by
      rcases List.mem_cons.mp z with z | z
      · exact h1 z
      · have := fcs_m.mp z; omega)]
  have e31 : σ3 1 1 = 0 := by rw [hσ3, hp_r1]
  have e32 : σ3 1 2 = σ1 1 2 := by rw [hσ3, hp_r2 (by omega)]
  have e33 : σ3 1 3 = σ1 1 3 := by rw [hσ3, hp_r2 (by omega)]
  have tp0 : ∀ τ : Hp, τ 1 1 = 0 → tpX τ = (zr, 0) := by
    intro τ hτ
    unfold tpX
    rw [hτ]
    show (tr 0 (τ 2), 0) = _
    rw [tr_0]
  cases o with
  | inl x =>
    obtain ⟨rfl, m2, m3⟩ := hm
    refine ⟨fun z => absurd rfl z, fun _ => ?_⟩
    have hfn := FO_ne hgo
    have e0 := c1 0 (by decide) (by omega)
    have et : tld σ3 = tld σ := by unfold tld; rw [e0]
    have hK : FK (tld σ) σ σ3 := by
      have key : ∀ d, d ≤ 15 → σ3 (tld σ + d) = σ (tld σ + d) := fun d hd => c1 _ (by omega) (by omega)
      exact ⟨key 0 (by omega), fun d _ h2 => key d (by omega), key 8 (by omega), key 9 (by omega), key 12 (by omega), key 13 (by omega)⟩
    have eh : hst σ3 = hst σ := by funext i; unfold hst; rw [c1 14 (by decide) (by omega), c1 15 (by decide) (by omega)]
    have es : stX σ3 31 = stX σ 31 := stX_eq (fun d hd => c1 _ (by omega) (by omega))
    refine ⟨⟨⟨?_, ⟨by omega, by omega⟩, ?_, ?_, ?_, ?_, ?_, ?_⟩, fun c hcc => c1 c (by omega) (by omega)⟩, ⟨.inl x, hRd, rfl, ?_⟩, fun y hy => by have := hRd.uniq hy; cases this⟩
    · unfold TD; rw [e0]; exact x1
    · rw [et]; exact hK.fs x3
    · unfold HO; rw [c1 14 (by decide) (by omega)]; exact x4
    · rw [c1 19 (by decide) (by omega)]; exact x5
    · unfold HM HT; rw [et, hK.fam, c1 19 (by decide) (by omega), c1 28 (by decide) (by omega)]; exact x6
    · rw [e0]; exact x7
    · rw [c1 14 (by decide) (by omega), eh, es]; exact x8
    · unfold xA
      have eG : sgX σ3 = sgX σ := sgX_eq (by rw [c1 19 (by decide) (by omega)]) (fun c c2 c3 => c1 c (by omega) (by omega))
      have eL : hstL σ3 = hstL σ := by unfold hstL; rw [eh, c1 14 (by decide) (by omega)]
      rw [tp0 σ3 e31, e32, e33, m2, m3, et, hK.fam, es, eL, bxX_eq (c1 17 (by decide) (by omega)) (c1 18 (by decide) (by omega)), eG, e0, c1 34 (by decide) (by omega)]
  | inr x =>
    obtain ⟨rfl, m2, m3, m4, m5⟩ := hm
    refine ⟨fun _ => ?_, fun z => absurd (by decide) z⟩
    have hfn := FO_ne hgo
    have e0 := c1 0 (by decide) (by omega)
    have e39 : (σ3 0 9).toNat = g := by rw [e0]; exact hg
    have e38 : (σ3 0 8).toNat = tld σ := by rw [e0]; rfl
    rw [e39, e38]
    intro σ4 hσ4 σ5 hσ5
    have e58 : σ5 0 8 = (g : Int) := by rw [hσ5, hp_r2 (by omega), hσ4, hp_r1]
    have e59 : σ5 0 9 = (tld σ : Int) := by rw [hσ5, hp_r1]
    have e57 : σ5 0 10 = σ 0 10 := by rw [hσ5, hp_r2 (by omega), hσ4, hp_r2 (by omega), e0]
    have n5 : ∀ c, ¬ c = 0 → σ5 c = σ3 c := fun c hc => by rw [hσ5, hp_ne hc, hσ4, hp_ne hc]
    have n51 : ∀ c, ¬ c = 0 → ¬ c = 1 → σ5 c = σ1 c := fun c h0 h1 => by rw [n5 c h0, hσ3, hp_ne h1]
    have eg : (σ5 0 8).toNat = g := by rw [e58]; simp
    rw [eg]
    have hK5 : FK g σ1 σ5 := by
      have key : ∀ d, d ≤ 15 → σ5 (g + d) = σ1 (g + d) := fun d hd => n51 _ (by omega) (by omega)
      exact ⟨key 0 (by omega), fun d _ h2 => key d (by omega), key 8 (by omega), key 9 (by omega), key 12 (by omega), key 13 (by omega)⟩
    refine ⟨⟨hgo, Or.inr (Or.inr rfl), hK5.fs m5, by decide, by decide⟩, ?_⟩
    rintro σ6 ⟨b1, b2⟩
    have b2' : stX σ6 31 = bgn (famO x.1) (-1) 0 := by
      have : stX σ6 31 = bgn (famX σ5 g) (-1) 0 := b2
      rw [this, hK5.fam, m4]
    have nsg : ∀ c, (c < 31 ∨ c = 34 ∨ 67 ≤ c) → c ∉ sg g (0 + 31) := by
      intro c hc z
      simp only [sg, List.mem_cons, List.not_mem_nil, or_false] at z
      omega
    have n6 : ∀ c, (c < 31 ∨ c = 34 ∨ 67 ≤ c) → σ6 c = σ5 c := fun c hc => b1 c (nsg c hc)
    have hK6 : FK g σ5 σ6 := FK_of hgo b1 (fun c hc => by
      simp only [sg, List.mem_cons, List.not_mem_nil, or_false] at hc
      omega)
    refine ⟨⟨rfl, by unfold HO; rw [n6 14 (by omega), n5 14 (by decide), c1 14 (by decide) (by omega)]; exact x4⟩, ?_⟩
    rintro σ7 ⟨d1, d2, d3, d4⟩
    refine ⟨rfl, ?_⟩
    rintro σ8 ⟨g1, g2⟩
    refine ⟨rfl, ?_⟩
    rintro σ9 ⟨s1, s2, s3⟩
    intro σ10 hσ10
    have n9 : ∀ c, ¬ c = 14 → ¬ c = 18 → ¬ c = 19 → σ9 c = σ6 c := fun c h1 h2 h3 => by
      rw [s1 c (by simp; omega), g1 c (by simp; omega), d1 c (by simp; omega)]
    have n10 : ∀ c, ¬ c = 0 → ¬ c = 14 → ¬ c = 18 → ¬ c = 19 → σ10 c = σ6 c := fun c h0 h1 h2 h3 => by rw [hσ10, hp_ne h0, n9 c h1 h2 h3]
    have z10 : ∀ j, ¬ j = 7 → σ10 0 j = σ5 0 j := fun j hj => by
      rw [hσ10, hp_r2 (fun z => hj z.2), n9 0 (by decide) (by decide) (by decide), n6 0 (by omega)]
    have et : tld σ10 = g := by unfold tld; rw [z10 8 (by decide)]; exact eg
    have hK10 : FK g σ6 σ10 := by
      have key : ∀ d, d ≤ 15 → σ10 (g + d) = σ6 (g + d) := fun d hd => n10 _ (by omega) (by omega) (by omega) (by omega)
      exact ⟨key 0 (by omega), fun d _ h2 => key d (by omega), key 8 (by omega), key 9 (by omega), key 12 (by omega), key 13 (by omega)⟩
    have e14 : σ10 14 = σ7 14 := by rw [hσ10, hp_ne (by decide), s1 14 (by decide), g1 14 (by decide)]
    have e18 : σ10 18 = σ8 18 := by rw [hσ10, hp_ne (by decide), s1 18 (by decide)]
    have e19 : σ10 19 = σ9 19 := by rw [hσ10, hp_ne (by decide)]
    have e1 : σ10 1 = σ3 1 := by rw [n10 1 (by decide) (by decide) (by decide) (by decide), n6 1 (by omega), n5 1 (by decide)]
    have eF : famX σ10 g = famO x.1 := by rw [hK10.fam, hK6.fam, hK5.fam, m4]
    have hFS : FS σ10 g := hK10.fs (hK6.fs (hK5.fs m5))
    have es : stX σ10 31 = bgn (famO x.1) (-1) 0 := by
      rw [← b2']; exact stX_eq (fun d hd => n10 _ (by omega) (by omega) (by omega) (by omega))
    have e7 : σ10 0 7 = 0 := by rw [hσ10, hp_r1]
    have hFV : FV (famO x.1) := FV_of hRd.ok hFS eF
    refine ⟨⟨⟨?_, ?_, ?_, ?_, ?_, ?_, ?_, ?_⟩, fun c hcc => ?_⟩, ⟨.inr x, hRd, ?_, ?_⟩, fun y hy => ?_⟩
    · unfold TD
      rw [z10 8 (by decide), z10 9 (by decide), e58, e59]
      rcases hdf with h | h
      · right; rw [h.1, h.2]; exact ⟨rfl, rfl⟩
      · left; rw [h.1, h.2]; exact ⟨rfl, rfl⟩
    · unfold RT; rw [e1, e31]; decide
    · rw [et]; exact hFS
    · unfold HO; rw [e14]; exact d2
    · rw [e19, s2]; decide
    · intro z; rw [e19, s3] at z; exact absurd rfl z
    · rw [e7]; decide
    · intro z; rw [e14, d3, d4] at z; exact absurd z (by decide)
    · rw [n10 c (by omega) (by omega) (by omega) (by omega), n6 c (by omega), n5 c (by omega), c1 c (by omega) (by omega)]
    · have : (σ10 0 8).toNat = g := et
      rw [this]
      have h9 := hFS.e9
      rw [eF] at h9
      exact h9
    · unfold xA fam1
      rw [tp0 σ10 (by rw [e1]; exact e31), e1, e32, e33, m2, m3, et, eF, es, e7, z10 10 (by decide), e57]
      have eL : hstL σ10 = ([], []) := by unfold hstL; rw [e14, d3, d4]; rfl
      have eX : bxX σ10 = fun _ => none := by
        funext i
        unfold bxX
        rw [if_neg]
        intro z
        exact z.2 (by rw [e18]; exact g2 i z.1)
      have eG : sgX σ10 = sg0 := by
        unfold sgX sg0
        rw [e19, s2]
        simp only [Int.toNat_zero, tr_0]
      rw [eL, eX, eG]
      show _ = _
      simp only [Int.toNat_zero, tr_0]
    · have := hRd.uniq hy
      injection this with this
      rw [← this]; exact hFV
def Gh_family_I : List AV → Hp → Nat → Nat → List AV → List AV → Hp → Prop := fun as σ0 pc n st ls σ => (match as with
    | [.inr (.inr (.inl (k, 0, 8)))] => False
    | _ => False)
def Gh_family_ct : Nat → Ct := fun n => match n with
  | 0 => Rd_read_cs
  | 1 => Fa_begin_cs
  | 2 => Hi_clear_cs
  | 3 => Bx_clear_cs
  | 4 => Si_clear_cs
  | _ => Gh_family_cs
set_option maxRecDepth 20000 in
set_option maxHeartbeats 4000000 in
theorem Gh_family_met {l : Launch} {D : va_G} {ad : Nat → Nat} {ca : Nat → ClassId} {L : Nat} {fx : Nat → Int} : ax_MC l D ad ca L fx yX8_family cX8_family 3 (some .int) 167 Gh_family_cs := by
  refine ax_met (oc := 8) (ct := Gh_family_ct) (calls := Gh_family_cl) (bs := Gh_family_bk) (cut := fun pc => false) (f := 3) (I := Gh_family_I) (by decide) rfl rfl Gh_family_ck (List.forall_mem_cons.mpr ⟨ax_cwV Rd_read_met (by decide) (by decide) rfl (by decide) rfl (ax_m2 154 (by decide +kernel) rfl) Rd_read_w rfl Rd_read_ds, List.forall_mem_cons.mpr ⟨ax_cwV Fa_begin_met (by decide) (by decide) rfl (by decide) rfl (ax_m3 140 (by decide +kernel) rfl) Fa_begin_w rfl Fa_begin_ds, List.forall_mem_cons.mpr ⟨ax_cwV Hi_clear_met (by decide) (by decide) rfl (by decide) rfl (ax_m3 168 (by decide +kernel) rfl) Hi_clear_w rfl Hi_clear_ds, List.forall_mem_cons.mpr ⟨ax_cwV Bx_clear_met (by decide) (by decide) rfl (by decide) rfl (ax_m3 172 (by decide +kernel) rfl) Bx_clear_w rfl Bx_clear_ds, List.forall_mem_cons.mpr ⟨ax_cwV Si_clear_met (by decide) (by decide) rfl (by decide) rfl (ax_m3 176 (by decide +kernel) rfl) Si_clear_w rfl Si_clear_ds, fun _ h => absurd h List.not_mem_nil⟩⟩⟩⟩⟩) ?_ ?_
  · intro as σ0 hp hH
    match as, hp with
    | [.inr (.inr (.inl (k, 0, 8)))], hp => exact ⟨rfl, Gh_family_p k σ0 hH hp⟩
  · intro as σ0 hp n pc st ls σ hH hI
    match as, hp, hI with
    | [.inr (.inr (.inl (k, 0, 8)))], hp, hI => exact False.elim hI
