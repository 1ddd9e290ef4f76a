-- THE MODEL: days
theorem grA_out {σ : Hp} {d : Int} {j : Nat} (hA : AP σ) (hj : 6 ≤ j) : grA (famM d σ) (airM σ) j = 0 := by
  have hn := hA.1.1
  have e : ¬ j < fN (famM d σ) := by show ¬ j < (σ 67 42).toNat; omega
  unfold grA
  rw [if_neg e]
  show tr 6 (fun j => σ 91 (0 + j)) j = 0
  exact tr_out hj
theorem AP.mid {σ σ1 : Hp} {c : Nat → Int} {e : Int} (h : AP σ) (hf : Fr af σ σ1) (ha : airM σ1 = (c, (airM σ).2.1, (airM σ).2.2.1, (airM σ).2.2.2.1, e, (airM σ).2.2.2.2.2)) (hc : ∀ j, 0 ≤ c j ∧ c j ≤ 99) (hz : ∀ j, (σ 67 42).toNat ≤ j → c j = 0) (he : 0 ≤ e ∧ e < 1000) : AP σ1 ∧ ∀ d, famM d σ1 = famM d σ := by
  have e67 : σ1 67 = σ 67 := hf 67 (by decide)
  have K := h.1.keep (σ' := σ1) (by rw [e67]) (by rw [e67]) (by rw [e67]) (fun c hc => hf c (by simp [af]; omega))
  refine ⟨⟨K.1, ?_, ?_⟩, K.2⟩
  · rw [ha]; exact ⟨hc, h.2.1.2.1, h.2.1.2.2.1, he⟩
  · rw [ha, e67]; exact ⟨h.2.2.1, h.2.2.2.1, hz⟩
theorem AP.step {σ σ1 : Hp} {a : Int} (h : AP σ) (hd : σ 91 14 < 100000) (hf : Fr af σ σ1) (ha : a = 0 ∨ a = -1) (hs : ∀ d, airM σ1 = stp (famM d σ) a (airM σ)) : AP σ1 := by
  have e67 : σ1 67 = σ 67 := hf 67 (by decide)
  have hn := h.1.1
  have K := h.1.keep (σ' := σ1) (by rw [e67]) (by rw [e67]) (by rw [e67]) (fun c hc => hf c (by simp [af]; omega))
  have ho : OKs 99999 (airM σ) := ⟨h.2.1.1, h.2.1.2.1, ⟨h.2.1.2.2.1.1, by show σ 91 14 ≤ 99999; omega⟩, h.2.1.2.2.2⟩
  have hN : fN (famM 0 σ) ≤ 6 := by show (σ 67 42).toNat ≤ 6; omega
  refine ⟨K.1, ?_, ?_⟩
  · rw [hs 0]; exact (ho.stp hN (by omega)).mono (by decide)
  · rw [hs 0, e67]
    refine ⟨stp_hair (F := famM 0 σ) h.2.2.1, h.2.2.2.1, fun j hj => ?_⟩
    show pssC (famM 0 σ) (airM σ) _ j = 0
    have e : ¬ j < fN (famM 0 σ) := by show ¬ j < (σ 67 42).toNat; omega
    unfold pssC
    rw [if_neg (fun z => e z.1)]
    unfold grA
    rw [if_neg e]
    exact h.2.2.2.2 j hj
def Mo_goDay_pre (k : Nat) (σ : Hp) : Prop := k = 67 ∧ AP σ ∧ σ 91 14 < 100000
def Mo_goDay_post (_k : Nat) (σ σ' : Hp) : Prop := Fr af σ σ' ∧ (∀ d, airM σ' = stp (famM d σ) 0 (airM σ)) ∧ AP σ'
def Mo_goDay_bk : List (Nat × List Item) := [(0, [(.aload_n 0, 1, [], []), (.invokevirtual 392, 3, [0], []), (.aload_n 0, 1, [], []), (.invokevirtual 395, 3, [1], []), (.return_, 1, [], [])])]
def Mo_goDay_cl : List (Instr × Nat) := [(.invokevirtual 392, 0), (.invokevirtual 395, 1)]
set_option maxRecDepth 20000 in
theorem Mo_goDay_ck : Mo_goDay_bk.all (fun b => ax_chB 9 1 cX9_goDay Mo_goDay_cl b.1 b.2) = true := by decide +kernel
def Mo_goDay_cs : Ct := (1, 10, 0, (0, 0), fun as σ => (match as with
    | [.inr (.inr (.inl (k, 0, 9)))] => Mo_goDay_pre k σ
    | _ => False), fun as σ r σ' => (match as with
    | [.inr (.inr (.inl (k, 0, 9)))] => Mo_goDay_post k σ σ'
    | _ => False))
theorem Mo_goDay_w : ∀ w ∈ ([.instanceMethod yX9_goDay, .selects yX9_goDay.cls yX9_goDay yX9_goDay, .initialized yX9_goDay.cls, .code yX9_goDay cX9_goDay 1 none] : List Cond), w ∈ ax_tb := ax_w4 (ax_m7 191 (by decide +kernel) rfl) (ax_m0 54 (by decide +kernel) rfl) (ax_m1 10 (by decide +kernel) rfl) (ax_m7 192 (by decide +kernel) rfl)
theorem Mo_goDay_ds : yX9_goDay.cls ≠ "java/lang/invoke/MethodHandle" ∧ yX9_goDay.cls ≠ "java/lang/invoke/VarHandle" ∧ (parseMethodDescriptor yX9_goDay.desc).map (fun d => d.parameters.length) = some 0 := by decide +kernel
def Mo_goDay_vc : Prop := ∀ (k : Nat) (σ : Hp), ax_H σ → Mo_goDay_pre k σ →
  Mo_growAll_pre k σ ∧
  ∀ σ1 : Hp, Mo_growAll_post k σ σ1 →
  Mo_endDay_pre k σ1 ∧
  ∀ σ2 : Hp, Mo_endDay_post k σ1 σ2 →
  Mo_goDay_post k σ σ2
theorem grown_air {σ σ1 : Hp} (hA : AP σ) (g2 : ∀ j, 6 ≤ j → σ1 91 j = σ 91 j) (g3 : ∀ d, ∀ j, j < 6 → σ1 91 j = grA (famM d σ) (airM σ) j) (d : Int) : airM σ1 = (grA (famM d σ) (airM σ), (airM σ).2.1, (airM σ).2.2.1, (airM σ).2.2.2.1, (airM σ).2.2.2.2.1, (airM σ).2.2.2.2.2) := by
  show stR (σ1 91) 0 = _
  unfold stR
  refine Prod.ext ?_ (Prod.ext (tr_ext fun j hj => g2 _ (by omega)) ?_)
  · funext j
    show tr 6 (fun j => σ1 91 (0 + j)) j = _
    by_cases hj : j < 6
    · rw [tr_in hj, Nat.zero_add]; exact g3 d j hj
    · rw [tr_out (by omega)]; exact (grA_out hA (by omega)).symm
  · show (σ1 91 12, σ1 91 14, σ1 91 15, σ1 91 13) = (σ 91 12, σ 91 14, σ 91 15, σ 91 13)
    rw [g2 12 (by decide), g2 13 (by decide), g2 14 (by decide), g2 15 (by decide)]
theorem grA_z {σ : Hp} {d : Int} (hA : AP σ) : ∀ j, (σ 67 42).toNat ≤ j → grA (famM d σ) (airM σ) j = 0 := by
  intro j hj
  unfold grA
  rw [if_neg (show ¬ j < fN (famM d σ) from (by show ¬ j < (σ 67 42).toNat; omega))]
  exact hA.2.2.2.2 j hj
theorem Mo_goDay_p : Mo_goDay_vc := by
  intro k σ hH hp
  obtain ⟨rfl, hA, h14⟩ := hp
  refine ⟨⟨rfl, hA⟩, ?_⟩
  rintro σ1 ⟨g1, g2, g3⟩
  have ga := grown_air hA g2 g3
  have M := hA.mid g1 (ga 0) (fun j => grA_R hA.2.1.1 j) (grA_z hA) hA.2.1.2.2.2
  refine ⟨⟨rfl, M.1, by rw [g2 14 (by decide)]; exact h14⟩, ?_⟩
  rintro σ2 ⟨e1, e2⟩
  have hs : ∀ d, airM σ2 = stp (famM d σ) 0 (airM σ) := by
    intro d
    rw [e2 d, M.2 d, ga d]
    show _ = pss (famM d σ) (airM σ) 0 (airM σ).2.2.2.2.1
    rw [pss_eday, pssC_0]
  exact ⟨Fr.tr g1 e1, hs, hA.step h14 (Fr.tr g1 e1) (Or.inl rfl) hs⟩
def Mo_goDay_I : List AV → Hp → Nat → Nat → List AV → List AV → Hp → Prop := fun as σ0 pc n st ls σ => (match as with
    | [.inr (.inr (.inl (k, 0, 9)))] => False
    | _ => False)
def Mo_goDay_ct : Nat → Ct := fun n => match n with
  | 0 => Mo_growAll_cs
  | 1 => Mo_endDay_cs
  | _ => Mo_goDay_cs
set_option maxRecDepth 20000 in
set_option maxHeartbeats 4000000 in
theorem Mo_goDay_met {l : Launch} {D : va_G} {ad : Nat → Nat} {ca : Nat → ClassId} {L : Nat} {fx : Nat → Int} : ax_MC l D ad ca L fx yX9_goDay cX9_goDay 1 none 7 Mo_goDay_cs := by
  refine ax_met (oc := 9) (ct := Mo_goDay_ct) (calls := Mo_goDay_cl) (bs := Mo_goDay_bk) (cut := fun pc => false) (f := 2) (I := Mo_goDay_I) (by decide) rfl rfl Mo_goDay_ck (List.forall_mem_cons.mpr ⟨ax_cwV Mo_growAll_met (by decide) (by decide) rfl (by decide) rfl (ax_m7 110 (by decide +kernel) rfl) Mo_growAll_w rfl Mo_growAll_ds, List.forall_mem_cons.mpr ⟨ax_cwV Mo_endDay_met (by decide) (by decide) rfl (by decide) rfl (ax_m7 114 (by decide +kernel) rfl) Mo_endDay_w rfl Mo_endDay_ds, fun _ h => absurd h List.not_mem_nil⟩⟩) ?_ ?_
  · intro as σ0 hp hH
    match as, hp with
    | [.inr (.inr (.inl (k, 0, 9)))], hp => exact ⟨rfl, Mo_goDay_p k σ0 hH hp⟩
  · intro as σ0 hp n pc st ls σ hH hI
    match as, hp, hI with
    | [.inr (.inr (.inl (k, 0, 9)))], hp, hI => exact False.elim hI
def Mo_goNewsDay_pre (k : Nat) (σ : Hp) : Prop := k = 67 ∧ AP σ ∧ σ 91 14 < 100000
def Mo_goNewsDay_post (_k : Nat) (σ σ' : Hp) : Prop := Fr af σ σ' ∧ (∀ d, airM σ' = stp (famM d σ) (-1) (airM σ)) ∧ AP σ'
def nwC (F : Fam) (s : Sta) (i : Nat) : Nat → Int := fun j => if bt ((dn F s.2.2.2.2.1 i).1 : Nat) j = true then wth (grA F s j + fAmt F j) 99 else grA F s j
def Mo_goNewsDay_I6 (_k : Nat) (σ0 : Hp) (n : Nat) (v1 : Int) (σ : Hp) : Prop := ∃ i : Nat, v1 = i ∧ i ≤ (σ0 67 42).toNat ∧ n = 6 - i ∧ Fr af σ0 σ ∧ (∀ d, ∀ j, j < 6 → σ 91 j = nwC (famM d σ0) (airM σ0) i j) ∧ (∀ j, 6 ≤ j → ¬ j = 15 → σ 91 j = σ0 91 j) ∧ ∀ d, σ 91 15 = (dn (famM d σ0) (σ0 91 15) i).2
def Mo_goNewsDay_bk : List (Nat × List Item) := [(0, [(.aload_n 0, 1, [], []), (.invokevirtual 392, 3, [0], []), (.iconst 0, 1, [], []), (.istore_n 1, 1, [], [])]),
  (6, [(.iload_n 1, 1, [], []), (.aload_n 0, 1, [], []), (.getfield 304, 3, [9, 42, 0, 0, 0, 0], []), (.if_icmp .ge 89, 3, [100], []), (.aload_n 0, 1, [], []), (.getfield 76, 3, [9, 35, 4, 21, 1, 6], []), (.iload_n 1, 1, [], []), (.iaload, 1, [], []), (.ifCond .ne 6, 3, [26], []), (.goto 71, 3, [94], [])]),
  (26, [(.aload_n 0, 1, [], []), (.getfield 88, 3, [9, 47, 4, 24, 1, 16], []), (.bipush 15, 2, [], []), (.aload_n 0, 1, [], []), (.getfield 88, 3, [9, 47, 4, 24, 1, 16], []), (.bipush 15, 2, [], []), (.iaload, 1, [], []), (.sipush 137, 3, [], []), (.imul, 1, [], []), (.bipush 71, 2, [], []), (.iadd, 1, [], []), (.sipush 1000, 3, [], []), (.irem, 1, [], []), (.iastore, 1, [], []), (.aload_n 0, 1, [], []), (.getfield 88, 3, [9, 47, 4, 24, 1, 16], []), (.bipush 15, 2, [], []), (.iaload, 1, [], []), (.bipush 100, 2, [], []), (.irem, 1, [], []), (.aload_n 0, 1, [], []), (.getfield 73, 3, [9, 34, 4, 20, 1, 6], []), (.iload_n 1, 1, [], []), (.iaload, 1, [], []), (.if_icmp .ge 27, 3, [94], []), (.aload_n 0, 1, [], []), (.getfield 88, 3, [9, 47, 4, 24, 1, 16], []), (.iload_n 1, 1, [], []), (.aload_n 0, 1, [], []), (.getfield 88, 3, [9, 47, 4, 24, 1, 16], []), (.iload_n 1, 1, [], []), (.iaload, 1, [], []), (.aload_n 0, 1, [], []), (.getfield 76, 3, [9, 35, 4, 21, 1, 6], []), (.iload_n 1, 1, [], []), (.iaload, 1, [], []), (.iadd, 1, [], []), (.bipush 99, 2, [], []), (.invokestatic 386, 3, [1], []), (.iastore, 1, [], [])]),
  (94, [(.iinc 1 1, 3, [], []), (.goto (-91), 3, [6], [])]),
  (100, [(.aload_n 0, 1, [], []), (.invokevirtual 395, 3, [2], []), (.return_, 1, [], [])])]
def Mo_goNewsDay_cl : List (Instr × Nat) := [(.invokevirtual 392, 0), (.invokestatic 386, 1), (.invokevirtual 395, 2)]
set_option maxRecDepth 20000 in
theorem Mo_goNewsDay_ck : Mo_goNewsDay_bk.all (fun b => ax_chB 9 2 cX9_goNewsDay Mo_goNewsDay_cl b.1 b.2) = true := by decide +kernel
def Mo_goNewsDay_cs : Ct := (1, 10, 0, (0, 0), fun as σ => (match as with
    | [.inr (.inr (.inl (k, 0, 9)))] => Mo_goNewsDay_pre k σ
    | _ => False), fun as σ r σ' => (match as with
    | [.inr (.inr (.inl (k, 0, 9)))] => Mo_goNewsDay_post k σ σ'
    | _ => False))
theorem Mo_goNewsDay_w : ∀ w ∈ ([.instanceMethod yX9_goNewsDay, .selects yX9_goNewsDay.cls yX9_goNewsDay yX9_goNewsDay, .initialized yX9_goNewsDay.cls, .code yX9_goNewsDay cX9_goNewsDay 2 none] : List Cond), w ∈ ax_tb := ax_w4 (ax_m7 108 (by decide +kernel) rfl) (ax_m0 44 (by decide +kernel) rfl) (ax_m1 10 (by decide +kernel) rfl) (ax_m7 109 (by decide +kernel) rfl)
theorem Mo_goNewsDay_ds : yX9_goNewsDay.cls ≠ "java/lang/invoke/MethodHandle" ∧ yX9_goNewsDay.cls ≠ "java/lang/invoke/VarHandle" ∧ (parseMethodDescriptor yX9_goNewsDay.desc).map (fun d => d.parameters.length) = some 0 := by decide +kernel
def Mo_goNewsDay_vc : Prop := ∀ (k : Nat) (σ : Hp), ax_H σ → Mo_goNewsDay_pre k σ →
  Mo_growAll_pre k σ ∧
  ∀ σ1 : Hp, Mo_growAll_post k σ σ1 →
  ∃ n' : Nat, k = k ∧ Mo_goNewsDay_I6 k σ n' 0 σ1
def Mo_goNewsDay_vc6 : Prop := ∀ (k : Nat) (σ0 : Hp), Mo_goNewsDay_pre k σ0 → ∀ (n : Nat) (v1 : Int) (σ : Hp), ax_H σ → Mo_goNewsDay_I6 k σ0 n v1 σ →
  (σ k 42 ≤ v1 →
    Mo_endDay_pre k σ ∧
    ∀ σ1 : Hp, Mo_endDay_post k σ σ1 →
    Mo_goNewsDay_post k σ0 σ1) ∧
  (¬ (σ k 42 ≤ v1) →
    (0 ≤ v1 ∧ v1 < 6) ∧
    (¬ σ (k + 21) v1.toNat = 0 →
      (0 ≤ (15 : Int) ∧ (15 : Int) < 16) ∧
      ¬ (1000 : Int) = 0 ∧
      (0 ≤ (15 : Int) ∧ (15 : Int) < 16) ∧
      ∀ σ2 : Hp, σ2 = hp σ (k + 24) 15 (iRem (wr ((wr ((σ (k + 24) 15) * 137)) + 71)) 1000) →
      (0 ≤ (15 : Int) ∧ (15 : Int) < 16) ∧
      ¬ (100 : Int) = 0 ∧
      (0 ≤ v1 ∧ v1 < 6) ∧
      (σ2 (k + 20) v1.toNat ≤ iRem (σ2 (k + 24) 15) 100 →
        ∃ n' : Nat, n' < n ∧ k = k ∧ Mo_goNewsDay_I6 k σ0 n' (wr (v1 + 1)) σ2) ∧
      (¬ (σ2 (k + 20) v1.toNat ≤ iRem (σ2 (k + 24) 15) 100) →
        (0 ≤ v1 ∧ v1 < 16) ∧
        (0 ≤ v1 ∧ v1 < 6) ∧
        Mo_within_pre (wr ((σ2 (k + 24) v1.toNat) + (σ2 (k + 21) v1.toNat))) 99 σ2 ∧
        ∀ (r4 : Int) (σ3 : Hp), Mo_within_post (wr ((σ2 (k + 24) v1.toNat) + (σ2 (k + 21) v1.toNat))) 99 σ2 r4 σ3 →
        (0 ≤ v1 ∧ v1 < 16) ∧
        ∀ σ5 : Hp, σ5 = hp σ3 (k + 24) v1.toNat r4 →
        ∃ n' : Nat, n' < n ∧ k = k ∧ Mo_goNewsDay_I6 k σ0 n' (wr (v1 + 1)) σ5)) ∧
    (¬ (¬ σ (k + 21) v1.toNat = 0) →
      ∃ n' : Nat, n' < n ∧ k = k ∧ Mo_goNewsDay_I6 k σ0 n' (wr (v1 + 1)) σ))
theorem Mo_goNewsDay_p : Mo_goNewsDay_vc := by
  intro k σ hH hp
  obtain ⟨rfl, hA, h14⟩ := hp
  refine ⟨⟨rfl, hA⟩, ?_⟩
  rintro σ1 ⟨g1, g2, g3⟩
  refine ⟨6, rfl, 0, rfl, Nat.zero_le _, rfl, g1, fun d j hj => ?_, fun j hj _ => g2 j hj, fun d => g2 15 (by decide)⟩
  rw [g3 d j hj]
  unfold nwC
  rw [if_neg]
  show ¬ bt ((0 : Nat) : Int) j = true
  rw [bt_n, Nat.zero_testBit]
  decide
theorem dn_hi {F : Fam} {seed : Int} (h : 0 ≤ seed ∧ seed < 1000) {i j : Nat} (hj : i ≤ j) : ¬ bt ((dn F seed i).1 : Nat) j = true := by
  rw [bt_n, Nat.testBit_lt_two_pow (Nat.lt_of_lt_of_le (dn_R h i).1 (Nat.pow_le_pow_right (by decide) hj))]
  decide
theorem Mo_goNewsDay_p6 : Mo_goNewsDay_vc6 := by
  intro k σ0 hp n v1 σ hH hI
  obtain ⟨rfl, hA, h14⟩ := hp
  obtain ⟨i, rfl, hi, rfl, hf, hc, ho, hs⟩ := hI
  have hn := hA.1.1
  have e67 : σ 67 = σ0 67 := hf 67 (by decide)
  have hseed : 0 ≤ σ0 91 15 ∧ σ0 91 15 < 1000 := hA.2.1.2.2.2
  obtain ⟨dF, hF⟩ := hA.1.2.2.2
  have eN : ∀ d, fN (famM d σ0) = (σ0 67 42).toNat := fun d => rfl
  rw [e67]
  refine ⟨fun h => ?_, fun h => ⟨⟨by omega, by omega⟩, ?_⟩⟩
  · have ei : i = (σ0 67 42).toNat := by omega
    have ga : ∀ d, airM σ = (pssC (famM d σ0) (airM σ0) (nws (famM d σ0) (airM σ0) (-1)), (airM σ0).2.1, (airM σ0).2.2.1, (airM σ0).2.2.2.1, nwd (famM d σ0) (airM σ0) (-1), (airM σ0).2.2.2.2.2) := by
      intro d
      have en : nws (famM d σ0) (airM σ0) (-1) = ((dn (famM d σ0) (σ0 91 15) i).1 : Nat) := by rw [ei]; rfl
      have ed : nwd (famM d σ0) (airM σ0) (-1) = (dn (famM d σ0) (σ0 91 15) i).2 := by rw [ei]; rfl
      rw [en, ed]
      show stR (σ 91) 0 = _
      unfold stR
      refine Prod.ext ?_ (Prod.ext (tr_ext fun j hj => ho _ (by omega) (by omega)) ?_)
      · funext j
        show tr 6 (fun j => σ 91 (0 + j)) j = pssC (famM d σ0) (airM σ0) ((dn (famM d σ0) (σ0 91 15) i).1 : Nat) j
        unfold pssC
        rw [eN d]
        by_cases hj : j < 6
        · rw [tr_in hj, Nat.zero_add, hc d j hj]
          unfold nwC
          by_cases hb : bt ((dn (famM d σ0) (airM σ0).2.2.2.2.1 i).1 : Nat) j = true
          · rw [if_pos hb, if_pos]
            refine ⟨?_, hb⟩
            by_cases z : j < (σ0 67 42).toNat
            · exact z
            · exact absurd hb (dn_hi hseed (by omega))
          · rw [if_neg hb, if_neg (fun z => hb z.2)]
        · rw [tr_out (by omega), if_neg (by omega), grA_out hA (by omega)]
      · show (σ 91 12, σ 91 14, σ 91 15, σ 91 13) = (σ0 91 12, σ0 91 14, (dn (famM d σ0) (σ0 91 15) i).2, σ0 91 13)
        rw [ho 12 (by decide) (by decide), ho 14 (by decide) (by decide), ho 13 (by decide) (by decide), hs d]
    have hN : fN (famM 0 σ0) ≤ 6 := by rw [eN]; omega
    have hw := nws_R (F := famM 0 σ0) (s := airM σ0) (a := -1) hN hA.2.1.2.2.2 (Or.inl rfl)
    have M := hA.mid hf (ga 0) (fun j => pssC_R hA.2.1.1 j) (fun j hj => by
      unfold pssC
      rw [if_neg (by rw [eN]; omega)]
      exact grA_z hA j hj) hw.2.2
    refine ⟨⟨rfl, M.1, by rw [ho 14 (by decide) (by decide)]; exact h14⟩, ?_⟩
    rintro σ2 ⟨e1, e2⟩
    have hs2 : ∀ d, airM σ2 = stp (famM d σ0) (-1) (airM σ0) := by
      intro d
      rw [e2 d, M.2 d, ga d]
      rfl
    exact ⟨hf.tr e1, hs2, hA.step h14 (hf.tr e1) (Or.inr rfl) hs2⟩
  · have hi6 : i < 6 := by omega
    have hiN : i < (σ0 67 42).toNat := by omega
    have eA : ∀ d, fAmt (famM d σ0) i = σ0 88 i := fun d => tr_in hiN
    have eO : ∀ d, fOdd (famM d σ0) i = σ0 87 i := fun d => tr_in hiN
    have hAm := (hF.2.1 i).2.2.2.2
    rw [eA dF] at hAm
    have e88 : σ (67 + 21) = σ0 88 := hf 88 (by decide)
    have hdR := dn_R (F := famM 0 σ0) hseed i
    have hds := fun d => dn_s (famM d σ0) (σ0 91 15) i
    rw [e88, Int.toNat_natCast, wr1 (by omega) (by omega)]
    refine ⟨fun h2 => ⟨by decide, by decide, by decide, ?_⟩, fun h2 => ⟨6 - (i + 1), by omega, rfl, i + 1, by simp, by omega, rfl, hf, fun d j hj => ?_, ho, fun d => ?_⟩⟩
    · show ∀ σ2 : Hp, σ2 = hp σ 91 15 (iRem (wr (wr (σ 91 15 * 137) + 71)) 1000) → _
      have hR15 : 0 ≤ σ 91 15 ∧ σ 91 15 < 1000 := by rw [hs 0]; exact hdR.2
      have e1 : iRem (wr (wr (σ 91 15 * 137) + 71)) 1000 = (σ 91 15 * 137 + 71) % 1000 := by
        rw [show wr (σ 91 15 * 137) = σ 91 15 * 137 by unfold wr; omega, show wr (σ 91 15 * 137 + 71) = σ 91 15 * 137 + 71 by unfold wr; omega]
        exact iRem_p (b := 1000) (by omega) (by omega) (by omega) (by omega)
      rw [e1]
      rintro σ2 hσ2
      have q15 : σ2 91 15 = (σ 91 15 * 137 + 71) % 1000 := by rw [hσ2, hp_r1]
      have qn : ∀ j, ¬ j = 15 → σ2 91 j = σ 91 j := fun j hj => by rw [hσ2, hp_r2 (fun z => hj z.2)]
      have f2 : Fr af σ0 σ2 := by rw [hσ2]; exact Fr.hp hf (by simp [af])
      have e2 : iRem (σ2 91 15) 100 = (σ 91 15 * 137 + 71) % 1000 % 100 := by rw [q15]; exact iRem_p (b := 100) (by omega) (by omega) (by omega) (by omega)
      have e87 : σ2 (67 + 20) = σ0 87 := f2 87 (by decide)
      have e88' : σ2 (67 + 21) = σ0 88 := f2 88 (by decide)
      have hds' : ∀ d, dn (famM d σ0) (σ0 91 15) (i + 1) = ((if (σ 91 15 * 137 + 71) % 1000 % 100 < σ0 87 i then (dn (famM d σ0) (σ0 91 15) i).1 ||| 2 ^ i else (dn (famM d σ0) (σ0 91 15) i).1), (σ 91 15 * 137 + 71) % 1000) := by
        intro d
        rw [hds d, eA d, eO d, if_neg (by omega), hs d]
      refine ⟨by decide, by decide, ⟨by omega, by omega⟩, ?_⟩
      rw [e87, e88', show σ2 (67 + 24) 15 = σ2 91 15 from rfl, e2]
      refine ⟨fun h3 => ⟨6 - (i + 1), by omega, rfl, i + 1, by simp, by omega, rfl, f2, fun d j hj => ?_, fun j hj h15 => by rw [qn j h15]; exact ho j hj h15, fun d => by rw [q15, hds' d]⟩, fun h3 => ⟨⟨by omega, by omega⟩, ⟨by omega, by omega⟩, by show (0 : Int) ≤ 99; decide, ?_⟩⟩
      · rw [qn j (by omega), hc d j hj]
        unfold nwC
        rw [show (airM σ0).2.2.2.2.1 = σ0 91 15 from rfl, hds' d, if_neg (show ¬ (σ 91 15 * 137 + 71) % 1000 % 100 < σ0 87 i by omega)]
      · rintro r4 σ3 ⟨rfl, rfl⟩
        refine ⟨⟨by omega, by omega⟩, ?_⟩
        have ei2 : σ3 (67 + 24) i = grA (famM 0 σ0) (airM σ0) i := by
          show σ3 91 i = _
          rw [qn i (by omega), hc 0 i hi6]
          unfold nwC
          exact if_neg (dn_hi hseed (Nat.le_refl i))
        have hg := grA_R (F := famM 0 σ0) hA.2.1.1 i
        rw [ei2, wr_id (by omega) (by omega)]
        rintro σ5 rfl
        refine ⟨6 - (i + 1), by omega, rfl, i + 1, by simp, by omega, rfl, Fr.hp f2 (by simp [af]), fun d j hj => ?_, fun j hj h15 => ?_, fun d => ?_⟩
        · show hp σ3 91 i _ 91 j = _
          unfold nwC
          rw [show (airM σ0).2.2.2.2.1 = σ0 91 15 from rfl, hds' d, if_pos (show (σ 91 15 * 137 + 71) % 1000 % 100 < σ0 87 i by omega)]
          by_cases e : j = i
          · rw [e, hp_r1, if_pos, eA d]
            · rfl
            · show bt (((dn (famM d σ0) (σ0 91 15) i).1 ||| 2 ^ i : Nat) : Int) i = true
              rw [bt_n, Nat.testBit_or, Nat.testBit_two_pow_self, Bool.or_true]
          · rw [hp_r2 (fun z => e z.2), qn j (by omega), hc d j hj]
            unfold nwC
            have eb : bt (((dn (famM d σ0) (σ0 91 15) i).1 ||| 2 ^ i : Nat) : Int) j = bt ((dn (famM d σ0) (airM σ0).2.2.2.2.1 i).1 : Nat) j := by
              rw [bt_n, bt_n, Nat.testBit_or, Nat.testBit_two_pow_of_ne (fun z => e z.symm), Bool.or_false]
              rfl
            show _ = if bt (((dn (famM d σ0) (σ0 91 15) i).1 ||| 2 ^ i : Nat) : Int) j = true then _ else _
            rw [eb]
        · show hp σ3 91 i _ 91 j = _
          rw [hp_r2 (fun z => by omega), qn j h15]; exact ho j hj h15
        · show hp σ3 91 i _ 91 15 = _
          rw [hp_r2 (fun z => by omega), q15, hds' d]
    · have h20 : σ0 88 i ≤ 0 := by omega
      rw [hc d j hj]
      unfold nwC
      rw [show (airM σ0).2.2.2.2.1 = σ0 91 15 from rfl, hds d, eA d, if_pos h20]
    · rw [hs d, hds d, eA d, if_pos (show σ0 88 i ≤ 0 by omega)]
def Mo_goNewsDay_I : List AV → Hp → Nat → Nat → List AV → List AV → Hp → Prop := fun as σ0 pc n st ls σ => (match as with
    | [.inr (.inr (.inl (k, 0, 9)))] => (bif Nat.beq pc 6 then (match st, ls with
      | [], [.inr (.inr (.inl (k', 0, 9))), .inl v1] => k = k' ∧ Mo_goNewsDay_I6 k σ0 n v1 σ
      | _, _ => False) else False)
    | _ => False)
def Mo_goNewsDay_ct : Nat → Ct := fun n => match n with
  | 0 => Mo_growAll_cs
  | 1 => Mo_within_cs
  | 2 => Mo_endDay_cs
  | _ => Mo_goNewsDay_cs
set_option maxRecDepth 20000 in
set_option maxHeartbeats 4000000 in
theorem Mo_goNewsDay_met {l : Launch} {D : va_G} {ad : Nat → Nat} {ca : Nat → ClassId} {L : Nat} {fx : Nat → Int} : ax_MC l D ad ca L fx yX9_goNewsDay cX9_goNewsDay 2 none 7 Mo_goNewsDay_cs := by
  refine ax_met (oc := 9) (ct := Mo_goNewsDay_ct) (calls := Mo_goNewsDay_cl) (bs := Mo_goNewsDay_bk) (cut := fun pc => Nat.beq pc 6) (f := 6) (I := Mo_goNewsDay_I) (by decide) rfl rfl Mo_goNewsDay_ck (List.forall_mem_cons.mpr ⟨ax_cwV Mo_growAll_met (by decide) (by decide) rfl (by decide) rfl (ax_m7 110 (by decide +kernel) rfl) Mo_growAll_w rfl Mo_growAll_ds, List.forall_mem_cons.mpr ⟨ax_cwS Mo_within_met (by decide) (by decide) (ax_m7 64 (by decide +kernel) rfl) Mo_within_w rfl Mo_within_ds, List.forall_mem_cons.mpr ⟨ax_cwV Mo_endDay_met (by decide) (by decide) rfl (by decide) rfl (ax_m7 114 (by decide +kernel) rfl) Mo_endDay_w rfl Mo_endDay_ds, fun _ h => absurd h List.not_mem_nil⟩⟩⟩) ?_ ?_
  · intro as σ0 hp hH
    match as, hp with
    | [.inr (.inr (.inl (k, 0, 9)))], hp => exact ⟨rfl, Mo_goNewsDay_p k σ0 hH hp⟩
  · intro as σ0 hp n pc st ls σ hH hI
    match as, hp, hI with
    | [.inr (.inr (.inl (k, 0, 9)))], hp, hI =>
      rcases ax_bifE hI with ⟨hpc, hI⟩ | ⟨-, hI⟩
      · have := Nat.eq_of_beq_eq_true hpc
        subst this
        match st, ls, hI with
        | [], [.inr (.inr (.inl (k', 0, 9))), .inl v1], hI =>
          obtain ⟨rfl, hI⟩ := hI
          exact Mo_goNewsDay_p6 k σ0 hp n v1 σ hH hI
      exact False.elim hI
def Mo_load_pre (k : Nat) (_σ : Hp) : Prop := k = 67
def Mo_load_post (_k : Nat) (σ σ' : Hp) : Prop := Fr [91] σ σ' ∧ ∀ j, j < 16 → σ' 91 j = σ 90 j
def Mo_load_I2 (_k : Nat) (σ0 : Hp) (n : Nat) (v1 : Int) (σ : Hp) : Prop := ∃ i : Nat, v1 = i ∧ i ≤ 16 ∧ n = 16 - i ∧ Fr [91] σ0 σ ∧ ∀ j, j < i → σ 91 j = σ0 90 j
def Mo_load_bk : List (Nat × List Item) := [(0, [(.iconst 0, 1, [], []), (.istore_n 1, 1, [], [])]),
  (2, [(.iload_n 1, 1, [], []), (.bipush 16, 2, [], []), (.if_icmp .ge 21, 3, [26], []), (.aload_n 0, 1, [], []), (.getfield 88, 3, [9, 47, 4, 24, 1, 16], []), (.iload_n 1, 1, [], []), (.aload_n 0, 1, [], []), (.getfield 85, 3, [9, 46, 4, 23, 1, 16], []), (.iload_n 1, 1, [], []), (.iaload, 1, [], []), (.iastore, 1, [], []), (.iinc 1 1, 3, [], []), (.goto (-21), 3, [2], [])]),
  (26, [(.return_, 1, [], [])])]
def Mo_load_cl : List (Instr × Nat) := []
set_option maxRecDepth 20000 in
theorem Mo_load_ck : Mo_load_bk.all (fun b => ax_chB 9 2 cX9_load Mo_load_cl b.1 b.2) = true := by decide +kernel
def Mo_load_cs : Ct := (1, 10, 0, (0, 0), fun as σ => (match as with
    | [.inr (.inr (.inl (k, 0, 9)))] => Mo_load_pre k σ
    | _ => False), fun as σ r σ' => (match as with
    | [.inr (.inr (.inl (k, 0, 9)))] => Mo_load_post k σ σ'
    | _ => False))
theorem Mo_load_w : ∀ w ∈ ([.instanceMethod yX9_load, .selects yX9_load.cls yX9_load yX9_load, .initialized yX9_load.cls, .code yX9_load cX9_load 2 none] : List Cond), w ∈ ax_tb := ax_w4 (ax_m7 88 (by decide +kernel) rfl) (ax_m0 41 (by decide +kernel) rfl) (ax_m1 10 (by decide +kernel) rfl) (ax_m7 89 (by decide +kernel) rfl)
theorem Mo_load_ds : yX9_load.cls ≠ "java/lang/invoke/MethodHandle" ∧ yX9_load.cls ≠ "java/lang/invoke/VarHandle" ∧ (parseMethodDescriptor yX9_load.desc).map (fun d => d.parameters.length) = some 0 := by decide +kernel
def Mo_load_vc : Prop := ∀ (k : Nat) (σ : Hp), ax_H σ → Mo_load_pre k σ →
  ∃ n' : Nat, k = k ∧ Mo_load_I2 k σ n' 0 σ
def Mo_load_vc2 : Prop := ∀ (k : Nat) (σ0 : Hp), Mo_load_pre k σ0 → ∀ (n : Nat) (v1 : Int) (σ : Hp), ax_H σ → Mo_load_I2 k σ0 n v1 σ →
  (16 ≤ v1 →
    Mo_load_post k σ0 σ) ∧
  (¬ (16 ≤ v1) →
    (0 ≤ v1 ∧ v1 < 16) ∧
    (0 ≤ v1 ∧ v1 < 16) ∧
    ∀ σ1 : Hp, σ1 = hp σ (k + 24) v1.toNat (σ (k + 23) v1.toNat) →
    ∃ n' : Nat, n' < n ∧ k = k ∧ Mo_load_I2 k σ0 n' (wr (v1 + 1)) σ1)
theorem Mo_load_p : Mo_load_vc := by
  intro k σ hH hp
  obtain rfl := hp
  exact ⟨16, rfl, 0, rfl, Nat.zero_le _, rfl, Fr.rf, fun j hj => absurd hj (Nat.not_lt_zero j)⟩
theorem Mo_load_p2 : Mo_load_vc2 := by
  intro k σ0 hp n v1 σ hH hI
  obtain rfl := hp
  obtain ⟨i, rfl, hi, rfl, hf, hs⟩ := hI
  refine ⟨fun h => ⟨hf, fun j hj => hs j (by omega)⟩, fun h => ⟨⟨by omega, by omega⟩, ⟨by omega, by omega⟩, ?_⟩⟩
  rintro σ1 rfl
  rw [wr1 (by omega) (by omega), Int.toNat_natCast]
  refine ⟨16 - (i + 1), by omega, rfl, i + 1, by simp, by omega, rfl, Fr.hp hf (by simp), fun j hj => ?_⟩
  show hp σ 91 i (σ 90 i) 91 j = _
  by_cases e : j = i
  · rw [e, hp_r1, hf 90 (by decide)]
  · rw [hp_r2 (fun z => e z.2)]; exact hs j (by omega)
def Mo_load_I : List AV → Hp → Nat → Nat → List AV → List AV → Hp → Prop := fun as σ0 pc n st ls σ => (match as with
    | [.inr (.inr (.inl (k, 0, 9)))] => (bif Nat.beq pc 2 then (match st, ls with
      | [], [.inr (.inr (.inl (k', 0, 9))), .inl v1] => k = k' ∧ Mo_load_I2 k σ0 n v1 σ
      | _, _ => False) else False)
    | _ => False)
def Mo_load_ct : Nat → Ct := fun n => match n with
  | _ => Mo_load_cs
set_option maxRecDepth 20000 in
set_option maxHeartbeats 4000000 in
theorem Mo_load_met {l : Launch} {D : va_G} {ad : Nat → Nat} {ca : Nat → ClassId} {L : Nat} {fx : Nat → Int} : ax_MC l D ad ca L fx yX9_load cX9_load 2 none 1 Mo_load_cs := by
  refine ax_met (oc := 9) (ct := Mo_load_ct) (calls := Mo_load_cl) (bs := Mo_load_bk) (cut := fun pc => Nat.beq pc 2) (f := 4) (I := Mo_load_I) (by decide) rfl rfl Mo_load_ck (fun _ h => absurd h List.not_mem_nil) ?_ ?_
  · intro as σ0 hp hH
    match as, hp with
    | [.inr (.inr (.inl (k, 0, 9)))], hp => exact ⟨rfl, Mo_load_p k σ0 hH hp⟩
  · intro as σ0 hp n pc st ls σ hH hI
    match as, hp, hI with
    | [.inr (.inr (.inl (k, 0, 9)))], hp, hI =>
      rcases ax_bifE hI with ⟨hpc, hI⟩ | ⟨-, hI⟩
      · have := Nat.eq_of_beq_eq_true hpc
        subst this
        match st, ls, hI with
        | [], [.inr (.inr (.inl (k', 0, 9))), .inl v1], hI =>
          obtain ⟨rfl, hI⟩ := hI
          exact Mo_load_p2 k σ0 hp n v1 σ hH hI
      exact False.elim hI
def Mo_keepAir_pre (k : Nat) (_σ : Hp) : Prop := k = 67
def Mo_keepAir_post (_k : Nat) (σ σ' : Hp) : Prop := Fr [90] σ σ' ∧ ∀ j, j < 16 → σ' 90 j = σ 91 j
def Mo_keepAir_I2 (_k : Nat) (σ0 : Hp) (n : Nat) (v1 : Int) (σ : Hp) : Prop := ∃ i : Nat, v1 = i ∧ i ≤ 16 ∧ n = 16 - i ∧ Fr [90] σ0 σ ∧ ∀ j, j < i → σ 90 j = σ0 91 j
def Mo_keepAir_bk : List (Nat × List Item) := [(0, [(.iconst 0, 1, [], []), (.istore_n 1, 1, [], [])]),
  (2, [(.iload_n 1, 1, [], []), (.bipush 16, 2, [], []), (.if_icmp .ge 21, 3, [26], []), (.aload_n 0, 1, [], []), (.getfield 85, 3, [9, 46, 4, 23, 1, 16], []), (.iload_n 1, 1, [], []), (.aload_n 0, 1, [], []), (.getfield 88, 3, [9, 47, 4, 24, 1, 16], []), (.iload_n 1, 1, [], []), (.iaload, 1, [], []), (.iastore, 1, [], []), (.iinc 1 1, 3, [], []), (.goto (-21), 3, [2], [])]),
  (26, [(.return_, 1, [], [])])]
def Mo_keepAir_cl : List (Instr × Nat) := []
set_option maxRecDepth 20000 in
theorem Mo_keepAir_ck : Mo_keepAir_bk.all (fun b => ax_chB 9 2 cX9_keepAir Mo_keepAir_cl b.1 b.2) = true := by decide +kernel
def Mo_keepAir_cs : Ct := (1, 10, 0, (0, 0), fun as σ => (match as with
    | [.inr (.inr (.inl (k, 0, 9)))] => Mo_keepAir_pre k σ
    | _ => False), fun as σ r σ' => (match as with
    | [.inr (.inr (.inl (k, 0, 9)))] => Mo_keepAir_post k σ σ'
    | _ => False))
theorem Mo_keepAir_w : ∀ w ∈ ([.instanceMethod yX9_keepAir, .selects yX9_keepAir.cls yX9_keepAir yX9_keepAir, .initialized yX9_keepAir.cls, .code yX9_keepAir cX9_keepAir 2 none] : List Cond), w ∈ ax_tb := ax_w4 (ax_m7 69 (by decide +kernel) rfl) (ax_m0 39 (by decide +kernel) rfl) (ax_m1 10 (by decide +kernel) rfl) (ax_m7 70 (by decide +kernel) rfl)
theorem Mo_keepAir_ds : yX9_keepAir.cls ≠ "java/lang/invoke/MethodHandle" ∧ yX9_keepAir.cls ≠ "java/lang/invoke/VarHandle" ∧ (parseMethodDescriptor yX9_keepAir.desc).map (fun d => d.parameters.length) = some 0 := by decide +kernel
def Mo_keepAir_vc : Prop := ∀ (k : Nat) (σ : Hp), ax_H σ → Mo_keepAir_pre k σ →
  ∃ n' : Nat, k = k ∧ Mo_keepAir_I2 k σ n' 0 σ
def Mo_keepAir_vc2 : Prop := ∀ (k : Nat) (σ0 : Hp), Mo_keepAir_pre k σ0 → ∀ (n : Nat) (v1 : Int) (σ : Hp), ax_H σ → Mo_keepAir_I2 k σ0 n v1 σ →
  (16 ≤ v1 →
    Mo_keepAir_post k σ0 σ) ∧
  (¬ (16 ≤ v1) →
    (0 ≤ v1 ∧ v1 < 16) ∧
    (0 ≤ v1 ∧ v1 < 16) ∧
    ∀ σ1 : Hp, σ1 = hp σ (k + 23) v1.toNat (σ (k + 24) v1.toNat) →
    ∃ n' : Nat, n' < n ∧ k = k ∧ Mo_keepAir_I2 k σ0 n' (wr (v1 + 1)) σ1)
theorem Mo_keepAir_p : Mo_keepAir_vc := by
  intro k σ hH hp
  obtain rfl := hp
  exact ⟨16, rfl, 0, rfl, Nat.zero_le _, rfl, Fr.rf, fun j hj => absurd hj (Nat.not_lt_zero j)⟩
theorem Mo_keepAir_p2 : Mo_keepAir_vc2 := by
  intro k σ0 hp n v1 σ hH hI
  obtain rfl := hp
  obtain ⟨i, rfl, hi, rfl, hf, hs⟩ := hI
  refine ⟨fun h => ⟨hf, fun j hj => hs j (by omega)⟩, fun h => ⟨⟨by omega, by omega⟩, ⟨by omega, by omega⟩, ?_⟩⟩
  rintro σ1 rfl
  rw [wr1 (by omega) (by omega), Int.toNat_natCast]
  refine ⟨16 - (i + 1), by omega, rfl, i + 1, by simp, by omega, rfl, Fr.hp hf (by simp), fun j hj => ?_⟩
  show hp σ 90 i (σ 91 i) 90 j = _
  by_cases e : j = i
  · rw [e, hp_r1, hf 91 (by decide)]
  · rw [hp_r2 (fun z => e z.2)]; exact hs j (by omega)
def Mo_keepAir_I : List AV → Hp → Nat → Nat → List AV → List AV → Hp → Prop := fun as σ0 pc n st ls σ => (match as with
    | [.inr (.inr (.inl (k, 0, 9)))] => (bif Nat.beq pc 2 then (match st, ls with
      | [], [.inr (.inr (.inl (k', 0, 9))), .inl v1] => k = k' ∧ Mo_keepAir_I2 k σ0 n v1 σ
      | _, _ => False) else False)
    | _ => False)
def Mo_keepAir_ct : Nat → Ct := fun n => match n with
  | _ => Mo_keepAir_cs
set_option maxRecDepth 20000 in
set_option maxHeartbeats 4000000 in
theorem Mo_keepAir_met {l : Launch} {D : va_G} {ad : Nat → Nat} {ca : Nat → ClassId} {L : Nat} {fx : Nat → Int} : ax_MC l D ad ca L fx yX9_keepAir cX9_keepAir 2 none 1 Mo_keepAir_cs := by
  refine ax_met (oc := 9) (ct := Mo_keepAir_ct) (calls := Mo_keepAir_cl) (bs := Mo_keepAir_bk) (cut := fun pc => Nat.beq pc 2) (f := 4) (I := Mo_keepAir_I) (by decide) rfl rfl Mo_keepAir_ck (fun _ h => absurd h List.not_mem_nil) ?_ ?_
  · intro as σ0 hp hH
    match as, hp with
    | [.inr (.inr (.inl (k, 0, 9)))], hp => exact ⟨rfl, Mo_keepAir_p k σ0 hH hp⟩
  · intro as σ0 hp n pc st ls σ hH hI
    match as, hp, hI with
    | [.inr (.inr (.inl (k, 0, 9)))], hp, hI =>
      rcases ax_bifE hI with ⟨hpc, hI⟩ | ⟨-, hI⟩
      · have := Nat.eq_of_beq_eq_true hpc
        subst this
        match st, ls, hI with
        | [], [.inr (.inr (.inl (k', 0, 9))), .inl v1], hI =>
          obtain ⟨rfl, hI⟩ := hI
          exact Mo_keepAir_p2 k σ0 hp n v1 σ hH hI
      exact False.elim hI
def Mo_begin_pre (k : Nat) (σ : Hp) : Prop := k = 67 ∧ 0 ≤ σ 67 42 ∧ σ 67 42 ≤ 6
def Mo_begin_post (_k : Nat) (σ σ' : Hp) : Prop := Fr [91] σ σ' ∧ ∀ j, j < 16 → σ' 91 j = if j < (σ 67 42).toNat then σ 86 j else if 6 ≤ j ∧ j < 6 + (σ 67 42).toNat then σ 89 (j - 6) else if j = 12 then -1 else 0
def Mo_begin_I2 (_k : Nat) (σ0 : Hp) (n : Nat) (v1 : Int) (σ : Hp) : Prop := ∃ i : Nat, v1 = i ∧ i ≤ 16 ∧ n = 30 - i ∧ Fr [91] σ0 σ ∧ ∀ j, j < i → σ 91 j = 0
def Mo_begin_I23 (_k : Nat) (σ0 : Hp) (n : Nat) (v1 : Int) (σ : Hp) : Prop := ∃ i : Nat, v1 = i ∧ i ≤ (σ0 67 42).toNat ∧ n = 10 - i ∧ Fr [91] σ0 σ ∧ ∀ j, j < 16 → σ 91 j = if j < i then σ0 86 j else if 6 ≤ j ∧ j < 6 + i then σ0 89 (j - 6) else 0
def Mo_begin_bk : List (Nat × List Item) := [(0, [(.iconst 0, 1, [], []), (.istore_n 1, 1, [], [])]),
  (2, [(.iload_n 1, 1, [], []), (.bipush 16, 2, [], []), (.if_icmp .ge 16, 3, [21], []), (.aload_n 0, 1, [], []), (.getfield 88, 3, [9, 47, 4, 24, 1, 16], []), (.iload_n 1, 1, [], []), (.iconst 0, 1, [], []), (.iastore, 1, [], []), (.iinc 1 1, 3, [], []), (.goto (-16), 3, [2], [])]),
  (21, [(.iconst 0, 1, [], []), (.istore_n 1, 1, [], [])]),
  (23, [(.iload_n 1, 1, [], []), (.aload_n 0, 1, [], []), (.getfield 304, 3, [9, 42, 0, 0, 0, 0], []), (.if_icmp .ge 36, 3, [64], []), (.aload_n 0, 1, [], []), (.getfield 88, 3, [9, 47, 4, 24, 1, 16], []), (.iload_n 1, 1, [], []), (.aload_n 0, 1, [], []), (.getfield 70, 3, [9, 33, 4, 19, 1, 6], []), (.iload_n 1, 1, [], []), (.iaload, 1, [], []), (.iastore, 1, [], []), (.aload_n 0, 1, [], []), (.getfield 88, 3, [9, 47, 4, 24, 1, 16], []), (.bipush 6, 2, [], []), (.iload_n 1, 1, [], []), (.iadd, 1, [], []), (.aload_n 0, 1, [], []), (.getfield 79, 3, [9, 36, 4, 22, 1, 6], []), (.iload_n 1, 1, [], []), (.iaload, 1, [], []), (.iastore, 1, [], []), (.iinc 1 1, 3, [], []), (.goto (-38), 3, [23], [])]),
  (64, [(.aload_n 0, 1, [], []), (.getfield 88, 3, [9, 47, 4, 24, 1, 16], []), (.bipush 12, 2, [], []), (.iconst (-1), 1, [], []), (.iastore, 1, [], []), (.return_, 1, [], [])])]
def Mo_begin_cl : List (Instr × Nat) := []
set_option maxRecDepth 20000 in
theorem Mo_begin_ck : Mo_begin_bk.all (fun b => ax_chB 9 2 cX9_begin Mo_begin_cl b.1 b.2) = true := by decide +kernel
def Mo_begin_cs : Ct := (1, 10, 0, (0, 0), fun as σ => (match as with
    | [.inr (.inr (.inl (k, 0, 9)))] => Mo_begin_pre k σ
    | _ => False), fun as σ r σ' => (match as with
    | [.inr (.inr (.inl (k, 0, 9)))] => Mo_begin_post k σ σ'
    | _ => False))
theorem Mo_begin_w : ∀ w ∈ ([.instanceMethod yX9_begin, .selects yX9_begin.cls yX9_begin yX9_begin, .initialized yX9_begin.cls, .code yX9_begin cX9_begin 2 none] : List Cond), w ∈ ax_tb := ax_w4 (ax_m7 40 (by decide +kernel) rfl) (ax_m0 34 (by decide +kernel) rfl) (ax_m1 10 (by decide +kernel) rfl) (ax_m7 41 (by decide +kernel) rfl)
theorem Mo_begin_ds : yX9_begin.cls ≠ "java/lang/invoke/MethodHandle" ∧ yX9_begin.cls ≠ "java/lang/invoke/VarHandle" ∧ (parseMethodDescriptor yX9_begin.desc).map (fun d => d.parameters.length) = some 0 := by decide +kernel
def Mo_begin_vc : Prop := ∀ (k : Nat) (σ : Hp), ax_H σ → Mo_begin_pre k σ →
  ∃ n' : Nat, k = k ∧ Mo_begin_I2 k σ n' 0 σ
def Mo_begin_vc2 : Prop := ∀ (k : Nat) (σ0 : Hp), Mo_begin_pre k σ0 → ∀ (n : Nat) (v1 : Int) (σ : Hp), ax_H σ → Mo_begin_I2 k σ0 n v1 σ →
  (16 ≤ v1 →
    ∃ n' : Nat, n' < n ∧ k = k ∧ Mo_begin_I23 k σ0 n' 0 σ) ∧
  (¬ (16 ≤ v1) →
    (0 ≤ v1 ∧ v1 < 16) ∧
    ∀ σ1 : Hp, σ1 = hp σ (k + 24) v1.toNat 0 →
    ∃ n' : Nat, n' < n ∧ k = k ∧ Mo_begin_I2 k σ0 n' (wr (v1 + 1)) σ1)
def Mo_begin_vc23 : Prop := ∀ (k : Nat) (σ0 : Hp), Mo_begin_pre k σ0 → ∀ (n : Nat) (v1 : Int) (σ : Hp), ax_H σ → Mo_begin_I23 k σ0 n v1 σ →
  (σ k 42 ≤ v1 →
    (0 ≤ (12 : Int) ∧ (12 : Int) < 16) ∧
    ∀ σ1 : Hp, σ1 = hp σ (k + 24) 12 (-1) →
    Mo_begin_post k σ0 σ1) ∧
  (¬ (σ k 42 ≤ v1) →
    (0 ≤ v1 ∧ v1 < 6) ∧
    (0 ≤ v1 ∧ v1 < 16) ∧
    ∀ σ2 : Hp, σ2 = hp σ (k + 24) v1.toNat (σ (k + 19) v1.toNat) →
    (0 ≤ v1 ∧ v1 < 6) ∧
    (0 ≤ wr (6 + v1) ∧ wr (6 + v1) < 16) ∧
    ∀ σ3 : Hp, σ3 = hp σ2 (k + 24) (wr (6 + v1)).toNat (σ2 (k + 22) v1.toNat) →
    ∃ n' : Nat, n' < n ∧ k = k ∧ Mo_begin_I23 k σ0 n' (wr (v1 + 1)) σ3)
theorem Mo_begin_p : Mo_begin_vc := by
  intro k σ hH hp
  obtain ⟨rfl, hn⟩ := hp
  exact ⟨30, rfl, 0, rfl, Nat.zero_le _, rfl, Fr.rf, fun j hj => absurd hj (Nat.not_lt_zero j)⟩
theorem Mo_begin_p2 : Mo_begin_vc2 := by
  intro k σ0 hp n v1 σ hH hI
  obtain ⟨rfl, hn⟩ := hp
  obtain ⟨i, rfl, hi, rfl, hf, hs⟩ := hI
  refine ⟨fun h => ⟨10, by omega, rfl, 0, rfl, Nat.zero_le _, rfl, hf, fun j hj => ?_⟩, fun h => ⟨⟨by omega, by omega⟩, ?_⟩⟩
  · rw [hs j (by omega), if_neg (by omega), if_neg (by omega)]
  · rintro σ1 rfl
    rw [wr1 (by omega) (by omega), Int.toNat_natCast]
    refine ⟨30 - (i + 1), by omega, rfl, i + 1, by simp, by omega, rfl, Fr.hp hf (by simp), fun j hj => ?_⟩
    show hp σ 91 i 0 91 j = _
    by_cases e : j = i
    · rw [e, hp_r1]
    · rw [hp_r2 (fun z => e z.2)]; exact hs j (by omega)
theorem Mo_begin_p23 : Mo_begin_vc23 := by
  intro k σ0 hp n v1 σ hH hI
  obtain ⟨rfl, hn⟩ := hp
  obtain ⟨i, rfl, hi, rfl, hf, hs⟩ := hI
  rw [hf 67 (by decide)]
  refine ⟨fun h => ⟨by decide, ?_⟩, fun h => ⟨⟨by omega, by omega⟩, ⟨by omega, by omega⟩, ?_⟩⟩
  · rintro σ1 rfl
    have ei : i = (σ0 67 42).toNat := by omega
    refine ⟨Fr.hp hf (by simp), fun j hj => ?_⟩
    show hp σ 91 12 (-1) 91 j = _
    by_cases e : j = 12
    · rw [e, hp_r1, if_neg (by omega), if_neg (by omega), if_pos rfl]
    · rw [hp_r2 (fun z => e z.2), hs j hj, ei, if_neg e]
  · intro σ2 hσ2
    have r2 : ∀ j, σ2 91 j = if j = i then σ0 86 i else σ 91 j := by
      intro j
      rw [hσ2, Int.toNat_natCast]
      show hp σ 91 i (σ 86 i) 91 j = _
      by_cases e : j = i
      · rw [e, hp_r1, if_pos rfl, hf 86 (by decide)]
      · rw [hp_r2 (fun z => e z.2), if_neg e]
    have f2 : Fr [91] σ0 σ2 := by rw [hσ2]; exact Fr.hp hf (by simp)
    rw [wr_id (by omega) (by omega)]
    refine ⟨⟨by omega, by omega⟩, ⟨by omega, by omega⟩, ?_⟩
    rw [wr1 (by omega) (by omega), Int.toNat_natCast, show ((6 : Int) + (i : Int)).toNat = 6 + i by omega]
    rintro σ3 rfl
    refine ⟨10 - (i + 1), by omega, rfl, i + 1, by simp, by omega, rfl, Fr.hp f2 (by simp), fun j hj => ?_⟩
    show hp σ2 91 (6 + i) (σ2 89 i) 91 j = _
    by_cases e : j = 6 + i
    · rw [e, hp_r1, f2 89 (by decide), if_neg (by omega), if_pos (by omega), show 6 + i - 6 = i by omega]
    · rw [hp_r2 (fun z => e z.2), r2 j]
      by_cases e2 : j = i
      · rw [if_pos e2, e2, if_pos (by omega)]
      · rw [if_neg e2, hs j hj]
        by_cases e3 : j < i
        · rw [if_pos e3, if_pos (by omega)]
        · rw [if_neg e3, if_neg (show ¬ j < i + 1 by omega)]
          by_cases e4 : 6 ≤ j ∧ j < 6 + i
          · rw [if_pos e4, if_pos (by omega)]
          · rw [if_neg e4, if_neg (by omega)]
def Mo_begin_I : List AV → Hp → Nat → Nat → List AV → List AV → Hp → Prop := fun as σ0 pc n st ls σ => (match as with
    | [.inr (.inr (.inl (k, 0, 9)))] => (bif Nat.beq pc 2 then (match st, ls with
      | [], [.inr (.inr (.inl (k', 0, 9))), .inl v1] => k = k' ∧ Mo_begin_I2 k σ0 n v1 σ
      | _, _ => False) else (bif Nat.beq pc 23 then (match st, ls with
      | [], [.inr (.inr (.inl (k', 0, 9))), .inl v1] => k = k' ∧ Mo_begin_I23 k σ0 n v1 σ
      | _, _ => False) else False))
    | _ => False)
def Mo_begin_ct : Nat → Ct := fun n => match n with
  | _ => Mo_begin_cs
set_option maxRecDepth 20000 in
set_option maxHeartbeats 4000000 in
theorem Mo_begin_met {l : Launch} {D : va_G} {ad : Nat → Nat} {ca : Nat → ClassId} {L : Nat} {fx : Nat → Int} : ax_MC l D ad ca L fx yX9_begin cX9_begin 2 none 1 Mo_begin_cs := by
  refine ax_met (oc := 9) (ct := Mo_begin_ct) (calls := Mo_begin_cl) (bs := Mo_begin_bk) (cut := fun pc => Nat.beq pc 2 || Nat.beq pc 23) (f := 6) (I := Mo_begin_I) (by decide) rfl rfl Mo_begin_ck (fun _ h => absurd h List.not_mem_nil) ?_ ?_
  · intro as σ0 hp hH
    match as, hp with
    | [.inr (.inr (.inl (k, 0, 9)))], hp => exact ⟨rfl, Mo_begin_p k σ0 hH hp⟩
  · intro as σ0 hp n pc st ls σ hH hI
    match as, hp, hI with
    | [.inr (.inr (.inl (k, 0, 9)))], hp, hI =>
      rcases ax_bifE hI with ⟨hpc, hI⟩ | ⟨-, hI⟩
      · have := Nat.eq_of_beq_eq_true hpc
        subst this
        match st, ls, hI with
        | [], [.inr (.inr (.inl (k', 0, 9))), .inl v1], hI =>
          obtain ⟨rfl, hI⟩ := hI
          exact Mo_begin_p2 k σ0 hp n v1 σ hH hI
      rcases ax_bifE hI with ⟨hpc, hI⟩ | ⟨-, hI⟩
      · have := Nat.eq_of_beq_eq_true hpc
        subst this
        match st, ls, hI with
        | [], [.inr (.inr (.inl (k', 0, 9))), .inl v1], hI =>
          obtain ⟨rfl, hI⟩ := hI
          exact Mo_begin_p23 k σ0 hp n v1 σ hH hI
      exact False.elim hI
/-- now is a state -/
def NP (σ : Hp) : Prop := MF σ ∧ OKs 999 (nowM σ) ∧ VN (σ 67 42).toNat (nowM σ)
theorem NP.fr {σ σ' : Hp} {cs : List Nat} (h : NP σ) (hf : Fr cs σ σ') (hc : ∀ c ∈ cs, 76 ≤ c ∧ c ≤ 84 ∨ 91 ≤ c) : NP σ' ∧ (∀ d, famM d σ' = famM d σ) ∧ nowM σ' = nowM σ := by
  have k : ∀ c, c < 76 ∨ (85 ≤ c ∧ c ≤ 90) → σ' c = σ c := fun c h1 => hf c (fun z => by have := hc c z; omega)
  have e67 : σ' 67 = σ 67 := k 67 (by decide)
  have K := h.1.keep (σ' := σ') (by rw [e67]) (by rw [e67]) (by rw [e67]) (fun c hc => k c (by omega))
  have en : nowM σ' = nowM σ := by show stR (σ' 90) 0 = _; rw [k 90 (by omega)]
  exact ⟨⟨K.1, by rw [en]; exact h.2.1, by rw [en, e67]; exact h.2.2⟩, K.2, en⟩
theorem NP.load {σ σ1 : Hp} (h : NP σ) (g : Mo_load_post 67 σ σ1) : AP σ1 ∧ (∀ d, famM d σ1 = famM d σ) ∧ airM σ1 = nowM σ := by
  obtain ⟨g1, g2⟩ := g
  have e67 : σ1 67 = σ 67 := g1 67 (by decide)
  have K := h.1.keep (σ' := σ1) (by rw [e67]) (by rw [e67]) (by rw [e67]) (fun c hc => g1 c (by simp; omega))
  have ea : airM σ1 = nowM σ := stR_eq g2
  exact ⟨⟨K.1, by rw [ea]; exact h.2.1.mono (by decide), by rw [ea, e67]; exact h.2.2⟩, K.2, ea⟩
def Mo_goFar_pre (k : Nat) (a : Int) (σ : Hp) : Prop := k = 67 ∧ 0 ≤ a ∧ a ≤ 60 ∧ NP σ
def Mo_goFar_post (_k : Nat) (a : Int) (σ σ' : Hp) : Prop := Fr af σ σ' ∧ (∀ d, airM σ' = itr (famM d σ) 0 (nowM σ) a.toNat) ∧ AP σ'
def Mo_goFar_I6 (_k : Nat) (a : Int) (σ0 : Hp) (n : Nat) (v2 : Int) (σ : Hp) : Prop := ∃ i : Nat, v2 = i ∧ (i : Int) ≤ a ∧ n = 60 - i ∧ Fr af σ0 σ ∧ (∀ d, airM σ = itr (famM d σ0) 0 (nowM σ0) i) ∧ AP σ
def Mo_goFar_bk : List (Nat × List Item) := [(0, [(.aload_n 0, 1, [], []), (.invokevirtual 401, 3, [0], []), (.iconst 0, 1, [], []), (.istore_n 2, 1, [], [])]),
  (6, [(.iload_n 2, 1, [], []), (.iload_n 1, 1, [], []), (.if_icmp .ge 13, 3, [21], []), (.aload_n 0, 1, [], []), (.invokevirtual 435, 3, [1], []), (.iinc 2 1, 3, [], []), (.goto (-12), 3, [6], [])]),
  (21, [(.return_, 1, [], [])])]
def Mo_goFar_cl : List (Instr × Nat) := [(.invokevirtual 401, 0), (.invokevirtual 435, 1)]
set_option maxRecDepth 20000 in
theorem Mo_goFar_ck : Mo_goFar_bk.all (fun b => ax_chB 9 3 cX9_goFar Mo_goFar_cl b.1 b.2) = true := by decide +kernel
def Mo_goFar_cs : Ct := (2, 10, 0, (0, 0), fun as σ => (match as with
    | [.inr (.inr (.inl (k, 0, 9))), .inl a1] => Mo_goFar_pre k a1 σ
    | _ => False), fun as σ r σ' => (match as with
    | [.inr (.inr (.inl (k, 0, 9))), .inl a1] => Mo_goFar_post k a1 σ σ'
    | _ => False))
theorem Mo_goFar_w : ∀ w ∈ ([.instanceMethod yX9_goFar, .selects yX9_goFar.cls yX9_goFar yX9_goFar, .initialized yX9_goFar.cls, .code yX9_goFar cX9_goFar 3 none] : List Cond), w ∈ ax_tb := ax_w4 (ax_m7 187 (by decide +kernel) rfl) (ax_m0 53 (by decide +kernel) rfl) (ax_m1 10 (by decide +kernel) rfl) (ax_m7 188 (by decide +kernel) rfl)
theorem Mo_goFar_ds : yX9_goFar.cls ≠ "java/lang/invoke/MethodHandle" ∧ yX9_goFar.cls ≠ "java/lang/invoke/VarHandle" ∧ (parseMethodDescriptor yX9_goFar.desc).map (fun d => d.parameters.length) = some 1 := by decide +kernel
def Mo_goFar_vc : Prop := ∀ (k : Nat) (a1 : Int) (σ : Hp), ax_H σ → Mo_goFar_pre k a1 σ →
  Mo_load_pre k σ ∧
  ∀ σ1 : Hp, Mo_load_post k σ σ1 →
  ∃ n' : Nat, k = k ∧ a1 = a1 ∧ Mo_goFar_I6 k a1 σ n' 0 σ1
def Mo_goFar_vc6 : Prop := ∀ (k : Nat) (a1 : Int) (σ0 : Hp), Mo_goFar_pre k a1 σ0 → ∀ (n : Nat) (v2 : Int) (σ : Hp), ax_H σ → Mo_goFar_I6 k a1 σ0 n v2 σ →
  (a1 ≤ v2 →
    Mo_goFar_post k a1 σ0 σ) ∧
  (¬ (a1 ≤ v2) →
    Mo_goDay_pre k σ ∧
    ∀ σ1 : Hp, Mo_goDay_post k σ σ1 →
    ∃ n' : Nat, n' < n ∧ k = k ∧ a1 = a1 ∧ Mo_goFar_I6 k a1 σ0 n' (wr (v2 + 1)) σ1)
theorem Mo_goFar_p : Mo_goFar_vc := by
  intro k a σ hH hp
  obtain ⟨rfl, a0, a6, hN⟩ := hp
  refine ⟨rfl, ?_⟩
  intro σ1 g
  have L := hN.load g
  exact ⟨60, rfl, rfl, 0, rfl, a0, rfl, g.1.mono (by simp [af]), fun d => L.2.2, L.1⟩
/-- a day count below what a row can hold -/
theorem itr_day {F : Fam} {a : Int} {s : Sta} (i : Nat) : (itr F a s i).2.2.2.1 = s.2.2.2.1 + i := by
  induction i with
  | zero => exact (Int.add_zero _).symm
  | succ i ih =>
    rw [itr_s]
    show (itr F a s i).2.2.2.1 + 1 = _
    rw [ih]
    omega
theorem NP.fam {σ0 σ : Hp} (h : NP σ0) (hf : Fr af σ0 σ) : ∀ d, famM d σ = famM d σ0 := (h.fr hf (by simp [af])).2.1
theorem NP.gone {σ0 σ : Hp} {i : Nat} {a : Int} (h : NP σ0) (hi : i ≤ 1000) (ha : ∀ d, airM σ = itr (famM d σ0) a (nowM σ0) i) : σ 91 14 < 100000 := by
  have e : σ 91 14 = (nowM σ0).2.2.2.1 + i := by
    have := congrArg (fun s : Sta => s.2.2.2.1) (ha 0)
    have e2 : σ 91 14 = (itr (famM 0 σ0) a (nowM σ0) i).2.2.2.1 := this
    rw [e2, itr_day]
  have := h.2.1.2.2.1
  omega
theorem Mo_goFar_p6 : Mo_goFar_vc6 := by
  intro k a σ0 hp n v2 σ hH hI
  obtain ⟨rfl, a0, a6, hN⟩ := hp
  obtain ⟨i, rfl, hi, rfl, hf, hs, hA⟩ := hI
  refine ⟨fun h => ⟨hf, fun d => by rw [hs d, show a.toNat = i by omega], hA⟩, fun h => ⟨⟨rfl, hA, hN.gone (by omega) hs⟩, ?_⟩⟩
  rintro σ1 ⟨g1, g2, g3⟩
  rw [wr1 (by omega) (by omega)]
  exact ⟨60 - (i + 1), by omega, rfl, rfl, i + 1, by simp, by omega, rfl, hf.tr g1, fun d => by rw [g2 d, hN.fam hf d, hs d]; rfl, g3⟩
def Mo_goFar_I : List AV → Hp → Nat → Nat → List AV → List AV → Hp → Prop := fun as σ0 pc n st ls σ => (match as with
    | [.inr (.inr (.inl (k, 0, 9))), .inl a1] => (bif Nat.beq pc 6 then (match st, ls with
      | [], [.inr (.inr (.inl (k', 0, 9))), .inl a1', .inl v2] => k = k' ∧ a1 = a1' ∧ Mo_goFar_I6 k a1 σ0 n v2 σ
      | _, _ => False) else False)
    | _ => False)
def Mo_goFar_ct : Nat → Ct := fun n => match n with
  | 0 => Mo_load_cs
  | 1 => Mo_goDay_cs
  | _ => Mo_goFar_cs
set_option maxRecDepth 20000 in
set_option maxHeartbeats 4000000 in
theorem Mo_goFar_met {l : Launch} {D : va_G} {ad : Nat → Nat} {ca : Nat → ClassId} {L : Nat} {fx : Nat → Int} : ax_MC l D ad ca L fx yX9_goFar cX9_goFar 3 none 8 Mo_goFar_cs := by
  refine ax_met (oc := 9) (ct := Mo_goFar_ct) (calls := Mo_goFar_cl) (bs := Mo_goFar_bk) (cut := fun pc => Nat.beq pc 6) (f := 4) (I := Mo_goFar_I) (by decide) rfl rfl Mo_goFar_ck (List.forall_mem_cons.mpr ⟨ax_cwV Mo_load_met (by decide) (by decide) rfl (by decide) rfl (ax_m7 86 (by decide +kernel) rfl) Mo_load_w rfl Mo_load_ds, List.forall_mem_cons.mpr ⟨ax_cwV Mo_goDay_met (by decide) (by decide) rfl (by decide) rfl (ax_m7 189 (by decide +kernel) rfl) Mo_goDay_w rfl Mo_goDay_ds, fun _ h => absurd h List.not_mem_nil⟩⟩) ?_ ?_
  · intro as σ0 hp hH
    match as, hp with
    | [.inr (.inr (.inl (k, 0, 9))), .inl a1], hp => exact ⟨rfl, Mo_goFar_p k a1 σ0 hH hp⟩
  · intro as σ0 hp n pc st ls σ hH hI
    match as, hp, hI with
    | [.inr (.inr (.inl (k, 0, 9))), .inl a1], hp, hI =>
      rcases ax_bifE hI with ⟨hpc, hI⟩ | ⟨-, hI⟩
      · have := Nat.eq_of_beq_eq_true hpc
        subst this
        match st, ls, hI with
        | [], [.inr (.inr (.inl (k', 0, 9))), .inl a1', .inl v2], hI =>
          obtain ⟨rfl, rfl, hI⟩ := hI
          exact Mo_goFar_p6 k a1 σ0 hp n v2 σ hH hI
      exact False.elim hI
