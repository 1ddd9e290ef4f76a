-- THE READER: names, knows, formulas
theorem Lst_eq {P Q : Nat → Prop} {n : Nat} {r : Int} (h : Lst P n r) (e : ∀ i, i < n → (P i ↔ Q i)) : Lst Q n r := by
  rcases h with ⟨i, h1, h2, h3, h4⟩ | ⟨h1, h2⟩
  · exact Or.inl ⟨i, h1, h2, (e i h1).mp h3, fun j hj z => h4 j hj ((e j (by omega)).mpr z)⟩
  · exact Or.inr ⟨h1, fun j hj z => h2 j hj ((e j hj).mpr z)⟩
theorem DX.n {σ : Hp} {f : Nat} (h : DX σ f) : 0 ≤ σ f 9 ∧ σ f 9 ≤ 6 ∧ pN (psX σ f) = (σ f 9).toNat := by
  have h1 := h.1.1.1
  have h2 := h.2.1.1
  have h3 : pN (psX σ f) = (σ f 9).toNat := rfl
  omega
/-- what findPerson answers -/
theorem find_X {σ : Hp} {f : Nat} {B : Tp} {p : Nat} {r : Int} (hR : RS σ B p) (k : tK B p = 1) (h : Lst (fun i => σ (f + 1) i = σ 1 7) (σ f 9).toNat r) : r = fI (pNm (psX σ f)) (tV B p) (pN (psX σ f)) := by
  rw [hR.2.2.2.2.2.2.1 k] at h
  refine Lst.uniq (Lst_eq h (fun i hi => ?_)) (fI_L _ _ _)
  show σ (f + 1) i = tV B p ↔ tr (σ f 9).toNat (σ (f + 1)) i = tV B p
  rw [tr_in hi]
def Rd_readKnownName_pre (k f : Nat) (σ : Hp) : Prop := k = 1 ∧ FO f ∧ DX σ f ∧ ∃ B p, RS σ B p
def Rd_readKnownName_post (_k f : Nat) (σ : Hp) (r : Int) (σ' : Hp) : Prop := ∀ B p, RS σ B p → match fnO B p (psX σ f) with
  | .inl x => r = -1 ∧ Fl σ σ' B x.1 x.2
  | .inr x => r = (x : Nat) ∧ σ' = σ
def Rd_readKnownName_bk : List (Nat × List Item) := [(0, [(.aload_n 0, 1, [], []), (.invokevirtual 95, 3, [0], []), (.ifCond .ne 10, 3, [14], []), (.aload_n 0, 1, [], []), (.invokevirtual 56, 3, [1], []), (.pop, 1, [], []), (.iconst (-1), 1, [], []), (.ireturn, 1, [], [])]),
  (14, [(.aload_n 0, 1, [], []), (.aload_n 1, 1, [], []), (.invokevirtual 98, 3, [2], []), (.istore_n 2, 1, [], []), (.iload_n 2, 1, [], []), (.iconst (-1), 1, [], []), (.if_icmp .ne 9, 3, [31], []), (.aload_n 0, 1, [], []), (.iconst 5, 1, [], []), (.invokevirtual 102, 3, [3], []), (.pop, 1, [], [])]),
  (31, [(.iload_n 2, 1, [], []), (.ireturn, 1, [], [])])]
def Rd_readKnownName_cl : List (Instr × Nat) := [(.invokevirtual 95, 0), (.invokevirtual 56, 1), (.invokevirtual 98, 2), (.invokevirtual 102, 3)]
set_option maxRecDepth 20000 in
theorem Rd_readKnownName_ck : Rd_readKnownName_bk.all (fun b => ax_chB 5 3 cX5_readKnownName Rd_readKnownName_cl b.1 b.2) = true := by decide +kernel
def Rd_readKnownName_cs : Ct := (2, 6, 1, (0, 0), fun as σ => (match as with
    | [.inr (.inr (.inl (k, 0, 5))), .inr (.inr (.inl (q1, 0, 1)))] => Rd_readKnownName_pre k q1 σ
    | _ => False), fun as σ r σ' => (match as with
    | [.inr (.inr (.inl (k, 0, 5))), .inr (.inr (.inl (q1, 0, 1)))] => Rd_readKnownName_post k q1 σ r σ'
    | _ => False))
theorem Rd_readKnownName_w : ∀ w ∈ ([.instanceMethod yX5_readKnownName, .selects yX5_readKnownName.cls yX5_readKnownName yX5_readKnownName, .initialized yX5_readKnownName.cls, .code yX5_readKnownName cX5_readKnownName 3 (some .int)] : List Cond), w ∈ ax_tb := ax_w4 (ax_m3 85 (by decide +kernel) rfl) (ax_m3 86 (by decide +kernel) rfl) (ax_m1 2 (by decide +kernel) rfl) (ax_m3 87 (by decide +kernel) rfl)
theorem Rd_readKnownName_ds : yX5_readKnownName.cls ≠ "java/lang/invoke/MethodHandle" ∧ yX5_readKnownName.cls ≠ "java/lang/invoke/VarHandle" ∧ (parseMethodDescriptor yX5_readKnownName.desc).map (fun d => d.parameters.length) = some 1 := by decide +kernel
def Rd_readKnownName_vc : Prop := ∀ (k : Nat) (q1 : Nat) (σ : Hp), ax_H σ → Rd_readKnownName_pre k q1 σ →
  Rd_isName_pre k σ ∧
  ∀ (r2 : Int) (σ1 : Hp), Rd_isName_post k σ r2 σ1 →
  (¬ r2 = 0 →
    Rd_findPerson_pre k q1 σ1 ∧
    ∀ (r4 : Int) (σ3 : Hp), Rd_findPerson_post k q1 σ1 r4 σ3 →
    (¬ r4 = (-1) →
      Rd_readKnownName_post k q1 σ r4 σ3) ∧
    (¬ (¬ r4 = (-1)) →
      Rd_fail_pre k 5 σ3 ∧
      ∀ (r6 : Int) (σ5 : Hp), Rd_fail_post k 5 σ3 r6 σ5 →
      Rd_readKnownName_post k q1 σ r4 σ5)) ∧
  (¬ (¬ r2 = 0) →
    Rd_refuse_pre k σ1 ∧
    ∀ (r8 : Int) (σ7 : Hp), Rd_refuse_post k σ1 r8 σ7 →
    Rd_readKnownName_post k q1 σ (-1) σ7)
theorem Rd_readKnownName_p : Rd_readKnownName_vc := by
  intro k f σ hH hp
  obtain ⟨rfl, hf, hD, B0, p0, hR0⟩ := hp
  have hn := hD.n
  refine ⟨rfl, ?_⟩
  rintro r2 σ1 ⟨rfl, h2⟩
  refine ⟨fun h => ⟨⟨rfl, hn.1, hn.2.1⟩, ?_⟩, fun h => ⟨rfl, ?_⟩⟩
  · have hnm : ∀ B p, RS σ1 B p → nmB B p := by
      intro B p hR
      rcases h2 with ⟨-, z⟩ | ⟨z, -⟩
      · exact hR.nm.mp z
      · exact absurd z h
    rintro r4 σ3 ⟨rfl, h4⟩
    have val : ∀ B p, RS σ3 B p → r4 = fI (pNm (psX σ3 f)) (tV B p) (pN (psX σ3 f)) := fun B p hR => find_X hR (hnm B p hR).1 h4
    refine ⟨fun h5 B p hR => ?_, fun h5 => ⟨rfl, fun r6 σ5 g B p hR => ?_⟩⟩
    · unfold fnO
      have hv := val B p hR
      have h0 : 0 ≤ fI (pNm (psX σ3 f)) (tV B p) (pN (psX σ3 f)) := by
        rcases fI_L (pNm (psX σ3 f)) (tV B p) (pN (psX σ3 f)) with ⟨m, -, m2, -⟩ | ⟨m1, -⟩
        · omega
        · rw [← hv] at m1; exact absurd m1 h5
      rw [if_pos (hnm B p hR), if_pos h0]
      exact ⟨by rw [hv]; omega, rfl⟩
    · unfold fnO
      have hv := val B p hR
      have h5' : r4 = -1 := Classical.not_not.mp h5
      rw [if_pos (hnm B p hR), if_neg (by omega)]
      exact ⟨h5', (hR.fl g).2⟩
  · intro r8 σ7 g B p hR
    have : ¬ nmB B p := by
      intro z
      rcases h2 with ⟨y, -⟩ | ⟨-, y⟩
      · exact h (by omega)
      · exact y (hR.nm.mpr z)
    unfold fnO
    rw [if_neg this]
    exact ⟨rfl, (hR.rf g).2⟩
def Rd_readKnownName_I : List AV → Hp → Nat → Nat → List AV → List AV → Hp → Prop := fun as σ0 pc n st ls σ => (match as with
    | [.inr (.inr (.inl (k, 0, 5))), .inr (.inr (.inl (q1, 0, 1)))] => False
    | _ => False)
def Rd_readKnownName_ct : Nat → Ct := fun n => match n with
  | 0 => Rd_isName_cs
  | 1 => Rd_refuse_cs
  | 2 => Rd_findPerson_cs
  | 3 => Rd_fail_cs
  | _ => Rd_readKnownName_cs
set_option maxRecDepth 20000 in
set_option maxHeartbeats 4000000 in
theorem Rd_readKnownName_met {l : Launch} {D : va_G} {ad : Nat → Nat} {ca : Nat → ClassId} {L : Nat} {fx : Nat → Int} : ax_MC l D ad ca L fx yX5_readKnownName cX5_readKnownName 3 (some .int) 3 Rd_readKnownName_cs := by
  refine ax_met (oc := 5) (ct := Rd_readKnownName_ct) (calls := Rd_readKnownName_cl) (bs := Rd_readKnownName_bk) (cut := fun pc => false) (f := 4) (I := Rd_readKnownName_I) (by decide) rfl rfl Rd_readKnownName_ck (List.forall_mem_cons.mpr ⟨ax_cwV Rd_isName_met (by decide) (by decide) rfl (by decide) rfl (ax_m3 50 (by decide +kernel) rfl) Rd_isName_w rfl Rd_isName_ds, List.forall_mem_cons.mpr ⟨ax_cwV Rd_refuse_met (by decide) (by decide) rfl (by decide) rfl (ax_m3 37 (by decide +kernel) rfl) Rd_refuse_w rfl Rd_refuse_ds, List.forall_mem_cons.mpr ⟨ax_cwV Rd_findPerson_met (by decide) (by decide) rfl (by decide) rfl (ax_m3 56 (by decide +kernel) rfl) Rd_findPerson_w rfl Rd_findPerson_ds, List.forall_mem_cons.mpr ⟨ax_cwV Rd_fail_met (by decide) (by decide) rfl (by decide) rfl (ax_m3 41 (by decide +kernel) rfl) Rd_fail_w rfl Rd_fail_ds, fun _ h => absurd h List.not_mem_nil⟩⟩⟩⟩) ?_ ?_
  · intro as σ0 hp hH
    match as, hp with
    | [.inr (.inr (.inl (k, 0, 5))), .inr (.inr (.inl (q1, 0, 1)))], hp => exact ⟨rfl, Rd_readKnownName_p k q1 σ0 hH hp⟩
  · intro as σ0 hp n pc st ls σ hH hI
    match as, hp, hI with
    | [.inr (.inr (.inl (k, 0, 5))), .inr (.inr (.inl (q1, 0, 1)))], hp, hI => exact False.elim hI
theorem knows_DX {σ τ : Hp} {f a b : Nat} (h : DX σ f) (hτ : ∀ c, ¬ c = f → ¬ c = f + 4 → τ c = σ c) (hf : ∀ j, τ f j = if j = 10 then σ f 10 + 1 else σ f j) (h4 : τ (f + 4) = va_up (σ (f + 4)) a ((((σ (f + 4) a).toNat ||| 2 ^ b : Nat) : Int))) (ha : a < (σ f 9).toNat) (hok : okPS (adK (psX σ f) a b)) : psX τ f = adK (psX σ f) a b ∧ DX τ f := by
  have e9 : τ f 9 = σ f 9 := by rw [hf]; simp
  have e10 : τ f 10 = σ f 10 + 1 := by rw [hf]; simp
  have e11 : τ f 11 = σ f 11 := by rw [hf]; simp
  have e12 : τ f 12 = σ f 12 := by rw [hf]; simp
  have e13 : τ f 13 = σ f 13 := by rw [hf]; simp
  have e15 : τ f 15 = σ f 15 := by rw [hf]; simp
  have e16 : τ f 16 = σ f 16 := by rw [hf]; simp
  have w8 := fmX_eq (σ := σ) (σ' := τ) (g := f + 8) (hτ _ (by omega) (by omega)) (hτ _ (by omega) (by omega))
  have w12 := fmX_eq (σ := σ) (σ' := τ) (g := f + 12) (hτ _ (by omega) (by omega)) (hτ _ (by omega) (by omega))
  obtain ⟨h1, h2, h3, h4', h5, h6, h7⟩ := h
  have hn6 : (σ f 9).toNat ≤ 6 := h1.1.1
  have e4 : tr (σ f 9).toNat (τ (f + 4)) = va_up (tr (σ f 9).toNat (σ (f + 4))) a (((tr (σ f 9).toNat (σ (f + 4)) a).toNat ||| 2 ^ b : Nat) : Int) := by
    rw [tr_in ha]
    funext j
    by_cases e : j = a
    · rw [e, vu_at, tr_in ha, h4, vu_at]
    · rw [vu_ne e]
      unfold tr
      by_cases z : j < (σ f 9).toNat
      · rw [if_pos z, if_pos z, h4, vu_ne e]
      · rw [if_neg z, if_neg z]
  have ep : psX τ f = adK (psX σ f) a b := by
    unfold psX adK
    rw [e9, e4, e10, e11, e12, e13, e15, e16, w8.1, w12.1, hτ (f + 1) (by omega) (by omega), hτ (f + 2) (by omega) (by omega), hτ (f + 3) (by omega) (by omega), hτ (f + 5) (by omega) (by omega), hτ (f + 6) (by omega) (by omega), show (σ f 10 + 1).toNat = (σ f 10).toNat + 1 by omega]
  refine ⟨ep, by rw [ep]; exact hok, by rw [e9, e10, e11]; omega, fun d d1 d2 j j1 j2 => ?_, by rw [e15, e12]; exact h4', by rw [e16, e13]; exact h5, w8.2 h6, w12.2 h7⟩
  rw [e9] at j1
  by_cases e : d = 4
  · subst e
    rw [h4, vu_ne (by omega)]
    exact h3 4 d1 d2 j j1 j2
  · rw [hτ _ (by omega) (by omega)]
    exact h3 d d1 d2 j j1 j2
theorem oB_l {α β : Type} {e : Int × Nat} {f : α → Oc β} : oB (.inl e) f = .inl e := rfl
theorem oB_r {α β : Type} {a : α} {f : α → Oc β} : oB (.inr a) f = f a := rfl
theorem fnO_0 {B : Tp} {p : Nat} {q : PS} {x : Int × Nat} (h : fnO B p q = .inl x) : ¬ x.1 = 0 := by
  unfold fnO at h
  split at h
  · split at h
    · cases h
    · injection h with h; rw [← h]; exact (by decide : ¬ (5 : Int) = 0)
  · injection h with h; rw [← h]; exact rfc_0 _ _
def Rd_readKnows_pre (k f : Nat) (σ : Hp) : Prop := k = 1 ∧ LPr f σ
def Rd_readKnows_post (_k f : Nat) (σ : Hp) (r : Int) (σ' : Hp) : Prop := LO (lnK (tpX σ) (Sp σ) (psX σ f)) f σ r σ'
def Rd_readKnows_bk : List (Nat × List Item) := [(0, [(.aload_n 1, 1, [], []), (.getfield 144, 3, [1, 10, 0, 0, 0, 0], []), (.bipush 12, 2, [], []), (.if_icmp .lt 8, 3, [14], []), (.aload_n 0, 1, [], []), (.invokevirtual 56, 3, [0], []), (.ireturn, 1, [], [])]),
  (14, [(.aload_n 0, 1, [], []), (.invokevirtual 33, 3, [1], []), (.aload_n 0, 1, [], []), (.aload_n 1, 1, [], []), (.invokevirtual 147, 3, [2], []), (.istore_n 2, 1, [], []), (.iload_n 2, 1, [], []), (.iconst (-1), 1, [], []), (.if_icmp .ne 5, 3, [31], []), (.iconst 0, 1, [], []), (.ireturn, 1, [], [])]),
  (31, [(.aload_n 0, 1, [], []), (.invokevirtual 33, 3, [1], []), (.aload_n 0, 1, [], []), (.aload_n 1, 1, [], []), (.invokevirtual 147, 3, [2], []), (.istore_n 3, 1, [], []), (.iload_n 3, 1, [], []), (.iconst (-1), 1, [], []), (.if_icmp .ne 5, 3, [48], []), (.iconst 0, 1, [], []), (.ireturn, 1, [], [])]),
  (48, [(.iload_n 2, 1, [], []), (.iload_n 3, 1, [], []), (.if_icmp .eq 17, 3, [67], []), (.aload_n 1, 1, [], []), (.getfield 150, 3, [1, 3, 4, 4, 1, 6], []), (.iload_n 2, 1, [], []), (.iaload, 1, [], []), (.iload_n 3, 1, [], []), (.ishr, 1, [], []), (.iconst 1, 1, [], []), (.iand, 1, [], []), (.iconst 1, 1, [], []), (.if_icmp .ne 9, 3, [73], [])]),
  (67, [(.aload_n 0, 1, [], []), (.iconst 3, 1, [], []), (.invokevirtual 102, 3, [3], []), (.ireturn, 1, [], [])]),
  (73, [(.aload_n 1, 1, [], []), (.getfield 150, 3, [1, 3, 4, 4, 1, 6], []), (.iload_n 2, 1, [], []), (.dup2, 1, [], []), (.iaload, 1, [], []), (.iconst 1, 1, [], []), (.iload_n 3, 1, [], []), (.ishl, 1, [], []), (.ior, 1, [], []), (.iastore, 1, [], []), (.aload_n 1, 1, [], []), (.dup, 1, [], []), (.getfield 144, 3, [1, 10, 0, 0, 0, 0], []), (.iconst 1, 1, [], []), (.iadd, 1, [], []), (.putfield 144, 3, [1, 10, 0, 0, 0, 0], []), (.aload_n 0, 1, [], []), (.invokevirtual 33, 3, [1], []), (.aload_n 0, 1, [], []), (.bipush 59, 2, [], []), (.invokevirtual 131, 3, [4], []), (.ireturn, 1, [], [])])]
def Rd_readKnows_cl : List (Instr × Nat) := [(.invokevirtual 56, 0), (.invokevirtual 33, 1), (.invokevirtual 147, 2), (.invokevirtual 102, 3), (.invokevirtual 131, 4)]
set_option maxRecDepth 20000 in
theorem Rd_readKnows_ck : Rd_readKnows_bk.all (fun b => ax_chB 5 4 cX5_readKnows Rd_readKnows_cl b.1 b.2) = true := by decide +kernel
def Rd_readKnows_cs : Ct := (2, 6, 2, (0, 0), fun as σ => (match as with
    | [.inr (.inr (.inl (k, 0, 5))), .inr (.inr (.inl (q1, 0, 1)))] => Rd_readKnows_pre k q1 σ
    | _ => False), fun as σ r σ' => (match as with
    | [.inr (.inr (.inl (k, 0, 5))), .inr (.inr (.inl (q1, 0, 1)))] => Rd_readKnows_post k q1 σ r σ'
    | _ => False))
theorem Rd_readKnows_w : ∀ w ∈ ([.instanceMethod yX5_readKnows, .selects yX5_readKnows.cls yX5_readKnows yX5_readKnows, .initialized yX5_readKnows.cls, .code yX5_readKnows cX5_readKnows 4 (some .boolean)] : List Cond), w ∈ ax_tb := ax_w4 (ax_m3 81 (by decide +kernel) rfl) (ax_m3 82 (by decide +kernel) rfl) (ax_m1 2 (by decide +kernel) rfl) (ax_m3 83 (by decide +kernel) rfl)
theorem Rd_readKnows_ds : yX5_readKnows.cls ≠ "java/lang/invoke/MethodHandle" ∧ yX5_readKnows.cls ≠ "java/lang/invoke/VarHandle" ∧ (parseMethodDescriptor yX5_readKnows.desc).map (fun d => d.parameters.length) = some 1 := by decide +kernel
def Rd_readKnows_vc : Prop := ∀ (k : Nat) (q1 : Nat) (σ : Hp), ax_H σ → Rd_readKnows_pre k q1 σ →
  (σ q1 10 < 12 →
    Rd_advance_pre k σ ∧
    ∀ σ1 : Hp, Rd_advance_post k σ σ1 →
    Rd_readKnownName_pre k q1 σ1 ∧
    ∀ (r3 : Int) (σ2 : Hp), Rd_readKnownName_post k q1 σ1 r3 σ2 →
    (¬ r3 = (-1) →
      Rd_advance_pre k σ2 ∧
      ∀ σ4 : Hp, Rd_advance_post k σ2 σ4 →
      Rd_readKnownName_pre k q1 σ4 ∧
      ∀ (r6 : Int) (σ5 : Hp), Rd_readKnownName_post k q1 σ4 r6 σ5 →
      (¬ r6 = (-1) →
        (r3 = r6 →
          Rd_fail_pre k 3 σ5 ∧
          ∀ (r8 : Int) (σ7 : Hp), Rd_fail_post k 3 σ5 r8 σ7 →
          (r8 = 0 ∨ r8 = 1) ∧ Rd_readKnows_post k q1 σ r8 σ7) ∧
        (¬ (r3 = r6) →
          (0 ≤ r3 ∧ r3 < 6) ∧
          (¬ iAnd (iShr (σ5 (q1 + 4) r3.toNat) r6) 1 = 1 →
            (0 ≤ r3 ∧ r3 < 6) ∧
            (0 ≤ r3 ∧ r3 < 6) ∧
            ∀ σ9 : Hp, σ9 = hp σ5 (q1 + 4) r3.toNat (iOr (σ5 (q1 + 4) r3.toNat) (iShl 1 r6)) →
            ∀ σ10 : Hp, σ10 = hp σ9 q1 10 (wr ((σ9 q1 10) + 1)) →
            Rd_advance_pre k σ10 ∧
            ∀ σ11 : Hp, Rd_advance_post k σ10 σ11 →
            Rd_readSign_pre k 59 σ11 ∧
            ∀ (r13 : Int) (σ12 : Hp), Rd_readSign_post k 59 σ11 r13 σ12 →
            (r13 = 0 ∨ r13 = 1) ∧ Rd_readKnows_post k q1 σ r13 σ12) ∧
          (¬ (¬ iAnd (iShr (σ5 (q1 + 4) r3.toNat) r6) 1 = 1) →
            Rd_fail_pre k 3 σ5 ∧
            ∀ (r15 : Int) (σ14 : Hp), Rd_fail_post k 3 σ5 r15 σ14 →
            (r15 = 0 ∨ r15 = 1) ∧ Rd_readKnows_post k q1 σ r15 σ14))) ∧
      (¬ (¬ r6 = (-1)) →
        ((0 : Int) = 0 ∨ (0 : Int) = 1) ∧ Rd_readKnows_post k q1 σ 0 σ5)) ∧
    (¬ (¬ r3 = (-1)) →
      ((0 : Int) = 0 ∨ (0 : Int) = 1) ∧ Rd_readKnows_post k q1 σ 0 σ2)) ∧
  (¬ (σ q1 10 < 12) →
    Rd_refuse_pre k σ ∧
    ∀ (r17 : Int) (σ16 : Hp), Rd_refuse_post k σ r17 σ16 →
    (r17 = 0 ∨ r17 = 1) ∧ Rd_readKnows_post k q1 σ r17 σ16)
theorem Rd_readKnows_p : Rd_readKnows_vc := by
  intro k f σ hH hp
  obtain ⟨rfl, hf, hD, hR, h2⟩ := hp
  have hfn := FO_ne hf
  have un : Rd_readKnows_post 1 f σ = LO (lnK (tpX σ) (Sp σ) (psX σ f)) f σ := rfl
  rw [un]
  have hk10 : pNk (psX σ f) = (σ f 10).toNat := rfl
  have hn := hD.n
  have h10 := hD.2.1.2.1
  refine ⟨fun h => ⟨hR.adv.1, ?_⟩, fun h => ⟨rfl, ?_⟩⟩
  · intro σ1 g
    obtain ⟨a1, a2, a3, a4, R1⟩ := hR.adv.2 σ1 g
    have c1 : ∀ c, f ≤ c → c < f + 16 → σ1 c = σ c := fun c _ _ => a1 c (by simp; omega)
    have P1 := psX_eq c1
    refine ⟨⟨rfl, hf, P1.2 hD, _, _, R1⟩, ?_⟩
    intro r3 σ2 h3
    have h3 := h3 _ _ R1
    rw [P1.1] at h3
    have hl : lnK (tpX σ) (Sp σ) (psX σ f) = oB (fnO (tpX σ) (tN (tpX σ) (Sp σ)) (psX σ f)) fun a => oB (fnO (tpX σ) (tN (tpX σ) (tN (tpX σ) (Sp σ))) (psX σ f)) fun b =>
        if a = b ∨ bt (pKn (psX σ f) a) b = true then .inl (3, tN (tpX σ) (tN (tpX σ) (Sp σ))) else oB (sgnO (tpX σ) (tN (tpX σ) (tN (tpX σ) (tN (tpX σ) (Sp σ)))) 59) fun r => .inr (adK (psX σ f) a b, r) := by
      unfold lnK; rw [if_neg (by omega)]
    cases hx : fnO (tpX σ) (tN (tpX σ) (Sp σ)) (psX σ f) with
    | inl x =>
      rw [hx] at h3 hl
      obtain ⟨k1, k2⟩ := h3
      subst k1
      rw [oB_l] at hl
      refine ⟨fun z => absurd rfl z, fun _ => ⟨Or.inl rfl, ?_⟩⟩
      rw [hl]
      exact LO.fl2 (Fr1f a1) a2 k2 Fr.rf hf
    | inr a =>
      rw [hx] at h3 hl
      obtain ⟨k1, rfl⟩ := h3
      subst k1
      rw [oB_r] at hl
      have hla := fnO_lt hx
      refine ⟨fun _ => ⟨R1.adv.1, ?_⟩, fun z => absurd (by omega) z⟩
      intro σ4 g4
      obtain ⟨b1, b2, b3, b4, R4⟩ := R1.adv.2 σ4 g4
      have c4 : ∀ c, f ≤ c → c < f + 16 → σ4 c = σ c := fun c _ _ => (b1 c (by simp; omega)).trans (a1 c (by simp; omega))
      have P4 := psX_eq c4
      refine ⟨⟨rfl, hf, P4.2 hD, _, _, R4⟩, ?_⟩
      intro r6 σ5 h6
      have h6 := h6 _ _ R4
      rw [P4.1] at h6
      have fr4 : Fr (1 :: fcs f) σ σ4 := Fr1f (a1.tr b1)
      have e14 : σ4 1 1 = σ 1 1 := by rw [b2, a2]
      cases hy : fnO (tpX σ) (tN (tpX σ) (tN (tpX σ) (Sp σ))) (psX σ f) with
      | inl x =>
        rw [hy] at h6 hl
        obtain ⟨k1, k2⟩ := h6
        subst k1
        rw [oB_l] at hl
        refine ⟨fun z => absurd rfl z, fun _ => ⟨Or.inl rfl, ?_⟩⟩
        rw [hl]
        exact LO.fl2 fr4 e14 k2 Fr.rf hf
      | inr b =>
        rw [hy] at h6 hl
        obtain ⟨k1, rfl⟩ := h6
        subst k1
        rw [oB_r] at hl
        have hlb := fnO_lt hy
        have ea : σ5 (f + 4) a = pKn (psX σ f) a := by
          rw [c4 (f + 4) (by omega) (by omega)]
          exact (tr_in (by omega)).symm
        have hka := (hD.1.2.2.2.1 a).2.2.1
        have hbad : ∀ r σ', Rd_fail_post 1 3 σ5 r σ' → (a = b ∨ bt (pKn (psX σ f) a) b = true) → (r = 0 ∨ r = 1) ∧ LO (lnK (tpX σ) (Sp σ) (psX σ f)) f σ r σ' := by
          intro r σ' hr z
          obtain ⟨y1, y2⟩ := R4.fl hr
          subst y1
          rw [if_pos z] at hl
          refine ⟨Or.inl rfl, ?_⟩
          rw [hl]
          exact LO.fl2 fr4 e14 y2 Fr.rf hf
        refine ⟨fun _ => ⟨fun z => ⟨rfl, fun r σ' hr => hbad r σ' hr (Or.inl (by omega))⟩, fun z => ⟨⟨by omega, by omega⟩, ?_⟩⟩, fun z => absurd (by omega) z⟩
        rw [Int.toNat_natCast, ea, bit_01 hka.1 (by omega) (by omega) (by omega), Int.toNat_natCast]
        refine ⟨fun z2 => ⟨⟨by omega, by omega⟩, ⟨by omega, by omega⟩, ?_⟩, fun z2 => ⟨rfl, fun r σ' hr => hbad r σ' hr (Or.inr (Classical.not_not.mp z2))⟩⟩
        have hbl : (2 : Nat) ^ b < 2 ^ 31 := Nat.pow_lt_pow_right (by decide) (by omega)
        have ev : iOr (pKn (psX σ f) a) (iShl 1 ((b : Nat) : Int)) = (((pKn (psX σ f) a).toNat ||| 2 ^ b : Nat) : Int) := by
          rw [shl_1 (by omega) (by omega), Int.toNat_natCast]
          conv => lhs; rw [e_nat hka.1]
          exact iOr_n (by omega) hbl
        rw [ev]
        rintro σ9 rfl
        rintro σ10 hσ10
        have hab : ¬ (a = b ∨ bt (pKn (psX σ f) a) b = true) := by
          rintro (y | y)
          · exact z (by omega)
          · exact z2 y
        rw [if_neg hab] at hl
        have f10 : Fr (fcs f) σ5 σ10 := by
          rw [hσ10]
          exact Fr.hp (Fr.hp Fr.rf (fcs_m.mpr ⟨by omega, by omega⟩)) (fcs_m.mpr ⟨by omega, by omega⟩)
        have R10 := R4.off hf f10
        refine ⟨R10.adv.1, ?_⟩
        intro σ11 g11
        obtain ⟨d1, d2, d3, d4, R11⟩ := R10.adv.2 σ11 g11
        refine ⟨⟨rfl, _, _, R11⟩, ?_⟩
        intro r13 σ12 h13
        have h13 := h13 _ _ R11
        have fr11 : Fr (1 :: fcs f) σ σ11 := (fr4.tr (f10.mono (fun c hc => List.mem_cons_of_mem _ hc))).tr (Fr1f d1)
        have e111 : σ11 1 1 = σ 1 1 := by rw [d2, off1 hf f10, e14]
        cases hs : sgnO (tpX σ) (tN (tpX σ) (tN (tpX σ) (tN (tpX σ) (Sp σ)))) 59 with
        | inl y =>
          rw [hs] at h13 hl
          obtain ⟨k1, k2⟩ := h13
          subst k1
          rw [oB_l] at hl
          refine ⟨Or.inl rfl, ?_⟩
          rw [hl]
          exact LO.fl2 fr11 e111 k2 Fr.rf hf
        | inr y =>
          rw [hs] at h13 hl
          obtain ⟨k1, k2, k3, k4, k5, k6⟩ := h13
          subst k1
          rw [oB_r] at hl
          refine ⟨Or.inr rfl, ?_⟩
          rw [hl]
          have e10f : σ5 f 10 = σ f 10 := by rw [c4 f (by omega) (by omega)]
          have w10 : wr (hp σ5 (f + 4) a (((pKn (psX σ f) a).toNat ||| 2 ^ b : Nat) : Int) f 10 + 1) = σ f 10 + 1 := by
            rw [hp_ne (by omega), e10f, wr1 (by omega) (by omega)]
          rw [w10] at hσ10
          have hok : okPS (adK (psX σ f) a b) := ok_adK hD.1 (by omega) hla hlb hab
          have DE := knows_DX (σ := σ) (τ := hp (hp σ (f + 4) a (((pKn (psX σ f) a).toNat ||| 2 ^ b : Nat) : Int)) f 10 (σ f 10 + 1)) (a := a) (b := b) hD (fun c hc hc2 => by rw [hp_ne hc, hp_ne hc2]) (fun j => by rw [hp_f, hp_ne (show ¬ f = f + 4 by omega)]) (by
            rw [hp_ne (by omega), hp_eq]
            funext j
            unfold va_up
            by_cases e : j = a
            · rw [if_pos e, if_pos e, show σ (f + 4) a = pKn (psX σ f) a from (tr_in (by omega)).symm]
            · rw [if_neg e, if_neg e]) (by omega) hok
          have fE : Fr [1] (hp (hp σ (f + 4) a (((pKn (psX σ f) a).toNat ||| 2 ^ b : Nat) : Int)) f 10 (σ f 10 + 1)) σ12 := by
            refine Fr.tr (Fr.tr ?_ d1) k2
            rw [hσ10]
            exact Fr1.hp (Fr1.hp (a1.tr b1))
          have PE := psX_eq (f := f) (σ' := σ12) (fun c c1 c2 => fE c (by simp; omega))
          exact ⟨Or.inr rfl, fr11.tr (Fr1f k2), by rw [k3, e111], rfl, by rw [k4, d3, off1 hf f10, b3, a3]; exact h2, by rw [k5, d4, off1 hf f10, b4, a4], k6, PE.2 DE.2, by rw [PE.1]; exact DE.1⟩
  · intro r8 σ7 h7
    obtain ⟨z1, z2⟩ := hR.rf h7
    subst z1
    refine ⟨Or.inl rfl, ?_⟩
    have hl : lnK (tpX σ) (Sp σ) (psX σ f) = .inl (rfc (tpX σ) (Sp σ), Sp σ) := by
      unfold lnK
      rw [if_pos (by omega)]
    rw [hl]
    exact LO.fl z2
def Rd_readKnows_I : List AV → Hp → Nat → Nat → List AV → List AV → Hp → Prop := fun as σ0 pc n st ls σ => (match as with
    | [.inr (.inr (.inl (k, 0, 5))), .inr (.inr (.inl (q1, 0, 1)))] => False
    | _ => False)
def Rd_readKnows_ct : Nat → Ct := fun n => match n with
  | 0 => Rd_refuse_cs
  | 1 => Rd_advance_cs
  | 2 => Rd_readKnownName_cs
  | 3 => Rd_fail_cs
  | 4 => Rd_readSign_cs
  | _ => Rd_readKnows_cs
set_option maxRecDepth 20000 in
set_option maxHeartbeats 4000000 in
theorem Rd_readKnows_met {l : Launch} {D : va_G} {ad : Nat → Nat} {ca : Nat → ClassId} {L : Nat} {fx : Nat → Int} : ax_MC l D ad ca L fx yX5_readKnows cX5_readKnows 4 (some .boolean) 7 Rd_readKnows_cs := by
  refine ax_met (oc := 5) (ct := Rd_readKnows_ct) (calls := Rd_readKnows_cl) (bs := Rd_readKnows_bk) (cut := fun pc => false) (f := 7) (I := Rd_readKnows_I) (by decide) rfl rfl Rd_readKnows_ck (List.forall_mem_cons.mpr ⟨ax_cwV Rd_refuse_met (by decide) (by decide) rfl (by decide) rfl (ax_m3 37 (by decide +kernel) rfl) Rd_refuse_w rfl Rd_refuse_ds, List.forall_mem_cons.mpr ⟨ax_cwV Rd_advance_met (by decide) (by decide) rfl (by decide) rfl (ax_m2 166 (by decide +kernel) rfl) Rd_advance_w rfl Rd_advance_ds, List.forall_mem_cons.mpr ⟨ax_cwV Rd_readKnownName_met (by decide) (by decide) rfl (by decide) rfl (ax_m3 84 (by decide +kernel) rfl) Rd_readKnownName_w rfl Rd_readKnownName_ds, List.forall_mem_cons.mpr ⟨ax_cwV Rd_fail_met (by decide) (by decide) rfl (by decide) rfl (ax_m3 41 (by decide +kernel) rfl) Rd_fail_w rfl Rd_fail_ds, List.forall_mem_cons.mpr ⟨ax_cwV Rd_readSign_met (by decide) (by decide) rfl (by decide) rfl (ax_m3 71 (by decide +kernel) rfl) Rd_readSign_w rfl Rd_readSign_ds, fun _ h => absurd h List.not_mem_nil⟩⟩⟩⟩⟩) ?_ ?_
  · intro as σ0 hp hH
    match as, hp with
    | [.inr (.inr (.inl (k, 0, 5))), .inr (.inr (.inl (q1, 0, 1)))], hp => exact ⟨rfl, Rd_readKnows_p k q1 σ0 hH hp⟩
  · intro as σ0 hp n pc st ls σ hH hI
    match as, hp, hI with
    | [.inr (.inr (.inl (k, 0, 5))), .inr (.inr (.inl (q1, 0, 1)))], hp, hI => exact False.elim hI
