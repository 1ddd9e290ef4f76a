-- THE CLASS: more calls that only answer
theorem xN {σ : Hp} (hX : XIr σ) : σ (tld σ) 9 = (fN (aF (xA σ)) : Int) := hX.2.2.1.e9
theorem tld_sc {σ σ' : Hp} (hX : XIr σ) (hf : Fr (sc (tld σ)) σ σ') : tld σ' = tld σ ∧ famX σ' (tld σ) = famX σ (tld σ) ∧ FS σ' (tld σ) ∧ (∀ d, d < 3 → σ' (31 + d) = σ (31 + d)) := by
  have hfo := hX.1.fo
  have hK := FK_sc hfo hf
  refine ⟨?_, hK.fam, hK.fs hX.2.2.1, sc_st hfo (Or.inr (Or.inr rfl)) hf⟩
  unfold tld
  rw [hf 0 (by
    simp only [sc, List.mem_cons, List.not_mem_nil, or_false]
    rcases FO_35 hfo with z | z <;> (rw [z]; omega))]
def Gh_law_pre (k : Nat) (_a : Int) (σ : Hp) : Prop := k = 0 ∧ XP σ
def Gh_law_post (_k : Nat) (a : Int) (σ : Hp) (r : Int) (σ' : Hp) : Prop := XQ σ σ' ∧ s_law (xA σ) a r (xA σ')
def Gh_law_I17 (_k : Nat) (a : Int) (σ0 : Hp) (n : Nat) (v2 v3 : Int) (σ : Hp) : Prop := ∃ i : Nat, v3 = i ∧ i ≤ fN (aF (xA σ0)) ∧ n = 6 - i ∧ (0 ≤ a ∧ a ≤ 999) ∧ Fr (sc (tld σ0)) σ0 σ ∧ v2 = (cwr (aF (xA σ0)) (aS (xA σ0)) a i : Nat)
def Gh_law_bk : List (Nat × List Item) := [(0, [(.iload_n 1, 1, [], []), (.ifCond .lt 10, 3, [11], []), (.iload_n 1, 1, [], []), (.sipush 999, 3, [], []), (.if_icmp .le 5, 3, [13], [])]),
  (11, [(.iconst (-1), 1, [], []), (.ireturn, 1, [], [])]),
  (13, [(.iconst 0, 1, [], []), (.istore_n 2, 1, [], []), (.iconst 0, 1, [], []), (.istore_n 3, 1, [], [])]),
  (17, [(.iload_n 3, 1, [], []), (.aload_n 0, 1, [], []), (.getfield 58, 3, [8, 8, 5, 0, 0, 1], []), (.getfield 93, 3, [1, 9, 0, 0, 0, 0], []), (.if_icmp .ge 28, 3, [53], []), (.aload_n 0, 1, [], []), (.getfield 58, 3, [8, 8, 5, 0, 0, 1], []), (.aload_n 0, 1, [], []), (.getfield 47, 3, [8, 5, 4, 31, 0, 7], []), (.iload_n 3, 1, [], []), (.invokevirtual 112, 3, [0], []), (.iload_n 1, 1, [], []), (.if_icmp .lt 6, 3, [47], []), (.iinc 2 1, 3, [], [])]),
  (47, [(.iinc 3 1, 3, [], []), (.goto (-33), 3, [17], [])]),
  (53, [(.iload_n 2, 1, [], []), (.ireturn, 1, [], [])])]
def Gh_law_cl : List (Instr × Nat) := [(.invokevirtual 112, 0)]
set_option maxRecDepth 20000 in
theorem Gh_law_ck : Gh_law_bk.all (fun b => ax_chB 8 4 cX8_law Gh_law_cl b.1 b.2) = true := by decide +kernel
def Gh_law_cs : Ct := (2, 9, 1, (0, 0), fun as σ => (match as with
    | [.inr (.inr (.inl (k, 0, 8))), .inl a1] => Gh_law_pre k a1 σ
    | _ => False), fun as σ r σ' => (match as with
    | [.inr (.inr (.inl (k, 0, 8))), .inl a1] => Gh_law_post k a1 σ r σ'
    | _ => False))
theorem Gh_law_w : ∀ w ∈ ([.instanceMethod yX8_law, .selects yX8_law.cls yX8_law yX8_law, .initialized yX8_law.cls, .code yX8_law cX8_law 4 (some .int)] : List Cond), w ∈ ax_tb := ax_w4 (ax_m4 234 (by decide +kernel) rfl) (ax_m4 235 (by decide +kernel) rfl) (ax_m1 1 (by decide +kernel) rfl) (ax_m4 236 (by decide +kernel) rfl)
theorem Gh_law_ds : yX8_law.cls ≠ "java/lang/invoke/MethodHandle" ∧ yX8_law.cls ≠ "java/lang/invoke/VarHandle" ∧ (parseMethodDescriptor yX8_law.desc).map (fun d => d.parameters.length) = some 1 := by decide +kernel
def Gh_law_vc : Prop := ∀ (k : Nat) (a1 : Int) (σ : Hp), ax_H σ → Gh_law_pre k a1 σ →
  (a1 < 0 →
    Gh_law_post k a1 σ (-1) σ) ∧
  (¬ (a1 < 0) →
    (a1 ≤ 999 →
      ∃ n' : Nat, k = k ∧ a1 = a1 ∧ Gh_law_I17 k a1 σ n' 0 0 σ) ∧
    (¬ (a1 ≤ 999) →
      Gh_law_post k a1 σ (-1) σ))
def Gh_law_vc17 : Prop := ∀ (k : Nat) (a1 : Int) (σ0 : Hp), Gh_law_pre k a1 σ0 → ∀ (n : Nat) (v2 : Int) (v3 : Int) (σ : Hp), ax_H σ → Gh_law_I17 k a1 σ0 n v2 v3 σ →
  (σ (σ k 8).toNat 9 ≤ v3 →
    Gh_law_post k a1 σ0 v2 σ) ∧
  (¬ (σ (σ k 8).toNat 9 ≤ v3) →
    Fa_worryOf_pre ((σ k 8).toNat) (k + 31) v3 σ ∧
    ∀ (r2 : Int) (σ1 : Hp), Fa_worryOf_post ((σ k 8).toNat) (k + 31) v3 σ r2 σ1 →
    (r2 < a1 →
      ∃ n' : Nat, n' < n ∧ k = k ∧ a1 = a1 ∧ Gh_law_I17 k a1 σ0 n' v2 (wr (v3 + 1)) σ1) ∧
    (¬ (r2 < a1) →
      ∃ n' : Nat, n' < n ∧ k = k ∧ a1 = a1 ∧ Gh_law_I17 k a1 σ0 n' (wr (v2 + 1)) (wr (v3 + 1)) σ1))
theorem Gh_law_p : Gh_law_vc := by
  intro k a σ hH hp
  obtain ⟨rfl, hP⟩ := hp
  have hX := hP.1
  refine ⟨fun h => ob0 hX ?_, fun h => ⟨fun h2 => ⟨6, rfl, rfl, 0, rfl, Nat.zero_le _, rfl, ⟨by omega, h2⟩, Fr.rf, rfl⟩, fun h2 => ob0 hX ?_⟩⟩
  · show _ = _; rw [if_neg (by omega)]
  · show _ = _; rw [if_neg (by omega)]
theorem cwr_s (F : Fam) (s : Sta) (n : Int) (p : Nat) : cwr F s n (p + 1) = cwr F s n p + (if n ≤ wry F s p then 1 else 0) := rfl
theorem cwr_le (F : Fam) (s : Sta) (n : Int) : ∀ p, cwr F s n p ≤ p := by
  intro p
  induction p with
  | zero => exact Nat.le_refl 0
  | succ p ih => rw [cwr_s]; split <;> omega
theorem Gh_law_p17 : Gh_law_vc17 := by
  intro k a σ0 hp n v2 v3 σ hH hI
  obtain ⟨rfl, hP⟩ := hp
  obtain ⟨i, rfl, hi, rfl, ha, hf, rfl⟩ := hI
  have hX := hP.1
  obtain ⟨t1, t2, t3, t4⟩ := tld_sc hX hf
  have hn6 : fN (aF (xA σ0)) ≤ 6 := hP.n6
  have e9 : σ (σ 0 8).toNat 9 = (fN (aF (xA σ0)) : Int) := by
    have : σ (tld σ0) 9 = (fN (famX σ (tld σ0)) : Int) := t3.e9
    rw [t2] at this
    show σ (tld σ) 9 = _
    rw [t1]; exact this
  have ef : (σ 0 8).toNat = tld σ0 := t1
  have hc := cwr_le (aF (xA σ0)) (aS (xA σ0)) a i
  rw [e9, ef]
  refine ⟨fun h => ob1 hX hf scx_sc ?_, fun h => ⟨⟨hX.1.fo, Or.inr (Or.inr rfl), by omega, by omega, t3, (SS_eq t4 hP.ss).ws (by omega)⟩, ?_⟩⟩
  · show _ = _; rw [if_pos ha, show fN (aF (xA σ0)) = i by omega]
  · rintro r2 σ1 ⟨g1, rfl⟩
    have es : stX σ (0 + 31) = aS (xA σ0) := stX_eq t4
    rw [t2, es, Int.toNat_natCast, wr1 (by omega) (by omega), wr1 (by omega) (by omega)]
    refine ⟨fun h2 => ⟨6 - (i + 1), by omega, rfl, rfl, i + 1, by simp, by omega, rfl, ha, hf.tr g1, ?_⟩, fun h2 => ⟨6 - (i + 1), by omega, rfl, rfl, i + 1, by simp, by omega, rfl, ha, hf.tr g1, ?_⟩⟩
    · rw [cwr_s, if_neg (by show ¬ a ≤ wry (famX σ0 (tld σ0)) _ _; omega)]; simp
    · rw [cwr_s, if_pos (by show a ≤ wry (famX σ0 (tld σ0)) _ _; omega)]; simp
def Gh_law_I : List AV → Hp → Nat → Nat → List AV → List AV → Hp → Prop := fun as σ0 pc n st ls σ => (match as with
    | [.inr (.inr (.inl (k, 0, 8))), .inl a1] => (bif Nat.beq pc 17 then (match st, ls with
      | [], [.inr (.inr (.inl (k', 0, 8))), .inl a1', .inl v2, .inl v3] => k = k' ∧ a1 = a1' ∧ Gh_law_I17 k a1 σ0 n v2 v3 σ
      | _, _ => False) else False)
    | _ => False)
def Gh_law_ct : Nat → Ct := fun n => match n with
  | 0 => Fa_worryOf_cs
  | _ => Gh_law_cs
set_option maxRecDepth 20000 in
set_option maxHeartbeats 4000000 in
theorem Gh_law_met {l : Launch} {D : va_G} {ad : Nat → Nat} {ca : Nat → ClassId} {L : Nat} {fx : Nat → Int} : ax_MC l D ad ca L fx yX8_law cX8_law 4 (some .int) 4 Gh_law_cs := by
  refine ax_met (oc := 8) (ct := Gh_law_ct) (calls := Gh_law_cl) (bs := Gh_law_bk) (cut := fun pc => Nat.beq pc 17) (f := 7) (I := Gh_law_I) (by decide) rfl rfl Gh_law_ck (List.forall_mem_cons.mpr ⟨ax_cwV Fa_worryOf_met (by decide) (by decide) rfl (by decide) rfl (ax_m3 192 (by decide +kernel) rfl) Fa_worryOf_w rfl Fa_worryOf_ds, fun _ h => absurd h List.not_mem_nil⟩) ?_ ?_
  · intro as σ0 hp hH
    match as, hp with
    | [.inr (.inr (.inl (k, 0, 8))), .inl a1], hp => exact ⟨rfl, Gh_law_p k a1 σ0 hH hp⟩
  · intro as σ0 hp n pc st ls σ hH hI
    match as, hp, hI with
    | [.inr (.inr (.inl (k, 0, 8))), .inl a1], hp, hI =>
      rcases ax_bifE hI with ⟨hpc, hI⟩ | ⟨-, hI⟩
      · have := Nat.eq_of_beq_eq_true hpc
        subst this
        match st, ls, hI with
        | [], [.inr (.inr (.inl (k', 0, 8))), .inl a1', .inl v2, .inl v3], hI =>
          obtain ⟨rfl, rfl, hI⟩ := hI
          exact Gh_law_p17 k a1 σ0 hp n v2 v3 σ hH hI
      exact False.elim hI
theorem alo_s (s : Sta) (n : Nat) : alo s (n + 1) = alo s n ||| (if s.2.1 n = 0 ∧ kb s.2.1 n 6 = 0 then 2 ^ n else 0) := rfl
theorem alo_lt (s : Sta) : ∀ n, alo s n < 2 ^ n := by
  intro n
  induction n with
  | zero => exact Nat.one_pos
  | succ n ih =>
    rw [alo_s]
    apply Nat.or_lt_two_pow
    · exact Nat.lt_of_lt_of_le ih (Nat.pow_le_pow_right (by decide) (by omega))
    · split
      · exact Nat.pow_lt_pow_right (by decide) (by omega)
      · exact Nat.two_pow_pos _
def Gh_alone_pre (k : Nat) (σ : Hp) : Prop := k = 0 ∧ XP σ
def Gh_alone_post (_k : Nat) (σ : Hp) (r : Int) (σ' : Hp) : Prop := XQ σ σ' ∧ s_alone (xA σ) r (xA σ')
def Gh_alone_I4 (_k : Nat) (σ0 : Hp) (n : Nat) (v1 v2 : Int) (σ : Hp) : Prop := ∃ i : Nat, v2 = i ∧ i ≤ fN (aF (xA σ0)) ∧ n = 6 - i ∧ σ = σ0 ∧ v1 = (alo (aS (xA σ0)) i : Nat)
def Gh_alone_bk : List (Nat × List Item) := [(0, [(.iconst 0, 1, [], []), (.istore_n 1, 1, [], []), (.iconst 0, 1, [], []), (.istore_n 2, 1, [], [])]),
  (4, [(.iload_n 2, 1, [], []), (.aload_n 0, 1, [], []), (.getfield 58, 3, [8, 8, 5, 0, 0, 1], []), (.getfield 93, 3, [1, 9, 0, 0, 0, 0], []), (.if_icmp .ge 38, 3, [50], []), (.aload_n 0, 1, [], []), (.getfield 47, 3, [8, 5, 4, 31, 0, 7], []), (.getfield 116, 3, [7, 1, 4, 2, 1, 6], []), (.iload_n 2, 1, [], []), (.iaload, 1, [], []), (.ifCond .ne 20, 3, [44], []), (.aload_n 0, 1, [], []), (.getfield 47, 3, [8, 5, 4, 31, 0, 7], []), (.iload_n 2, 1, [], []), (.invokevirtual 119, 3, [0], []), (.ifCond .ne 9, 3, [44], []), (.iload_n 1, 1, [], []), (.iconst 1, 1, [], []), (.iload_n 2, 1, [], []), (.ishl, 1, [], []), (.ior, 1, [], []), (.istore_n 1, 1, [], [])]),
  (44, [(.iinc 2 1, 3, [], []), (.goto (-43), 3, [4], [])]),
  (50, [(.iload_n 1, 1, [], []), (.ireturn, 1, [], [])])]
def Gh_alone_cl : List (Instr × Nat) := [(.invokevirtual 119, 0)]
set_option maxRecDepth 20000 in
theorem Gh_alone_ck : Gh_alone_bk.all (fun b => ax_chB 8 3 cX8_alone Gh_alone_cl b.1 b.2) = true := by decide +kernel
def Gh_alone_cs : Ct := (1, 9, 1, (0, 0), fun as σ => (match as with
    | [.inr (.inr (.inl (k, 0, 8)))] => Gh_alone_pre k σ
    | _ => False), fun as σ r σ' => (match as with
    | [.inr (.inr (.inl (k, 0, 8)))] => Gh_alone_post k σ r σ'
    | _ => False))
theorem Gh_alone_w : ∀ w ∈ ([.instanceMethod yX8_alone, .selects yX8_alone.cls yX8_alone yX8_alone, .initialized yX8_alone.cls, .code yX8_alone cX8_alone 3 (some .int)] : List Cond), w ∈ ax_tb := ax_w4 (ax_m5 42 (by decide +kernel) rfl) (ax_m5 43 (by decide +kernel) rfl) (ax_m1 1 (by decide +kernel) rfl) (ax_m5 44 (by decide +kernel) rfl)
theorem Gh_alone_ds : yX8_alone.cls ≠ "java/lang/invoke/MethodHandle" ∧ yX8_alone.cls ≠ "java/lang/invoke/VarHandle" ∧ (parseMethodDescriptor yX8_alone.desc).map (fun d => d.parameters.length) = some 0 := by decide +kernel
def Gh_alone_vc : Prop := ∀ (k : Nat) (σ : Hp), ax_H σ → Gh_alone_pre k σ →
  ∃ n' : Nat, k = k ∧ Gh_alone_I4 k σ n' 0 0 σ
def Gh_alone_vc4 : Prop := ∀ (k : Nat) (σ0 : Hp), Gh_alone_pre k σ0 → ∀ (n : Nat) (v1 : Int) (v2 : Int) (σ : Hp), ax_H σ → Gh_alone_I4 k σ0 n v1 v2 σ →
  (σ (σ k 8).toNat 9 ≤ v2 →
    Gh_alone_post k σ0 v1 σ) ∧
  (¬ (σ (σ k 8).toNat 9 ≤ v2) →
    (0 ≤ v2 ∧ v2 < 6) ∧
    (¬ σ (k + 33) v2.toNat = 0 →
      ∃ n' : Nat, n' < n ∧ k = k ∧ Gh_alone_I4 k σ0 n' v1 (wr (v2 + 1)) σ) ∧
    (¬ (¬ σ (k + 33) v2.toNat = 0) →
      St_knowersOf_pre (k + 31) v2 σ ∧
      ∀ (r2 : Int) (σ1 : Hp), St_knowersOf_post (k + 31) v2 σ r2 σ1 →
      (¬ r2 = 0 →
        ∃ n' : Nat, n' < n ∧ k = k ∧ Gh_alone_I4 k σ0 n' v1 (wr (v2 + 1)) σ1) ∧
      (¬ (¬ r2 = 0) →
        ∃ n' : Nat, n' < n ∧ k = k ∧ Gh_alone_I4 k σ0 n' (iOr v1 (iShl 1 v2)) (wr (v2 + 1)) σ1)))
theorem Gh_alone_p : Gh_alone_vc := by
  intro k σ hH hp
  exact ⟨6, rfl, 0, rfl, Nat.zero_le _, rfl, rfl, rfl⟩
theorem Gh_alone_p4 : Gh_alone_vc4 := by
  intro k σ0 hp n v1 v2 σ hH hI
  obtain ⟨rfl, hP⟩ := hp
  obtain ⟨i, rfl, hi, rfl, rfl, rfl⟩ := hI
  have hX := hP.1
  have hn6 : fN (aF (xA σ)) ≤ 6 := hP.n6
  have e9 : σ (σ 0 8).toNat 9 = (fN (aF (xA σ)) : Int) := xN hX
  have hl := alo_lt (aS (xA σ)) i
  rw [e9, Int.toNat_natCast, wr1 (by omega) (by omega)]
  have h26 : i < 6 → 2 ^ i ≤ 2 ^ 6 := fun z => Nat.pow_le_pow_right (by decide) (by omega)
  refine ⟨fun h => ob0 hX ?_, fun h => ⟨⟨by omega, by omega⟩, ?_⟩⟩
  · show _ = _; rw [show fN (aF (xA σ)) = i by omega]
  · have ek : σ (0 + 33) i = (aS (xA σ)).2.1 i := (tr_in (by omega)).symm
    rw [ek]
    refine ⟨fun h2 => ⟨6 - (i + 1), by omega, rfl, i + 1, by simp, by omega, rfl, rfl, ?_⟩, fun h2 => ⟨⟨by omega, by omega, hP.ss⟩, ?_⟩⟩
    · rw [alo_s, if_neg (fun z => h2 z.1)]; simp
    · rintro r2 σ1 ⟨rfl, rfl⟩
      have e2 : kb (σ1 (0 + 31 + 2)) ((i : Nat) : Int).toNat 6 = kb (aS (xA σ1)).2.1 i 6 := by
        rw [Int.toNat_natCast]; exact kb_ext (fun j hj => (tr_in hj).symm)
      rw [e2]
      refine ⟨fun h3 => ⟨6 - (i + 1), by omega, rfl, i + 1, by simp, by omega, rfl, rfl, ?_⟩, fun h3 => ⟨6 - (i + 1), by omega, rfl, i + 1, by simp, by omega, rfl, rfl, ?_⟩⟩
      · rw [alo_s, if_neg (fun z => h3 (by rw [z.2]; rfl))]; simp
      · have h3' := Classical.not_not.mp h3
        have := h26 (by omega)
        rw [alo_s, if_pos ⟨Classical.not_not.mp h2, by omega⟩, shl_1 (by omega) (by omega), Int.toNat_natCast, iOr_n (by omega) (by omega)]
def Gh_alone_I : List AV → Hp → Nat → Nat → List AV → List AV → Hp → Prop := fun as σ0 pc n st ls σ => (match as with
    | [.inr (.inr (.inl (k, 0, 8)))] => (bif Nat.beq pc 4 then (match st, ls with
      | [], [.inr (.inr (.inl (k', 0, 8))), .inl v1, .inl v2] => k = k' ∧ Gh_alone_I4 k σ0 n v1 v2 σ
      | _, _ => False) else False)
    | _ => False)
def Gh_alone_ct : Nat → Ct := fun n => match n with
  | 0 => St_knowersOf_cs
  | _ => Gh_alone_cs
set_option maxRecDepth 20000 in
set_option maxHeartbeats 4000000 in
theorem Gh_alone_met {l : Launch} {D : va_G} {ad : Nat → Nat} {ca : Nat → ClassId} {L : Nat} {fx : Nat → Int} : ax_MC l D ad ca L fx yX8_alone cX8_alone 3 (some .int) 3 Gh_alone_cs := by
  refine ax_met (oc := 8) (ct := Gh_alone_ct) (calls := Gh_alone_cl) (bs := Gh_alone_bk) (cut := fun pc => Nat.beq pc 4) (f := 5) (I := Gh_alone_I) (by decide) rfl rfl Gh_alone_ck (List.forall_mem_cons.mpr ⟨ax_cwV St_knowersOf_met (by decide) (by decide) rfl (by decide) rfl (ax_m3 193 (by decide +kernel) rfl) St_knowersOf_w rfl St_knowersOf_ds, fun _ h => absurd h List.not_mem_nil⟩) ?_ ?_
  · intro as σ0 hp hH
    match as, hp with
    | [.inr (.inr (.inl (k, 0, 8)))], hp => exact ⟨rfl, Gh_alone_p k σ0 hH hp⟩
  · intro as σ0 hp n pc st ls σ hH hI
    match as, hp, hI with
    | [.inr (.inr (.inl (k, 0, 8)))], hp, hI =>
      rcases ax_bifE hI with ⟨hpc, hI⟩ | ⟨-, hI⟩
      · have := Nat.eq_of_beq_eq_true hpc
        subst this
        match st, ls, hI with
        | [], [.inr (.inr (.inl (k', 0, 8))), .inl v1, .inl v2], hI =>
          obtain ⟨rfl, hI⟩ := hI
          exact Gh_alone_p4 k σ0 hp n v1 v2 σ hH hI
      exact False.elim hI
theorem hvy_s (s : Sta) (n : Nat) : hvy s (n + 1) = if hvy s n = -1 ∨ s.1 (hvy s n).toNat < s.1 n then (n : Int) else hvy s n := rfl
theorem hvy_R (s : Sta) : ∀ n, -1 ≤ hvy s n ∧ hvy s n < (n : Int) := by
  intro n
  induction n with
  | zero => exact ⟨Int.le_refl (-1), (by decide : (-1 : Int) < 0)⟩
  | succ n ih => rw [hvy_s]; split <;> omega
def Gh_heaviest_pre (k : Nat) (σ : Hp) : Prop := k = 0 ∧ XP σ
def Gh_heaviest_post (_k : Nat) (σ : Hp) (r : Int) (σ' : Hp) : Prop := XQ σ σ' ∧ s_heaviest (xA σ) r (xA σ')
def Gh_heaviest_I4 (_k : Nat) (σ0 : Hp) (n : Nat) (v1 v2 : Int) (σ : Hp) : Prop := ∃ i : Nat, v2 = i ∧ i ≤ fN (aF (xA σ0)) ∧ n = 6 - i ∧ σ = σ0 ∧ v1 = hvy (aS (xA σ0)) i
def Gh_heaviest_bk : List (Nat × List Item) := [(0, [(.iconst (-1), 1, [], []), (.istore_n 1, 1, [], []), (.iconst 0, 1, [], []), (.istore_n 2, 1, [], [])]),
  (4, [(.iload_n 2, 1, [], []), (.aload_n 0, 1, [], []), (.getfield 58, 3, [8, 8, 5, 0, 0, 1], []), (.getfield 93, 3, [1, 9, 0, 0, 0, 0], []), (.if_icmp .ge 37, 3, [49], []), (.iload_n 1, 1, [], []), (.iconst (-1), 1, [], []), (.if_icmp .eq 24, 3, [41], []), (.aload_n 0, 1, [], []), (.getfield 47, 3, [8, 5, 4, 31, 0, 7], []), (.getfield 109, 3, [7, 0, 4, 1, 1, 6], []), (.iload_n 2, 1, [], []), (.iaload, 1, [], []), (.aload_n 0, 1, [], []), (.getfield 47, 3, [8, 5, 4, 31, 0, 7], []), (.getfield 109, 3, [7, 0, 4, 1, 1, 6], []), (.iload_n 1, 1, [], []), (.iaload, 1, [], []), (.if_icmp .le 5, 3, [43], [])]),
  (41, [(.iload_n 2, 1, [], []), (.istore_n 1, 1, [], [])]),
  (43, [(.iinc 2 1, 3, [], []), (.goto (-42), 3, [4], [])]),
  (49, [(.iload_n 1, 1, [], []), (.ireturn, 1, [], [])])]
def Gh_heaviest_cl : List (Instr × Nat) := []
set_option maxRecDepth 20000 in
theorem Gh_heaviest_ck : Gh_heaviest_bk.all (fun b => ax_chB 8 3 cX8_heaviest Gh_heaviest_cl b.1 b.2) = true := by decide +kernel
def Gh_heaviest_cs : Ct := (1, 9, 1, (0, 0), fun as σ => (match as with
    | [.inr (.inr (.inl (k, 0, 8)))] => Gh_heaviest_pre k σ
    | _ => False), fun as σ r σ' => (match as with
    | [.inr (.inr (.inl (k, 0, 8)))] => Gh_heaviest_post k σ r σ'
    | _ => False))
theorem Gh_heaviest_w : ∀ w ∈ ([.instanceMethod yX8_heaviest, .selects yX8_heaviest.cls yX8_heaviest yX8_heaviest, .initialized yX8_heaviest.cls, .code yX8_heaviest cX8_heaviest 3 (some .int)] : List Cond), w ∈ ax_tb := ax_w4 (ax_m5 46 (by decide +kernel) rfl) (ax_m5 47 (by decide +kernel) rfl) (ax_m1 1 (by decide +kernel) rfl) (ax_m5 48 (by decide +kernel) rfl)
theorem Gh_heaviest_ds : yX8_heaviest.cls ≠ "java/lang/invoke/MethodHandle" ∧ yX8_heaviest.cls ≠ "java/lang/invoke/VarHandle" ∧ (parseMethodDescriptor yX8_heaviest.desc).map (fun d => d.parameters.length) = some 0 := by decide +kernel
def Gh_heaviest_vc : Prop := ∀ (k : Nat) (σ : Hp), ax_H σ → Gh_heaviest_pre k σ →
  ∃ n' : Nat, k = k ∧ Gh_heaviest_I4 k σ n' (-1) 0 σ
def Gh_heaviest_vc4 : Prop := ∀ (k : Nat) (σ0 : Hp), Gh_heaviest_pre k σ0 → ∀ (n : Nat) (v1 : Int) (v2 : Int) (σ : Hp), ax_H σ → Gh_heaviest_I4 k σ0 n v1 v2 σ →
  (σ (σ k 8).toNat 9 ≤ v2 →
    Gh_heaviest_post k σ0 v1 σ) ∧
  (¬ (σ (σ k 8).toNat 9 ≤ v2) →
    (v1 = (-1) →
      ∃ n' : Nat, n' < n ∧ k = k ∧ Gh_heaviest_I4 k σ0 n' v2 (wr (v2 + 1)) σ) ∧
    (¬ (v1 = (-1)) →
      (0 ≤ v2 ∧ v2 < 6) ∧
      (0 ≤ v1 ∧ v1 < 6) ∧
      (σ (k + 32) v2.toNat ≤ σ (k + 32) v1.toNat →
        ∃ n' : Nat, n' < n ∧ k = k ∧ Gh_heaviest_I4 k σ0 n' v1 (wr (v2 + 1)) σ) ∧
      (¬ (σ (k + 32) v2.toNat ≤ σ (k + 32) v1.toNat) →
        ∃ n' : Nat, n' < n ∧ k = k ∧ Gh_heaviest_I4 k σ0 n' v2 (wr (v2 + 1)) σ)))
theorem Gh_heaviest_p : Gh_heaviest_vc := by
  intro k σ hH hp
  exact ⟨6, rfl, 0, rfl, Nat.zero_le _, rfl, rfl, rfl⟩
theorem Gh_heaviest_p4 : Gh_heaviest_vc4 := by
  intro k σ0 hp n v1 v2 σ hH hI
  obtain ⟨rfl, hP⟩ := hp
  obtain ⟨i, rfl, hi, rfl, rfl, rfl⟩ := hI
  have hX := hP.1
  have hn6 : fN (aF (xA σ)) ≤ 6 := hP.n6
  have e9 : σ (σ 0 8).toNat 9 = (fN (aF (xA σ)) : Int) := xN hX
  have hl := hvy_R (aS (xA σ)) i
  rw [e9, Int.toNat_natCast, wr1 (by omega) (by omega)]
  refine ⟨fun h => ob0 hX ?_, fun h => ⟨fun h2 => ⟨6 - (i + 1), by omega, rfl, i + 1, by simp, by omega, rfl, rfl, ?_⟩, fun h2 => ⟨⟨by omega, by omega⟩, ⟨by omega, by omega⟩, ?_⟩⟩⟩
  · show _ = _; rw [show fN (aF (xA σ)) = i by omega]
  · rw [hvy_s, if_pos (Or.inl h2)]
  · have e1 : σ (0 + 32) i = (aS (xA σ)).1 i := (tr_in (by omega)).symm
    have e2 : σ (0 + 32) (hvy (aS (xA σ)) i).toNat = (aS (xA σ)).1 (hvy (aS (xA σ)) i).toNat := (tr_in (by omega)).symm
    rw [e1, e2]
    refine ⟨fun h3 => ⟨6 - (i + 1), by omega, rfl, i + 1, by simp, by omega, rfl, rfl, ?_⟩, fun h3 => ⟨6 - (i + 1), by omega, rfl, i + 1, by simp, by omega, rfl, rfl, ?_⟩⟩
    · rw [hvy_s, if_neg (by omega)]
    · rw [hvy_s, if_pos (by omega)]
def Gh_heaviest_I : List AV → Hp → Nat → Nat → List AV → List AV → Hp → Prop := fun as σ0 pc n st ls σ => (match as with
    | [.inr (.inr (.inl (k, 0, 8)))] => (bif Nat.beq pc 4 then (match st, ls with
      | [], [.inr (.inr (.inl (k', 0, 8))), .inl v1, .inl v2] => k = k' ∧ Gh_heaviest_I4 k σ0 n v1 v2 σ
      | _, _ => False) else False)
    | _ => False)
def Gh_heaviest_ct : Nat → Ct := fun n => match n with
  | _ => Gh_heaviest_cs
set_option maxRecDepth 20000 in
set_option maxHeartbeats 4000000 in
theorem Gh_heaviest_met {l : Launch} {D : va_G} {ad : Nat → Nat} {ca : Nat → ClassId} {L : Nat} {fx : Nat → Int} : ax_MC l D ad ca L fx yX8_heaviest cX8_heaviest 3 (some .int) 1 Gh_heaviest_cs := by
  refine ax_met (oc := 8) (ct := Gh_heaviest_ct) (calls := Gh_heaviest_cl) (bs := Gh_heaviest_bk) (cut := fun pc => Nat.beq pc 4) (f := 6) (I := Gh_heaviest_I) (by decide) rfl rfl Gh_heaviest_ck (fun _ h => absurd h List.not_mem_nil) ?_ ?_
  · intro as σ0 hp hH
    match as, hp with
    | [.inr (.inr (.inl (k, 0, 8)))], hp => exact ⟨rfl, Gh_heaviest_p k σ0 hH hp⟩
  · intro as σ0 hp n pc st ls σ hH hI
    match as, hp, hI with
    | [.inr (.inr (.inl (k, 0, 8)))], hp, hI =>
      rcases ax_bifE hI with ⟨hpc, hI⟩ | ⟨-, hI⟩
      · have := Nat.eq_of_beq_eq_true hpc
        subst this
        match st, ls, hI with
        | [], [.inr (.inr (.inl (k', 0, 8))), .inl v1, .inl v2], hI =>
          obtain ⟨rfl, hI⟩ := hI
          exact Gh_heaviest_p4 k σ0 hp n v1 v2 σ hH hI
      exact False.elim hI
def Gh_knows_pre (k : Nat) (_a _b : Int) (σ : Hp) : Prop := k = 0 ∧ XP σ
def Gh_knows_post (_k : Nat) (a b : Int) (σ : Hp) (r : Int) (σ' : Hp) : Prop := XQ σ σ' ∧ s_knows (xA σ) a b r (xA σ')
def Gh_knows_I18 (_k : Nat) (a b : Int) (σ0 : Hp) (n : Nat) (v3 v4 : Int) (σ : Hp) : Prop := ∃ i : Nat, v4 = i ∧ i ≤ fN (aF (xA σ0)) ∧ n = 10 * (7 - i) + 8 ∧ σ = σ0 ∧ (0 ≤ a ∧ o01 b) ∧ v3 = (kn (aS (xA σ0)).2.1 i : Nat) ∧ (kn (aS (xA σ0)).2.1 i : Int) ≤ a
def Gh_knows_I33 (_k : Nat) (a b : Int) (σ0 : Hp) (n : Nat) (v3 v4 v5 : Int) (σ : Hp) : Prop := ∃ i j : Nat, v4 = i ∧ v5 = j ∧ i < fN (aF (xA σ0)) ∧ j ≤ fN (aF (xA σ0)) ∧ n = 10 * (7 - i) + (7 - j) ∧ σ = σ0 ∧ (0 ≤ a ∧ o01 b) ∧ v3 = (ix (aS (xA σ0)).2.1 i j : Nat) ∧ (ix (aS (xA σ0)).2.1 i j : Int) ≤ a
def Gh_knows_bk : List (Nat × List Item) := [(0, [(.iload_n 1, 1, [], []), (.ifCond .lt 10, 3, [11], []), (.iload_n 2, 1, [], []), (.invokestatic 182, 3, [0], []), (.ifCond .ne 5, 3, [13], [])]),
  (11, [(.iconst (-1), 1, [], []), (.ireturn, 1, [], [])]),
  (13, [(.iconst 0, 1, [], []), (.istore_n 3, 1, [], []), (.iconst 0, 1, [], []), (.istore 4, 2, [], [])]),
  (18, [(.iload 4, 2, [], []), (.aload_n 0, 1, [], []), (.getfield 58, 3, [8, 8, 5, 0, 0, 1], []), (.getfield 93, 3, [1, 9, 0, 0, 0, 0], []), (.if_icmp .ge 67, 3, [94], []), (.iconst 0, 1, [], []), (.istore 5, 2, [], [])]),
  (33, [(.iload 5, 2, [], []), (.aload_n 0, 1, [], []), (.getfield 58, 3, [8, 8, 5, 0, 0, 1], []), (.getfield 93, 3, [1, 9, 0, 0, 0, 0], []), (.if_icmp .ge 46, 3, [88], []), (.aload_n 0, 1, [], []), (.getfield 47, 3, [8, 5, 4, 31, 0, 7], []), (.iload 4, 2, [], []), (.iload 5, 2, [], []), (.invokevirtual 154, 3, [1], []), (.ifCond .ne 6, 3, [62], []), (.goto 23, 3, [82], [])]),
  (62, [(.iload_n 3, 1, [], []), (.iload_n 1, 1, [], []), (.if_icmp .ne 15, 3, [79], []), (.iload_n 2, 1, [], []), (.ifCond .ne 8, 3, [76], []), (.iload 4, 2, [], []), (.goto 5, 3, [78], [])]),
  (76, [(.iload 5, 2, [], [])]),
  (78, [(.ireturn, 1, [], [])]),
  (79, [(.iinc 3 1, 3, [], [])]),
  (82, [(.iinc 5 1, 3, [], []), (.goto (-52), 3, [33], [])]),
  (88, [(.iinc 4 1, 3, [], []), (.goto (-73), 3, [18], [])]),
  (94, [(.iconst (-1), 1, [], []), (.ireturn, 1, [], [])])]
def Gh_knows_cl : List (Instr × Nat) := [(.invokestatic 182, 0), (.invokevirtual 154, 1)]
set_option maxRecDepth 20000 in
theorem Gh_knows_ck : Gh_knows_bk.all (fun b => ax_chB 8 6 cX8_knows Gh_knows_cl b.1 b.2) = true := by decide +kernel
def Gh_knows_cs : Ct := (3, 9, 1, (0, 0), fun as σ => (match as with
    | [.inr (.inr (.inl (k, 0, 8))), .inl a1, .inl a2] => Gh_knows_pre k a1 a2 σ
    | _ => False), fun as σ r σ' => (match as with
    | [.inr (.inr (.inl (k, 0, 8))), .inl a1, .inl a2] => Gh_knows_post k a1 a2 σ r σ'
    | _ => False))
theorem Gh_knows_w : ∀ w ∈ ([.instanceMethod yX8_knows, .selects yX8_knows.cls yX8_knows yX8_knows, .initialized yX8_knows.cls, .code yX8_knows cX8_knows 6 (some .int)] : List Cond), w ∈ ax_tb := ax_w4 (ax_m4 154 (by decide +kernel) rfl) (ax_m4 155 (by decide +kernel) rfl) (ax_m1 1 (by decide +kernel) rfl) (ax_m4 156 (by decide +kernel) rfl)
theorem Gh_knows_ds : yX8_knows.cls ≠ "java/lang/invoke/MethodHandle" ∧ yX8_knows.cls ≠ "java/lang/invoke/VarHandle" ∧ (parseMethodDescriptor yX8_knows.desc).map (fun d => d.parameters.length) = some 2 := by decide +kernel
def Gh_knows_vc : Prop := ∀ (k : Nat) (a1 : Int) (a2 : Int) (σ : Hp), ax_H σ → Gh_knows_pre k a1 a2 σ →
  (a1 < 0 →
    Gh_knows_post k a1 a2 σ (-1) σ) ∧
  (¬ (a1 < 0) →
    Gh_isOneOfTwo_pre a2 σ ∧
    ∀ (r2 : Int) (σ1 : Hp), Gh_isOneOfTwo_post a2 σ r2 σ1 →
    (¬ r2 = 0 →
      ∃ n' : Nat, k = k ∧ a1 = a1 ∧ a2 = a2 ∧ Gh_knows_I18 k a1 a2 σ n' 0 0 σ1) ∧
    (¬ (¬ r2 = 0) →
      Gh_knows_post k a1 a2 σ (-1) σ1))
def Gh_knows_vc18 : Prop := ∀ (k : Nat) (a1 : Int) (a2 : Int) (σ0 : Hp), Gh_knows_pre k a1 a2 σ0 → ∀ (n : Nat) (v3 : Int) (v4 : Int) (σ : Hp), ax_H σ → Gh_knows_I18 k a1 a2 σ0 n v3 v4 σ →
  (σ (σ k 8).toNat 9 ≤ v4 →
    Gh_knows_post k a1 a2 σ0 (-1) σ) ∧
  (¬ (σ (σ k 8).toNat 9 ≤ v4) →
    ∃ n' : Nat, n' < n ∧ k = k ∧ a1 = a1 ∧ a2 = a2 ∧ Gh_knows_I33 k a1 a2 σ0 n' v3 v4 0 σ)
def Gh_knows_vc33 : Prop := ∀ (k : Nat) (a1 : Int) (a2 : Int) (σ0 : Hp), Gh_knows_pre k a1 a2 σ0 → ∀ (n : Nat) (v3 : Int) (v4 : Int) (v5 : Int) (σ : Hp), ax_H σ → Gh_knows_I33 k a1 a2 σ0 n v3 v4 v5 σ →
  (σ (σ k 8).toNat 9 ≤ v5 →
    ∃ n' : Nat, n' < n ∧ k = k ∧ a1 = a1 ∧ a2 = a2 ∧ Gh_knows_I18 k a1 a2 σ0 n' v3 (wr (v4 + 1)) σ) ∧
  (¬ (σ (σ k 8).toNat 9 ≤ v5) →
    St_isKnown_pre (k + 31) v4 v5 σ ∧
    ∀ (r2 : Int) (σ1 : Hp), St_isKnown_post (k + 31) v4 v5 σ r2 σ1 →
    (¬ r2 = 0 →
      (¬ v3 = a1 →
        ∃ n' : Nat, n' < n ∧ k = k ∧ a1 = a1 ∧ a2 = a2 ∧ Gh_knows_I33 k a1 a2 σ0 n' (wr (v3 + 1)) v4 (wr (v5 + 1)) σ1) ∧
      (¬ (¬ v3 = a1) →
        (¬ a2 = 0 →
          Gh_knows_post k a1 a2 σ0 v5 σ1) ∧
        (¬ (¬ a2 = 0) →
          Gh_knows_post k a1 a2 σ0 v4 σ1))) ∧
    (¬ (¬ r2 = 0) →
      ∃ n' : Nat, n' < n ∧ k = k ∧ a1 = a1 ∧ a2 = a2 ∧ Gh_knows_I33 k a1 a2 σ0 n' v3 v4 (wr (v5 + 1)) σ1))
theorem Gh_knows_p : Gh_knows_vc := by
  intro k a b σ hH hp
  obtain ⟨rfl, hP⟩ := hp
  have hX := hP.1
  refine ⟨fun h => ob0 hX ?_, fun h => ⟨trivial, ?_⟩⟩
  · show if _ then _ else _; rw [if_neg (fun z => by have := z.1; omega)]
  · rintro r2 σ1 ⟨rfl, rfl⟩
    refine ⟨fun h2 => ⟨78, rfl, rfl, rfl, 0, rfl, Nat.zero_le _, rfl, rfl, ⟨by omega, ite1 h2⟩, rfl, by show (0 : Int) ≤ a; omega⟩, fun h2 => ob0 hX ?_⟩
    show if _ then _ else _; rw [if_neg (fun z => ite0' h2 z.2)]
/-- a row's knows lie among the persons -/
theorem pcn_hi {x m : Nat} (h : ∀ j, m ≤ j → ¬ x.testBit j = true) : ∀ d, pcn x (m + d) = pcn x m := by
  intro d
  induction d with
  | zero => rfl
  | succ d ih =>
    rw [← Nat.add_assoc, pcn_s, ih, if_neg (h (m + d) (by omega))]; rfl
theorem VN.row {n p : Nat} {s : Sta} (h : VN n s) (hn : n ≤ 6) : ix s.2.1 p n = kn s.2.1 (p + 1) := by
  unfold ix
  rw [kn_s]
  have := pcn_hi (x := (s.2.1 p).toNat) (m := n) (fun j hj z => by have := (h.2.1 p j z).2.1; omega) (12 - n)
  rw [show n + (12 - n) = 12 by omega] at this
  rw [this]
theorem VN.all {n : Nat} {s : Sta} (h : VN n s) (hn : n ≤ 6) : kn s.2.1 6 = kn s.2.1 n := by
  have : ∀ d, kn s.2.1 (n + d) = kn s.2.1 n := by
    intro d
    induction d with
    | zero => rfl
    | succ d ih =>
      rw [← Nat.add_assoc, kn_s, ih]
      have := pcn_hi (x := (s.2.1 (n + d)).toNat) (m := 0) (fun j hj z => by have := (h.2.1 (n + d) j z).1; omega) 12
      rw [Nat.zero_add] at this
      rw [this]; rfl
  have := this (6 - n)
  rw [show n + (6 - n) = 6 by omega] at this
  exact this
theorem Gh_knows_p18 : Gh_knows_vc18 := by
  intro k a b σ0 hp n v3 v4 σ hH hI
  obtain ⟨rfl, hP⟩ := hp
  obtain ⟨i, rfl, hi, rfl, rfl, hab, rfl, hle⟩ := hI
  have hX := hP.1
  have hn6 : fN (aF (xA σ)) ≤ 6 := hP.n6
  have hV : VN (fN (aF (xA σ))) (aS (xA σ)) := hP.2.2.2.1.2.1
  have e9 : σ (σ 0 8).toNat 9 = (fN (aF (xA σ)) : Int) := xN hX
  rw [e9]
  refine ⟨fun h => ob0 hX ?_, fun h => ⟨10 * (7 - i) + 7, by omega, rfl, rfl, rfl, i, 0, rfl, rfl, by omega, Nat.zero_le _, rfl, rfl, hab, rfl, hle⟩⟩
  show if _ then _ else _
  rw [if_pos hab]
  have e : i = fN (aF (xA σ)) := by omega
  refine Or.inr ⟨rfl, fun p o p6 o6 hb z => ?_⟩
  have := ix_lt p6 (by omega) hb
  rw [hV.all hn6, ← e] at this
  omega
theorem Gh_knows_p33 : Gh_knows_vc33 := by
  intro k a b σ0 hp n v3 v4 v5 σ hH hI
  obtain ⟨rfl, hP⟩ := hp
  obtain ⟨i, j, rfl, rfl, hi, hj, rfl, rfl, hab, rfl, hle⟩ := hI
  have hX := hP.1
  have hn6 : fN (aF (xA σ)) ≤ 6 := hP.n6
  have hV : VN (fN (aF (xA σ))) (aS (xA σ)) := hP.2.2.2.1.2.1
  have e9 : σ (σ 0 8).toNat 9 = (fN (aF (xA σ)) : Int) := xN hX
  have hk12 : kn (aS (xA σ)).2.1 6 ≤ 12 := hP.2.2.2.1.2.2.1
  rw [e9]
  have hixs := ix_s (aS (xA σ)).2.1 i j
  have hbnd : ix (aS (xA σ)).2.1 i j ≤ 12 := by
    have h1 := hV.row (p := i) hn6
    have h2 := kn_mono (aS (xA σ)).2.1 (show i + 1 ≤ 6 by omega)
    have h3 : ix (aS (xA σ)).2.1 i j ≤ ix (aS (xA σ)).2.1 i (fN (aF (xA σ))) := by
      unfold ix
      have := pcn_mono ((aS (xA σ)).2.1 i).toNat hj
      omega
    omega
  refine ⟨fun h => ⟨10 * (7 - (i + 1)) + 8, by omega, rfl, rfl, rfl, i + 1, by rw [wr1 (by omega) (by omega)]; simp, by omega, rfl, rfl, hab, ?_, ?_⟩, fun h => ⟨⟨by omega, by omega, by omega, by omega, hP.ss⟩, ?_⟩⟩
  · rw [← hV.row (p := i) hn6, show fN (aF (xA σ)) = j by omega]
  · rw [← hV.row (p := i) hn6, show fN (aF (xA σ)) = j by omega]; exact hle
  · rintro r2 σ1 ⟨rfl, rfl⟩
    have eb : bt (σ1 (0 + 31 + 2) ((i : Nat) : Int).toNat) ((j : Nat) : Int).toNat = bt ((aS (xA σ1)).2.1 i) j := by
      rw [Int.toNat_natCast, Int.toNat_natCast]
      exact congrArg (fun z => bt z j) (tr_in (show i < 6 by omega)).symm
    rw [eb, wr1 (i := (j : Int)) (by omega) (by omega)]
    cases hb : bt ((aS (xA σ1)).2.1 i) j with
    | true =>
      rw [hb, if_pos rfl] at hixs
      refine ⟨fun _ => ⟨fun h3 => ⟨10 * (7 - i) + (7 - (j + 1)), by omega, rfl, rfl, rfl, i, j + 1, rfl, by simp, hi, by omega, rfl, rfl, hab, ?_, by rw [hixs]; omega⟩, fun h3 => ⟨fun h4 => ob0 hX ?_, fun h4 => ob0 hX ?_⟩⟩, fun z => absurd (by decide) z⟩
      · rw [hixs, wr1 (by omega) (by omega)]; simp
      · show if _ then _ else _
        rw [if_pos hab]
        exact Or.inl ⟨i, j, by omega, by omega, hb, Classical.not_not.mp h3, by rw [if_neg h4]⟩
      · show if _ then _ else _
        rw [if_pos hab]
        exact Or.inl ⟨i, j, by omega, by omega, hb, Classical.not_not.mp h3, by rw [if_pos (Classical.not_not.mp h4)]⟩
    | false =>
      rw [hb, if_neg (by decide)] at hixs
      refine ⟨fun z => absurd rfl z, fun _ => ⟨10 * (7 - i) + (7 - (j + 1)), by omega, rfl, rfl, rfl, i, j + 1, rfl, by simp, hi, by omega, rfl, rfl, hab, by rw [hixs]; simp, by rw [hixs]; omega⟩⟩
def Gh_knows_I : List AV → Hp → Nat → Nat → List AV → List AV → Hp → Prop := fun as σ0 pc n st ls σ => (match as with
    | [.inr (.inr (.inl (k, 0, 8))), .inl a1, .inl a2] => (bif Nat.beq pc 18 then (match st, ls with
      | [], [.inr (.inr (.inl (k', 0, 8))), .inl a1', .inl a2', .inl v3, .inl v4, _] => k = k' ∧ a1 = a1' ∧ a2 = a2' ∧ Gh_knows_I18 k a1 a2 σ0 n v3 v4 σ
      | _, _ => False) else (bif Nat.beq pc 33 then (match st, ls with
      | [], [.inr (.inr (.inl (k', 0, 8))), .inl a1', .inl a2', .inl v3, .inl v4, .inl v5] => k = k' ∧ a1 = a1' ∧ a2 = a2' ∧ Gh_knows_I33 k a1 a2 σ0 n v3 v4 v5 σ
      | _, _ => False) else False))
    | _ => False)
def Gh_knows_ct : Nat → Ct := fun n => match n with
  | 0 => Gh_isOneOfTwo_cs
  | 1 => St_isKnown_cs
  | _ => Gh_knows_cs
set_option maxRecDepth 20000 in
set_option maxHeartbeats 4000000 in
theorem Gh_knows_met {l : Launch} {D : va_G} {ad : Nat → Nat} {ca : Nat → ClassId} {L : Nat} {fx : Nat → Int} : ax_MC l D ad ca L fx yX8_knows cX8_knows 6 (some .int) 2 Gh_knows_cs := by
  refine ax_met (oc := 8) (ct := Gh_knows_ct) (calls := Gh_knows_cl) (bs := Gh_knows_bk) (cut := fun pc => Nat.beq pc 18 || Nat.beq pc 33) (f := 13) (I := Gh_knows_I) (by decide) rfl rfl Gh_knows_ck (List.forall_mem_cons.mpr ⟨ax_cwS Gh_isOneOfTwo_met (by decide) (by decide) (ax_m4 102 (by decide +kernel) rfl) Gh_isOneOfTwo_w rfl Gh_isOneOfTwo_ds, List.forall_mem_cons.mpr ⟨ax_cwV St_isKnown_met (by decide) (by decide) rfl (by decide) rfl (ax_m4 30 (by decide +kernel) rfl) St_isKnown_w rfl St_isKnown_ds, fun _ h => absurd h List.not_mem_nil⟩⟩) ?_ ?_
  · intro as σ0 hp hH
    match as, hp with
    | [.inr (.inr (.inl (k, 0, 8))), .inl a1, .inl a2], hp => exact ⟨rfl, Gh_knows_p k a1 a2 σ0 hH hp⟩
  · intro as σ0 hp n pc st ls σ hH hI
    match as, hp, hI with
    | [.inr (.inr (.inl (k, 0, 8))), .inl a1, .inl a2], hp, hI =>
      rcases ax_bifE hI with ⟨hpc, hI⟩ | ⟨-, hI⟩
      · have := Nat.eq_of_beq_eq_true hpc
        subst this
        match st, ls, hI with
        | [], [.inr (.inr (.inl (k', 0, 8))), .inl a1', .inl a2', .inl v3, .inl v4, _], hI =>
          obtain ⟨rfl, rfl, rfl, hI⟩ := hI
          exact Gh_knows_p18 k a1 a2 σ0 hp n v3 v4 σ hH hI
      rcases ax_bifE hI with ⟨hpc, hI⟩ | ⟨-, hI⟩
      · have := Nat.eq_of_beq_eq_true hpc
        subst this
        match st, ls, hI with
        | [], [.inr (.inr (.inl (k', 0, 8))), .inl a1', .inl a2', .inl v3, .inl v4, .inl v5], hI =>
          obtain ⟨rfl, rfl, rfl, hI⟩ := hI
          exact Gh_knows_p33 k a1 a2 σ0 hp n v3 v4 v5 σ hH hI
      exact False.elim hI
-- what fits
theorem scx_mf {σ : Hp} {f : Nat} : ∀ c ∈ mf f, scx f c ∨ c = 19 ∨ c = 28 := by
  intro c hc
  simp only [mf, mh, sg, List.mem_cons, List.not_mem_nil, or_false] at hc
  unfold scx
  omega
theorem fit_keep {σ σ' : Hp} {a r : Int} (hX : XIr σ) (h : Si_countFitting_post 19 (tld σ) a σ r σ') : XQ σ σ' ∧ xA σ' = xA σ := by
  obtain ⟨g1, g2, g3, g4, -⟩ := h
  obtain ⟨h1, h2, h3, h4, h5, h6, h7, h8⟩ := hX
  have hfo := FO_35 h1.fo
  have e : ∀ c, (c < 3 ∨ (14 ≤ c ∧ c ≤ 18) ∨ (20 ≤ c ∧ c ≤ 24) ∨ (31 ≤ c ∧ c ≤ 34) ∨ 67 ≤ c) → σ' c = σ c := by
    intro c hcc
    refine g1 c (fun z => ?_)
    have := scx_mf (σ := σ) c z
    unfold scx at this
    omega
  have hK : FK (tld σ) σ σ' := FK_of h1.fo g1 (fun c z => by
    have := scx_mf (σ := σ) c z
    unfold scx at this
    omega)
  have e0 := e 0 (by omega)
  have et : tld σ' = tld σ := by unfold tld; rw [e0]
  have e1 := e 1 (by omega)
  have eB : tpX σ' = tpX σ := tpX_eq (by rw [e1]) (e 2 (by omega))
  have eh : hst σ' = hst σ := by funext i; unfold hst; rw [e 14 (by omega), e 15 (by omega)]
  have es : stX σ' 31 = stX σ 31 := stX_eq (fun d hd => e _ (by omega))
  refine ⟨⟨⟨?_, ?_, ?_, ?_, ?_, ?_, ?_, ?_⟩, fun c hcc => e c (by omega)⟩, ?_⟩
  · unfold TD; rw [e0]; exact h1
  · unfold RT; rw [e1]; exact h2
  · rw [et]; exact hK.fs h3
  · unfold HO; rw [e 14 (by omega)]; exact h4
  · rw [g2]; exact h5
  · rw [et]; exact g3
  · rw [e0]; exact h7
  · rw [e 14 (by omega), eh, es]; exact h8
  · unfold xA
    rw [eB, e1, et, hK.fam, es, e0, e 34 (by omega)]
    have eH : hstL σ' = hstL σ := by unfold hstL; rw [eh, e 14 (by omega)]
    have eX : bxX σ' = bxX σ := by funext i; unfold bxX; rw [e 18 (by omega), e 17 (by omega)]
    have eG : sgX σ' = sgX σ := by unfold sgX; rw [g2, e 20 (by omega), e 21 (by omega), e 22 (by omega), e 23 (by omega), e 24 (by omega)]
    rw [eH, eX, eG]
theorem XP.sgo {σ : Hp} (h : XP σ) : SGO σ := by
  refine ⟨h.1.2.2.2.2.1, fun i hi => ?_⟩
  have hG := h.2.2.2.2.2.2.2.2.1
  have hi' : i < (σ 19 9).toNat := by omega
  have := (hG.2 i hi').1
  have e : (aG (xA σ)).2.1 i = σ 20 i := tr_in hi'
  rw [e] at this
  exact this
theorem XP.fit {σ : Hp} (h : XP σ) (a : Int) : Si_countFitting_pre 19 (tld σ) a σ := ⟨rfl, h.1.1.fo, h.1.2.2.1, h.sgo, h.1.2.2.2.2.2.1⟩
def Gh_fits_pre (k : Nat) (_a : Int) (σ : Hp) : Prop := k = 0 ∧ XP σ
def Gh_fits_post (_k : Nat) (a : Int) (σ : Hp) (r : Int) (σ' : Hp) : Prop := XQ σ σ' ∧ s_fits (xA σ) a r (xA σ')
def Gh_fits_bk : List (Nat × List Item) := [(0, [(.aload_n 0, 1, [], []), (.getfield 40, 3, [8, 4, 4, 19, 0, 6], []), (.aload_n 0, 1, [], []), (.getfield 58, 3, [8, 8, 5, 0, 0, 1], []), (.iload_n 1, 1, [], []), (.invokevirtual 249, 3, [0], []), (.ireturn, 1, [], [])])]
def Gh_fits_cl : List (Instr × Nat) := [(.invokevirtual 249, 0)]
set_option maxRecDepth 20000 in
theorem Gh_fits_ck : Gh_fits_bk.all (fun b => ax_chB 8 2 cX8_fits Gh_fits_cl b.1 b.2) = true := by decide +kernel
def Gh_fits_cs : Ct := (2, 9, 1, (0, 0), fun as σ => (match as with
    | [.inr (.inr (.inl (k, 0, 8))), .inl a1] => Gh_fits_pre k a1 σ
    | _ => False), fun as σ r σ' => (match as with
    | [.inr (.inr (.inl (k, 0, 8))), .inl a1] => Gh_fits_post k a1 σ r σ'
    | _ => False))
theorem Gh_fits_w : ∀ w ∈ ([.instanceMethod yX8_fits, .selects yX8_fits.cls yX8_fits yX8_fits, .initialized yX8_fits.cls, .code yX8_fits cX8_fits 2 (some .int)] : List Cond), w ∈ ax_tb := ax_w4 (ax_m5 75 (by decide +kernel) rfl) (ax_m5 76 (by decide +kernel) rfl) (ax_m1 1 (by decide +kernel) rfl) (ax_m5 77 (by decide +kernel) rfl)
theorem Gh_fits_ds : yX8_fits.cls ≠ "java/lang/invoke/MethodHandle" ∧ yX8_fits.cls ≠ "java/lang/invoke/VarHandle" ∧ (parseMethodDescriptor yX8_fits.desc).map (fun d => d.parameters.length) = some 1 := by decide +kernel
def Gh_fits_vc : Prop := ∀ (k : Nat) (a1 : Int) (σ : Hp), ax_H σ → Gh_fits_pre k a1 σ →
  Si_countFitting_pre (k + 19) ((σ k 8).toNat) a1 σ ∧
  ∀ (r2 : Int) (σ1 : Hp), Si_countFitting_post (k + 19) ((σ k 8).toNat) a1 σ r2 σ1 →
  Gh_fits_post k a1 σ r2 σ1
theorem Gh_fits_p : Gh_fits_vc := by
  intro k a σ hH hp
  obtain ⟨rfl, hP⟩ := hp
  refine ⟨hP.fit a, ?_⟩
  intro r2 σ1 h
  have hk := fit_keep hP.1 h
  exact ⟨hk.1, hk.2, h.2.2.2.2.1⟩
def Gh_fits_I : List AV → Hp → Nat → Nat → List AV → List AV → Hp → Prop := fun as σ0 pc n st ls σ => (match as with
    | [.inr (.inr (.inl (k, 0, 8))), .inl a1] => False
    | _ => False)
def Gh_fits_ct : Nat → Ct := fun n => match n with
  | 0 => Si_countFitting_cs
  | _ => Gh_fits_cs
set_option maxRecDepth 20000 in
set_option maxHeartbeats 4000000 in
theorem Gh_fits_met {l : Launch} {D : va_G} {ad : Nat → Nat} {ca : Nat → ClassId} {L : Nat} {fx : Nat → Int} : ax_MC l D ad ca L fx yX8_fits cX8_fits 2 (some .int) 8 Gh_fits_cs := by
  refine ax_met (oc := 8) (ct := Gh_fits_ct) (calls := Gh_fits_cl) (bs := Gh_fits_bk) (cut := fun pc => false) (f := 2) (I := Gh_fits_I) (by decide) rfl rfl Gh_fits_ck (List.forall_mem_cons.mpr ⟨ax_cwV Si_countFitting_met (by decide) (by decide) rfl (by decide) rfl (ax_m5 78 (by decide +kernel) rfl) Si_countFitting_w rfl Si_countFitting_ds, fun _ h => absurd h List.not_mem_nil⟩) ?_ ?_
  · intro as σ0 hp hH
    match as, hp with
    | [.inr (.inr (.inl (k, 0, 8))), .inl a1], hp => exact ⟨rfl, Gh_fits_p k a1 σ0 hH hp⟩
  · intro as σ0 hp n pc st ls σ hH hI
    match as, hp, hI with
    | [.inr (.inr (.inl (k, 0, 8))), .inl a1], hp, hI => exact False.elim hI
theorem Gst_eq {P Q : Nat → Prop} {n : Nat} {r : Int} (h : Gst P n r) (e : ∀ i, i < n → (P i ↔ Q i)) : Gst Q n r := by
  rcases h with ⟨i, h1, h2, h3, h4⟩ | ⟨h1, h2⟩
  · exact Or.inl ⟨i, h1, h2, (e i h1).mp h3, fun j hj hj2 z => h4 j hj hj2 ((e j hj2).mpr z)⟩
  · exact Or.inr ⟨h1, fun j hj z => h2 j hj ((e j hj).mpr z)⟩
def Gh_sure_pre (k : Nat) (_a _b : Int) (σ : Hp) : Prop := k = 0 ∧ XP σ
def Gh_sure_post (_k : Nat) (a b : Int) (σ : Hp) (r : Int) (σ' : Hp) : Prop := XQ σ σ' ∧ s_sure (xA σ) a b r (xA σ')
def Gh_sure_bk : List (Nat × List Item) := [(0, [(.iload_n 1, 1, [], []), (.invokestatic 182, 3, [0], []), (.ifCond .ne 5, 3, [9], []), (.iconst (-1), 1, [], []), (.ireturn, 1, [], [])]),
  (9, [(.aload_n 0, 1, [], []), (.getfield 40, 3, [8, 4, 4, 19, 0, 6], []), (.aload_n 0, 1, [], []), (.getfield 58, 3, [8, 8, 5, 0, 0, 1], []), (.iload_n 2, 1, [], []), (.invokevirtual 249, 3, [1], []), (.pop, 1, [], []), (.iload_n 1, 1, [], []), (.ifCond .ne 13, 3, [36], []), (.aload_n 0, 1, [], []), (.getfield 40, 3, [8, 4, 4, 19, 0, 6], []), (.invokevirtual 253, 3, [2], []), (.goto 10, 3, [43], [])]),
  (36, [(.aload_n 0, 1, [], []), (.getfield 40, 3, [8, 4, 4, 19, 0, 6], []), (.invokevirtual 256, 3, [3], [])]),
  (43, [(.ireturn, 1, [], [])])]
def Gh_sure_cl : List (Instr × Nat) := [(.invokestatic 182, 0), (.invokevirtual 249, 1), (.invokevirtual 253, 2), (.invokevirtual 256, 3)]
set_option maxRecDepth 20000 in
theorem Gh_sure_ck : Gh_sure_bk.all (fun b => ax_chB 8 3 cX8_sure Gh_sure_cl b.1 b.2) = true := by decide +kernel
def Gh_sure_cs : Ct := (3, 9, 1, (0, 0), fun as σ => (match as with
    | [.inr (.inr (.inl (k, 0, 8))), .inl a1, .inl a2] => Gh_sure_pre k a1 a2 σ
    | _ => False), fun as σ r σ' => (match as with
    | [.inr (.inr (.inl (k, 0, 8))), .inl a1, .inl a2] => Gh_sure_post k a1 a2 σ r σ'
    | _ => False))
theorem Gh_sure_w : ∀ w ∈ ([.instanceMethod yX8_sure, .selects yX8_sure.cls yX8_sure yX8_sure, .initialized yX8_sure.cls, .code yX8_sure cX8_sure 3 (some .int)] : List Cond), w ∈ ax_tb := ax_w4 (ax_m5 97 (by decide +kernel) rfl) (ax_m5 98 (by decide +kernel) rfl) (ax_m1 1 (by decide +kernel) rfl) (ax_m5 99 (by decide +kernel) rfl)
theorem Gh_sure_ds : yX8_sure.cls ≠ "java/lang/invoke/MethodHandle" ∧ yX8_sure.cls ≠ "java/lang/invoke/VarHandle" ∧ (parseMethodDescriptor yX8_sure.desc).map (fun d => d.parameters.length) = some 2 := by decide +kernel
def Gh_sure_vc : Prop := ∀ (k : Nat) (a1 : Int) (a2 : Int) (σ : Hp), ax_H σ → Gh_sure_pre k a1 a2 σ →
  Gh_isOneOfTwo_pre a1 σ ∧
  ∀ (r2 : Int) (σ1 : Hp), Gh_isOneOfTwo_post a1 σ r2 σ1 →
  (¬ r2 = 0 →
    Si_countFitting_pre (k + 19) ((σ1 k 8).toNat) a2 σ1 ∧
    ∀ (r4 : Int) (σ3 : Hp), Si_countFitting_post (k + 19) ((σ1 k 8).toNat) a2 σ1 r4 σ3 →
    (¬ a1 = 0 →
      Si_greatestFitting_pre (k + 19) σ3 ∧
      ∀ (r6 : Int) (σ5 : Hp), Si_greatestFitting_post (k + 19) σ3 r6 σ5 →
      Gh_sure_post k a1 a2 σ r6 σ5) ∧
    (¬ (¬ a1 = 0) →
      Si_leastFitting_pre (k + 19) σ3 ∧
      ∀ (r8 : Int) (σ7 : Hp), Si_leastFitting_post (k + 19) σ3 r8 σ7 →
      Gh_sure_post k a1 a2 σ r8 σ7)) ∧
  (¬ (¬ r2 = 0) →
    Gh_sure_post k a1 a2 σ (-1) σ1)
theorem Gh_sure_p : Gh_sure_vc := by
  intro k a b σ hH hp
  obtain ⟨rfl, hP⟩ := hp
  have hX := hP.1
  refine ⟨trivial, ?_⟩
  rintro r2 σ1 ⟨rfl, rfl⟩
  refine ⟨fun h => ⟨hP.fit b, ?_⟩, fun h => ob0 hX ?_⟩
  · intro r4 σ3 h4
    have hk := fit_keep hX h4
    have hv : ∀ c, c < 100 → (¬ σ3 29 c = 0 ↔ fts (aF (xA σ1)) (aG (xA σ1)) b c = true) := by
      intro c hc
      rw [h4.2.2.2.2.2 c hc]
      constructor
      · intro z; exact ite1 z
      · intro z
        rw [if_pos (show fts (famX σ1 (σ1 0 8).toNat) (sgX σ1) b c = true from z)]
        decide
    refine ⟨fun h5 => ⟨rfl, ?_⟩, fun h5 => ⟨rfl, ?_⟩⟩
    · rintro r6 σ5 ⟨rfl, g⟩
      refine ⟨hk.1, hk.2, ?_⟩
      show if _ then _ else _
      rw [if_neg h5, if_pos ((ite1 h).resolve_left h5)]
      exact Gst_eq g hv
    · rintro r6 σ5 ⟨rfl, g⟩
      refine ⟨hk.1, hk.2, ?_⟩
      show if _ then _ else _
      rw [if_pos (Classical.not_not.mp h5)]
      exact Lst_eq g hv
  · show if _ then _ else _
    have := ite0' h
    rw [if_neg (fun z => this (Or.inl z)), if_neg (fun z => this (Or.inr z))]
def Gh_sure_I : List AV → Hp → Nat → Nat → List AV → List AV → Hp → Prop := fun as σ0 pc n st ls σ => (match as with
    | [.inr (.inr (.inl (k, 0, 8))), .inl a1, .inl a2] => False
    | _ => False)
def Gh_sure_ct : Nat → Ct := fun n => match n with
  | 0 => Gh_isOneOfTwo_cs
  | 1 => Si_countFitting_cs
  | 2 => Si_leastFitting_cs
  | 3 => Si_greatestFitting_cs
  | _ => Gh_sure_cs
set_option maxRecDepth 20000 in
set_option maxHeartbeats 4000000 in
theorem Gh_sure_met {l : Launch} {D : va_G} {ad : Nat → Nat} {ca : Nat → ClassId} {L : Nat} {fx : Nat → Int} : ax_MC l D ad ca L fx yX8_sure cX8_sure 3 (some .int) 8 Gh_sure_cs := by
  refine ax_met (oc := 8) (ct := Gh_sure_ct) (calls := Gh_sure_cl) (bs := Gh_sure_bk) (cut := fun pc => false) (f := 5) (I := Gh_sure_I) (by decide) rfl rfl Gh_sure_ck (List.forall_mem_cons.mpr ⟨ax_cwS Gh_isOneOfTwo_met (by decide) (by decide) (ax_m4 102 (by decide +kernel) rfl) Gh_isOneOfTwo_w rfl Gh_isOneOfTwo_ds, List.forall_mem_cons.mpr ⟨ax_cwV Si_countFitting_met (by decide) (by decide) rfl (by decide) rfl (ax_m5 78 (by decide +kernel) rfl) Si_countFitting_w rfl Si_countFitting_ds, List.forall_mem_cons.mpr ⟨ax_cwV Si_leastFitting_met (by decide) (by decide) rfl (by decide) rfl (ax_m5 100 (by decide +kernel) rfl) Si_leastFitting_w rfl Si_leastFitting_ds, List.forall_mem_cons.mpr ⟨ax_cwV Si_greatestFitting_met (by decide) (by decide) rfl (by decide) rfl (ax_m5 104 (by decide +kernel) rfl) Si_greatestFitting_w rfl Si_greatestFitting_ds, fun _ h => absurd h List.not_mem_nil⟩⟩⟩⟩) ?_ ?_
  · intro as σ0 hp hH
    match as, hp with
    | [.inr (.inr (.inl (k, 0, 8))), .inl a1, .inl a2], hp => exact ⟨rfl, Gh_sure_p k a1 a2 σ0 hH hp⟩
  · intro as σ0 hp n pc st ls σ hH hI
    match as, hp, hI with
    | [.inr (.inr (.inl (k, 0, 8))), .inl a1, .inl a2], hp, hI => exact False.elim hI
theorem lc_ext {f f' h h' : Nat → Int} {d : Nat} {v : Int} : ∀ m, (∀ c, c < m → (f c = 0 ↔ f' c = 0) ∧ h (c * 10 + d) = h' (c * 10 + d)) → lc f h d v m = lc f' h' d v m := by
  intro m
  induction m with
  | zero => intro _; rfl
  | succ m ih =>
    intro e
    have e1 := e m (by omega)
    rw [lc_s, lc_s, ih (fun c hc => e c (by omega)), e1.2]
    by_cases z : f m = 0
    · rw [if_neg (fun y => y.1 z), if_neg (fun y => y.1 (e1.1.mp z))]
    · by_cases w : h' (m * 10 + d) = v
      · rw [if_pos ⟨z, w⟩, if_pos ⟨fun y => z (e1.1.mpr y), w⟩]
      · rw [if_neg (fun y => w y.2), if_neg (fun y => w y.2)]
theorem lmx_ext {f f' h h' : Nat → Int} {d m : Nat} (e : ∀ c, c < m → (f c = 0 ↔ f' c = 0) ∧ h (c * 10 + d) = h' (c * 10 + d)) : lmx f h d m = lmx f' h' d m := by
  unfold lmx
  exact mx_ext 7 (fun i _ => lc_ext m e)
theorem bdy_le (g : Nat → Nat) : ∀ n, bdy g n ≤ n := by
  intro n
  induction n with
  | zero => exact Nat.le_refl 0
  | succ n ih => rw [bdy_s]; split <;> omega
theorem bdy_ext {g h : Nat → Nat} : ∀ n, (∀ i, i ≤ n → g i = h i) → bdy g n = bdy h n := by
  intro n
  induction n with
  | zero => intro _; rfl
  | succ n ih =>
    intro e
    have i1 := ih (fun i hi => e i (by omega))
    have hb := bdy_le h n
    rw [bdy_s, bdy_s, i1, e (n + 1) (by omega), e (bdy h n) (by omega)]
def Gh_ask_pre (k : Nat) (_a _b : Int) (σ : Hp) : Prop := k = 0 ∧ XP σ
def Gh_ask_post (_k : Nat) (a b : Int) (σ : Hp) (r : Int) (σ' : Hp) : Prop := XQ σ σ' ∧ s_ask (xA σ) a b r (xA σ')
def Gh_ask_bk : List (Nat × List Item) := [(0, [(.iload_n 1, 1, [], []), (.invokestatic 182, 3, [0], []), (.ifCond .eq 18, 3, [22], []), (.aload_n 0, 1, [], []), (.getfield 40, 3, [8, 4, 4, 19, 0, 6], []), (.aload_n 0, 1, [], []), (.getfield 58, 3, [8, 8, 5, 0, 0, 1], []), (.iload_n 2, 1, [], []), (.invokevirtual 249, 3, [1], []), (.ifCond .ne 5, 3, [24], [])]),
  (22, [(.iconst (-1), 1, [], []), (.ireturn, 1, [], [])]),
  (24, [(.aload_n 0, 1, [], []), (.getfield 40, 3, [8, 4, 4, 19, 0, 6], []), (.invokevirtual 259, 3, [2], []), (.istore_n 3, 1, [], []), (.iload_n 1, 1, [], []), (.ifCond .ne 7, 3, [40], []), (.iload_n 3, 1, [], []), (.goto 11, 3, [48], [])]),
  (40, [(.aload_n 0, 1, [], []), (.getfield 40, 3, [8, 4, 4, 19, 0, 6], []), (.iload_n 3, 1, [], []), (.invokevirtual 262, 3, [3], [])]),
  (48, [(.ireturn, 1, [], [])])]
def Gh_ask_cl : List (Instr × Nat) := [(.invokestatic 182, 0), (.invokevirtual 249, 1), (.invokevirtual 259, 2), (.invokevirtual 262, 3)]
set_option maxRecDepth 20000 in
theorem Gh_ask_ck : Gh_ask_bk.all (fun b => ax_chB 8 4 cX8_ask Gh_ask_cl b.1 b.2) = true := by decide +kernel
def Gh_ask_cs : Ct := (3, 9, 1, (0, 0), fun as σ => (match as with
    | [.inr (.inr (.inl (k, 0, 8))), .inl a1, .inl a2] => Gh_ask_pre k a1 a2 σ
    | _ => False), fun as σ r σ' => (match as with
    | [.inr (.inr (.inl (k, 0, 8))), .inl a1, .inl a2] => Gh_ask_post k a1 a2 σ r σ'
    | _ => False))
theorem Gh_ask_w : ∀ w ∈ ([.instanceMethod yX8_ask, .selects yX8_ask.cls yX8_ask yX8_ask, .initialized yX8_ask.cls, .code yX8_ask cX8_ask 4 (some .int)] : List Cond), w ∈ ax_tb := ax_w4 (ax_m5 109 (by decide +kernel) rfl) (ax_m5 110 (by decide +kernel) rfl) (ax_m1 1 (by decide +kernel) rfl) (ax_m5 111 (by decide +kernel) rfl)
theorem Gh_ask_ds : yX8_ask.cls ≠ "java/lang/invoke/MethodHandle" ∧ yX8_ask.cls ≠ "java/lang/invoke/VarHandle" ∧ (parseMethodDescriptor yX8_ask.desc).map (fun d => d.parameters.length) = some 2 := by decide +kernel
def Gh_ask_vc : Prop := ∀ (k : Nat) (a1 : Int) (a2 : Int) (σ : Hp), ax_H σ → Gh_ask_pre k a1 a2 σ →
  Gh_isOneOfTwo_pre a1 σ ∧
  ∀ (r2 : Int) (σ1 : Hp), Gh_isOneOfTwo_post a1 σ r2 σ1 →
  (r2 = 0 →
    Gh_ask_post k a1 a2 σ (-1) σ1) ∧
  (¬ (r2 = 0) →
    Si_countFitting_pre (k + 19) ((σ1 k 8).toNat) a2 σ1 ∧
    ∀ (r4 : Int) (σ3 : Hp), Si_countFitting_post (k + 19) ((σ1 k 8).toNat) a2 σ1 r4 σ3 →
    (¬ r4 = 0 →
      Si_bestDay_pre (k + 19) σ3 ∧
      ∀ (r6 : Int) (σ5 : Hp), Si_bestDay_post (k + 19) σ3 r6 σ5 →
      (¬ a1 = 0 →
        Si_mostLeft_pre (k + 19) r6 σ5 ∧
        ∀ (r8 : Int) (σ7 : Hp), Si_mostLeft_post (k + 19) r6 σ5 r8 σ7 →
        Gh_ask_post k a1 a2 σ r8 σ7) ∧
      (¬ (¬ a1 = 0) →
        Gh_ask_post k a1 a2 σ r6 σ5)) ∧
    (¬ (¬ r4 = 0) →
      Gh_ask_post k a1 a2 σ (-1) σ3))
theorem nfit_0 {F : Fam} {G : Sgt} {k : Int} (h : fN F = 0) : ∀ m, nfit F G k m = 0 := by
  intro m
  induction m with
  | zero => rfl
  | succ m ih =>
    rw [nfit_s, ih]
    have : fts F G k m = false := by unfold fts; rw [h]; rfl
    rw [this]; rfl
theorem Gh_ask_p : Gh_ask_vc := by
  intro k a b σ hH hp
  obtain ⟨rfl, hP⟩ := hp
  have hX := hP.1
  refine ⟨trivial, ?_⟩
  rintro r2 σ1 ⟨rfl, rfl⟩
  refine ⟨fun h => ob0 hX ?_, fun h => ⟨hP.fit b, ?_⟩⟩
  · show _ = _; rw [if_neg (fun z => ite0 h z.1)]
  · intro r4 σ3 h4
    have hk := fit_keep hX h4
    have h4' : Si_countFitting_post 19 (tld σ1) b σ1 r4 σ3 := h4
    obtain ⟨g1, g2, g3, g4, g5, g6⟩ := h4'
    have hn6 := hP.n6
    refine ⟨fun h5 => ?_, fun h5 => ⟨hk.1, hk.2, ?_⟩⟩
    · have hr : ¬ nfit (aF (xA σ1)) (aG (xA σ1)) b 100 = 0 := fun z => h5 (by rw [g5]; show ((nfit (aF (xA σ1)) (aG (xA σ1)) b 100 : Nat) : Int) = 0; omega)
      have hn0 : 0 < fN (famX σ1 (tld σ1)) := by
        rcases Nat.eq_zero_or_pos (fN (famX σ1 (tld σ1))) with z | z
        · exact absurd (nfit_0 z 100) hr
        · exact z
      have hT := g4 hn0
      have hR : ∀ c, c < 100 → ∀ d, d < 10 → -1 ≤ σ3 28 (c * 10 + d) ∧ σ3 28 (c * 10 + d) < 6 := by
        intro c hc d hd
        rw [hT c hc d hd]
        have := wsn_R (famX σ1 (tld σ1)) c d
        omega
      have el : ∀ d, d < 10 → lmx (σ3 29) (σ3 28) d 100 = lmP (aF (xA σ1)) (aG (xA σ1)) b d := by
        intro d hd
        refine lmx_ext (fun c hc => ⟨?_, ?_⟩)
        · rw [g6 c hc]; rfl
        · rw [hT c hc d hd]
          show _ = wsn (famX σ1 (tld σ1)) ((c * 10 + d) / 10) ((c * 10 + d) % 10)
          rw [show (c * 10 + d) / 10 = c by omega, show (c * 10 + d) % 10 = d by omega]
      have eb : bdy (fun d => lmx (σ3 29) (σ3 28) d 100) 9 = bdy (lmP (aF (xA σ1)) (aG (xA σ1)) b) 9 := bdy_ext 9 (fun i hi => el i (by omega))
      refine ⟨⟨rfl, hR⟩, ?_⟩
      rintro r6 σ5 ⟨b1, rfl⟩
      rw [eb]
      have hb9 := bdy_le (lmP (aF (xA σ1)) (aG (xA σ1)) b) 9
      have XP5 := xA_keep (cs := [30]) hk.1.1 b1 (fun c hc => by
        rw [List.mem_singleton.mp hc]; unfold scx; omega)
      have XQ5 : XQ σ1 σ5 := ⟨XP5.1.1, fun c hc => (XP5.1.2 c hc).trans (hk.1.2 c hc)⟩
      refine ⟨fun h7 => ⟨⟨rfl, by omega, by omega, fun c hc => ?_⟩, ?_⟩, fun h7 => ⟨XQ5, XP5.2.trans hk.2, ?_⟩⟩
      · rw [b1 28 (by decide)]; exact hR c hc _ (by omega)
      · rintro r8 σ7 ⟨c1, rfl⟩
        have XP7 := xA_keep (cs := [30]) XP5.1.1 c1 (fun c hc => by
          rw [List.mem_singleton.mp hc]; unfold scx; omega)
        refine ⟨⟨XP7.1.1, fun c hc => (XP7.1.2 c hc).trans (XQ5.2 c hc)⟩, XP7.2.trans (XP5.2.trans hk.2), ?_⟩
        show _ = _
        rw [if_pos ⟨ite1 h, hr⟩, if_neg h7, b1 28 (by decide), b1 29 (by decide), Int.toNat_natCast, el _ (by omega)]
      · show _ = _
        rw [if_pos ⟨ite1 h, hr⟩, if_pos (Classical.not_not.mp h7)]
    · show _ = _
      have h5' := Classical.not_not.mp h5
      rw [if_neg]
      intro z
      apply z.2
      have : r4 = ((nfit (aF (xA σ1)) (aG (xA σ1)) b 100 : Nat) : Int) := g5
      omega
def Gh_ask_I : List AV → Hp → Nat → Nat → List AV → List AV → Hp → Prop := fun as σ0 pc n st ls σ => (match as with
    | [.inr (.inr (.inl (k, 0, 8))), .inl a1, .inl a2] => False
    | _ => False)
def Gh_ask_ct : Nat → Ct := fun n => match n with
  | 0 => Gh_isOneOfTwo_cs
  | 1 => Si_countFitting_cs
  | 2 => Si_bestDay_cs
  | 3 => Si_mostLeft_cs
  | _ => Gh_ask_cs
set_option maxRecDepth 20000 in
set_option maxHeartbeats 4000000 in
theorem Gh_ask_met {l : Launch} {D : va_G} {ad : Nat → Nat} {ca : Nat → ClassId} {L : Nat} {fx : Nat → Int} : ax_MC l D ad ca L fx yX8_ask cX8_ask 4 (some .int) 8 Gh_ask_cs := by
  refine ax_met (oc := 8) (ct := Gh_ask_ct) (calls := Gh_ask_cl) (bs := Gh_ask_bk) (cut := fun pc => false) (f := 6) (I := Gh_ask_I) (by decide) rfl rfl Gh_ask_ck (List.forall_mem_cons.mpr ⟨ax_cwS Gh_isOneOfTwo_met (by decide) (by decide) (ax_m4 102 (by decide +kernel) rfl) Gh_isOneOfTwo_w rfl Gh_isOneOfTwo_ds, List.forall_mem_cons.mpr ⟨ax_cwV Si_countFitting_met (by decide) (by decide) rfl (by decide) rfl (ax_m5 78 (by decide +kernel) rfl) Si_countFitting_w rfl Si_countFitting_ds, List.forall_mem_cons.mpr ⟨ax_cwV Si_bestDay_met (by decide) (by decide) rfl (by decide) rfl (ax_m5 112 (by decide +kernel) rfl) Si_bestDay_w rfl Si_bestDay_ds, List.forall_mem_cons.mpr ⟨ax_cwV Si_mostLeft_met (by decide) (by decide) rfl (by decide) rfl (ax_m5 121 (by decide +kernel) rfl) Si_mostLeft_w rfl Si_mostLeft_ds, fun _ h => absurd h List.not_mem_nil⟩⟩⟩⟩) ?_ ?_
  · intro as σ0 hp hH
    match as, hp with
    | [.inr (.inr (.inl (k, 0, 8))), .inl a1, .inl a2], hp => exact ⟨rfl, Gh_ask_p k a1 a2 σ0 hH hp⟩
  · intro as σ0 hp n pc st ls σ hH hI
    match as, hp, hI with
    | [.inr (.inr (.inl (k, 0, 8))), .inl a1, .inl a2], hp, hI => exact False.elim hI
theorem kn_ext' {w u : Nat → Int} : ∀ {n : Nat}, (∀ j, j < n → w j = u j) → kn w n = kn u n := by
  intro n
  induction n with
  | zero => intro _; rfl
  | succ n ih => intro h; rw [kn_s, kn_s, ih (fun j hj => h j (by omega)), h n (by omega)]
def Gh_about_pre (k : Nat) (_a : Int) (σ : Hp) : Prop := k = 0 ∧ XP σ
def Gh_about_post (_k : Nat) (a : Int) (σ : Hp) (r : Int) (σ' : Hp) : Prop := XQ σ σ' ∧ s_about (xA σ) a r (xA σ')
def Gh_about_bk : List (Nat × List Item) := [(0, [(.iload_n 1, 1, [], []), (.tableswitch 173 0 12 #[67, 75, 83, 91, 107, 115, 123, 131, 139, 147, 152, 160, 168], 67, [], [(0, 68), (1, 76), (2, 84), (3, 92), (4, 108), (5, 116), (6, 124), (7, 132), (8, 140), (9, 148), (10, 153), (11, 161), (12, 169), (0, 174)])]),
  (68, [(.aload_n 0, 1, [], []), (.getfield 58, 3, [8, 8, 5, 0, 0, 1], []), (.getfield 93, 3, [1, 9, 0, 0, 0, 0], []), (.ireturn, 1, [], [])]),
  (76, [(.aload_n 0, 1, [], []), (.getfield 47, 3, [8, 5, 4, 31, 0, 7], []), (.invokevirtual 157, 3, [0], []), (.ireturn, 1, [], [])]),
  (84, [(.aload_n 0, 1, [], []), (.getfield 58, 3, [8, 8, 5, 0, 0, 1], []), (.getfield 272, 3, [1, 12, 0, 0, 0, 0], []), (.ireturn, 1, [], [])]),
  (92, [(.aload_n 0, 1, [], []), (.getfield 47, 3, [8, 5, 4, 31, 0, 7], []), (.getfield 164, 3, [7, 5, 1, 0, 0, 0], []), (.ifCond .eq 7, 3, [106], []), (.iconst 1, 1, [], []), (.goto 4, 3, [107], [])]),
  (106, [(.iconst 0, 1, [], [])]),
  (107, [(.ireturn, 1, [], [])]),
  (108, [(.aload_n 0, 1, [], []), (.getfield 47, 3, [8, 5, 4, 31, 0, 7], []), (.getfield 132, 3, [7, 3, 0, 0, 0, 0], []), (.ireturn, 1, [], [])]),
  (116, [(.aload_n 0, 1, [], []), (.getfield 47, 3, [8, 5, 4, 31, 0, 7], []), (.getfield 275, 3, [7, 4, 0, 0, 0, 0], []), (.ireturn, 1, [], [])]),
  (124, [(.aload_n 0, 1, [], []), (.getfield 26, 3, [8, 2, 4, 14, 0, 3], []), (.getfield 278, 3, [3, 2, 0, 0, 0, 0], []), (.ireturn, 1, [], [])]),
  (132, [(.aload_n 0, 1, [], []), (.getfield 26, 3, [8, 2, 4, 14, 0, 3], []), (.invokevirtual 281, 3, [1], []), (.ireturn, 1, [], [])]),
  (140, [(.aload_n 0, 1, [], []), (.getfield 40, 3, [8, 4, 4, 19, 0, 6], []), (.getfield 284, 3, [6, 9, 0, 0, 0, 0], []), (.ireturn, 1, [], [])]),
  (148, [(.aload_n 0, 1, [], []), (.getfield 238, 3, [8, 10, 0, 0, 0, 0], []), (.ireturn, 1, [], [])]),
  (153, [(.aload_n 0, 1, [], []), (.getfield 10, 3, [8, 0, 4, 1, 0, 5], []), (.getfield 73, 3, [5, 1, 0, 0, 0, 0], []), (.ireturn, 1, [], [])]),
  (161, [(.aload_n 0, 1, [], []), (.getfield 58, 3, [8, 8, 5, 0, 0, 1], []), (.getfield 287, 3, [1, 14, 0, 0, 0, 0], []), (.ireturn, 1, [], [])]),
  (169, [(.aload_n 0, 1, [], []), (.getfield 90, 3, [8, 7, 0, 0, 0, 0], []), (.ireturn, 1, [], [])]),
  (174, [(.iconst (-1), 1, [], []), (.ireturn, 1, [], [])])]
def Gh_about_cl : List (Instr × Nat) := [(.invokevirtual 157, 0), (.invokevirtual 281, 1)]
set_option maxRecDepth 20000 in
theorem Gh_about_ck : Gh_about_bk.all (fun b => ax_chB 8 2 cX8_about Gh_about_cl b.1 b.2) = true := by decide +kernel
def Gh_about_cs : Ct := (2, 9, 1, (0, 0), fun as σ => (match as with
    | [.inr (.inr (.inl (k, 0, 8))), .inl a1] => Gh_about_pre k a1 σ
    | _ => False), fun as σ r σ' => (match as with
    | [.inr (.inr (.inl (k, 0, 8))), .inl a1] => Gh_about_post k a1 σ r σ'
    | _ => False))
theorem Gh_about_w : ∀ w ∈ ([.instanceMethod yX8_about, .selects yX8_about.cls yX8_about yX8_about, .initialized yX8_about.cls, .code yX8_about cX8_about 2 (some .int)] : List Cond), w ∈ ax_tb := ax_w4 (ax_m5 141 (by decide +kernel) rfl) (ax_m5 142 (by decide +kernel) rfl) (ax_m1 1 (by decide +kernel) rfl) (ax_m5 143 (by decide +kernel) rfl)
theorem Gh_about_ds : yX8_about.cls ≠ "java/lang/invoke/MethodHandle" ∧ yX8_about.cls ≠ "java/lang/invoke/VarHandle" ∧ (parseMethodDescriptor yX8_about.desc).map (fun d => d.parameters.length) = some 1 := by decide +kernel
def Gh_about_vc : Prop := ∀ (k : Nat) (a1 : Int) (σ : Hp), ax_H σ → Gh_about_pre k a1 σ →
  (a1 = 0 →
    Gh_about_post k a1 σ (σ (σ k 8).toNat 9) σ) ∧
  (¬ a1 = 0 →
    (a1 = 1 →
    St_countKnows_pre (k + 31) σ ∧
    ∀ (r2 : Int) (σ1 : Hp), St_countKnows_post (k + 31) σ r2 σ1 →
    Gh_about_post k a1 σ r2 σ1) ∧
  (¬ a1 = 1 →
    (a1 = 2 →
    Gh_about_post k a1 σ (σ (σ k 8).toNat 12) σ) ∧
  (¬ a1 = 2 →
    (a1 = 3 →
    (σ (k + 31) 5 = 0 →
      Gh_about_post k a1 σ 0 σ) ∧
    (¬ (σ (k + 31) 5 = 0) →
      Gh_about_post k a1 σ 1 σ)) ∧
  (¬ a1 = 3 →
    (a1 = 4 →
    Gh_about_post k a1 σ (σ (k + 31) 3) σ) ∧
  (¬ a1 = 4 →
    (a1 = 5 →
    Gh_about_post k a1 σ (σ (k + 31) 4) σ) ∧
  (¬ a1 = 5 →
    (a1 = 6 →
    Gh_about_post k a1 σ (σ (k + 14) 2) σ) ∧
  (¬ a1 = 6 →
    (a1 = 7 →
    Hi_countAhead_pre (k + 14) σ ∧
    ∀ (r4 : Int) (σ3 : Hp), Hi_countAhead_post (k + 14) σ r4 σ3 →
    Gh_about_post k a1 σ r4 σ3) ∧
  (¬ a1 = 7 →
    (a1 = 8 →
    Gh_about_post k a1 σ (σ (k + 19) 9) σ) ∧
  (¬ a1 = 8 →
    (a1 = 9 →
    Gh_about_post k a1 σ (σ k 10) σ) ∧
  (¬ a1 = 9 →
    (a1 = 10 →
    Gh_about_post k a1 σ (σ (k + 1) 1) σ) ∧
  (¬ a1 = 10 →
    (a1 = 11 →
    Gh_about_post k a1 σ (σ (σ k 8).toNat 14) σ) ∧
  (¬ a1 = 11 →
    (a1 = 12 →
    Gh_about_post k a1 σ (σ k 7) σ) ∧
  (¬ a1 = 12 →
    Gh_about_post k a1 σ (-1) σ)))))))))))))
theorem Gh_about_p : Gh_about_vc := by
  intro k a σ hH hp
  obtain ⟨rfl, hP⟩ := hp
  have hX := hP.1
  have hO := hX.2.2.2.1
  have hG := hX.2.2.2.2.1
  have hT := hX.2.1
  have hL := hX.2.2.2.2.2.2.1
  refine ⟨fun w => ob0 hX ?_, fun w0 => ⟨fun w => ⟨hP.ss, ?_⟩, fun w1 => ⟨fun w => ob0 hX ?_, fun w2 => ⟨fun w => ⟨fun h => ob0 hX ?_, fun h => ob0 hX ?_⟩, fun w3 => ⟨fun w => ob0 hX ?_, fun w4 => ⟨fun w => ob0 hX ?_, fun w5 => ⟨fun w => ob0 hX ?_, fun w6 => ⟨fun w => ⟨⟨rfl, hO⟩, ?_⟩, fun w7 => ⟨fun w => ob0 hX ?_, fun w8 => ⟨fun w => ob0 hX ?_, fun w9 => ⟨fun w => ob0 hX ?_, fun w10 => ⟨fun w => ob0 hX ?_, fun w11 => ⟨fun w => ob0 hX ?_, fun w12 => ob0 hX ?_⟩⟩⟩⟩⟩⟩⟩⟩⟩⟩⟩⟩⟩
  · show _ = _; rw [if_pos w]; exact xN hX
  · rintro r2 σ1 ⟨rfl, rfl⟩
    refine ob0 hX ?_
    show _ = _; rw [if_neg w0, if_pos w]
    exact congrArg (fun z : Nat => (z : Int)) (kn_ext' (fun j hj => (tr_in hj).symm))
  · show _ = _; rw [if_neg w0, if_neg w1, if_pos w]; rfl
  · show _ = _; rw [if_neg w0, if_neg w1, if_neg w2, if_pos w]; exact h.symm
  · show _ = _; rw [if_neg w0, if_neg w1, if_neg w2, if_pos w]
    exact ((H_dyed hH (Or.inr (Or.inr rfl))).resolve_left h).symm
  · show _ = _; rw [if_neg w0, if_neg w1, if_neg w2, if_neg w3, if_pos w]; rfl
  · show _ = _; rw [if_neg w0, if_neg w1, if_neg w2, if_neg w3, if_neg w4, if_pos w]; rfl
  · show _ = _; rw [if_neg w0, if_neg w1, if_neg w2, if_neg w3, if_neg w4, if_neg w5, if_pos w]
    have : (aH (xA σ)).1.length = (σ 14 2).toNat := by show (List.map _ _).length = _; simp
    rw [this]
    have := hO.2.1
    show σ 14 2 = _
    omega
  · rintro r4 σ3 ⟨rfl, rfl⟩
    refine ob0 hX ?_
    show _ = _; rw [if_neg w0, if_neg w1, if_neg w2, if_neg w3, if_neg w4, if_neg w5, if_neg w6, if_pos w]
    have : (aH (xA σ3)).2.length = (σ3 14 3).toNat - (σ3 14 2).toNat := by show (List.map _ _).length = _; simp
    rw [this]
    have := hO.2
    omega
  · show _ = _; rw [if_neg w0, if_neg w1, if_neg w2, if_neg w3, if_neg w4, if_neg w5, if_neg w6, if_neg w7, if_pos w]
    show σ 19 9 = (((σ 19 9).toNat : Nat) : Int); omega
  · show _ = _; rw [if_neg w0, if_neg w1, if_neg w2, if_neg w3, if_neg w4, if_neg w5, if_neg w6, if_neg w7, if_neg w8, if_pos w]; rfl
  · show _ = _; rw [if_neg w0, if_neg w1, if_neg w2, if_neg w3, if_neg w4, if_neg w5, if_neg w6, if_neg w7, if_neg w8, if_neg w9, if_pos w]
    exact hT.n.2
  · show _ = _; rw [if_neg w0, if_neg w1, if_neg w2, if_neg w3, if_neg w4, if_neg w5, if_neg w6, if_neg w7, if_neg w8, if_neg w9, if_neg w10, if_pos w]; rfl
  · show _ = _; rw [if_neg w0, if_neg w1, if_neg w2, if_neg w3, if_neg w4, if_neg w5, if_neg w6, if_neg w7, if_neg w8, if_neg w9, if_neg w10, if_neg w11, if_pos w]
    show σ 0 7 = (((σ 0 7).toNat : Nat) : Int); omega
  · show _ = _; rw [if_neg w0, if_neg w1, if_neg w2, if_neg w3, if_neg w4, if_neg w5, if_neg w6, if_neg w7, if_neg w8, if_neg w9, if_neg w10, if_neg w11, if_neg w12]
def Gh_about_I : List AV → Hp → Nat → Nat → List AV → List AV → Hp → Prop := fun as σ0 pc n st ls σ => (match as with
    | [.inr (.inr (.inl (k, 0, 8))), .inl a1] => False
    | _ => False)
def Gh_about_ct : Nat → Ct := fun n => match n with
  | 0 => St_countKnows_cs
  | 1 => Hi_countAhead_cs
  | _ => Gh_about_cs
set_option maxRecDepth 20000 in
set_option maxHeartbeats 4000000 in
theorem Gh_about_met {l : Launch} {D : va_G} {ad : Nat → Nat} {ca : Nat → ClassId} {L : Nat} {fx : Nat → Int} : ax_MC l D ad ca L fx yX8_about cX8_about 2 (some .int) 3 Gh_about_cs := by
  refine ax_met (oc := 8) (ct := Gh_about_ct) (calls := Gh_about_cl) (bs := Gh_about_bk) (cut := fun pc => false) (f := 18) (I := Gh_about_I) (by decide) rfl rfl Gh_about_ck (List.forall_mem_cons.mpr ⟨ax_cwV St_countKnows_met (by decide) (by decide) rfl (by decide) rfl (ax_m4 31 (by decide +kernel) rfl) St_countKnows_w rfl St_countKnows_ds, List.forall_mem_cons.mpr ⟨ax_cwV Hi_countAhead_met (by decide) (by decide) rfl (by decide) rfl (ax_m5 144 (by decide +kernel) rfl) Hi_countAhead_w rfl Hi_countAhead_ds, fun _ h => absurd h List.not_mem_nil⟩⟩) ?_ ?_
  · intro as σ0 hp hH
    match as, hp with
    | [.inr (.inr (.inl (k, 0, 8))), .inl a1], hp => exact ⟨rfl, Gh_about_p k a1 σ0 hH hp⟩
  · intro as σ0 hp n pc st ls σ hH hI
    match as, hp, hI with
    | [.inr (.inr (.inl (k, 0, 8))), .inl a1], hp, hI => exact False.elim hI
