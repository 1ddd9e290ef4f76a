-- THE MODEL: who knows whom, words, alone, heaviest, lies, person
theorem kb_s (w : Nat → Int) (o n : Nat) : kb w o (n + 1) = kb w o n ||| (if bt (w n) o then 2 ^ n else 0) := rfl
theorem kb_N {n : Nat} {s : Sta} (h : VN n s) (o : Nat) : ∀ e, kb s.2.1 o (n + e) = kb s.2.1 o n := by
  intro e
  induction e with
  | zero => rfl
  | succ e ih =>
    rw [← Nat.add_assoc, kb_s, ih, if_neg (fun z => by have := (h.2.1 (n + e) o z).1; omega), Nat.or_zero]
def Mo_knownBy_pre (k : Nat) (a : Int) (σ : Hp) : Prop := k = 67 ∧ 0 ≤ a ∧ a < 6 ∧ NP σ
def Mo_knownBy_post (_k : Nat) (a : Int) (σ : Hp) (r : Int) (σ' : Hp) : Prop := σ' = σ ∧ r = (kb (nowM σ).2.1 a.toNat 6 : Nat)
def Mo_knownBy_I4 (_k : Nat) (a : Int) (σ0 : Hp) (n : Nat) (v2 v3 : Int) (σ : Hp) : Prop := ∃ i : Nat, v3 = i ∧ i ≤ (σ0 67 42).toNat ∧ n = 6 - i ∧ σ = σ0 ∧ v2 = (kb (nowM σ0).2.1 a.toNat i : Nat)
def Mo_knownBy_bk : List (Nat × List Item) := [(0, [(.iconst 0, 1, [], []), (.istore_n 2, 1, [], []), (.iconst 0, 1, [], []), (.istore_n 3, 1, [], [])]),
  (4, [(.iload_n 3, 1, [], []), (.aload_n 0, 1, [], []), (.getfield 304, 3, [9, 42, 0, 0, 0, 0], []), (.if_icmp .ge 27, 3, [36], []), (.iload_n 2, 1, [], []), (.aload_n 0, 1, [], []), (.getfield 85, 3, [9, 46, 4, 23, 1, 16], []), (.bipush 6, 2, [], []), (.iload_n 3, 1, [], []), (.iadd, 1, [], []), (.iaload, 1, [], []), (.iload_n 1, 1, [], []), (.ishr, 1, [], []), (.iconst 1, 1, [], []), (.iand, 1, [], []), (.iload_n 3, 1, [], []), (.ishl, 1, [], []), (.ior, 1, [], []), (.istore_n 2, 1, [], []), (.iinc 3 1, 3, [], []), (.goto (-29), 3, [4], [])]),
  (36, [(.iload_n 2, 1, [], []), (.ireturn, 1, [], [])])]
def Mo_knownBy_cl : List (Instr × Nat) := []
set_option maxRecDepth 20000 in
theorem Mo_knownBy_ck : Mo_knownBy_bk.all (fun b => ax_chB 9 4 cX9_knownBy Mo_knownBy_cl b.1 b.2) = true := by decide +kernel
def Mo_knownBy_cs : Ct := (2, 10, 1, (0, 0), fun as σ => (match as with
    | [.inr (.inr (.inl (k, 0, 9))), .inl a1] => Mo_knownBy_pre k a1 σ
    | _ => False), fun as σ r σ' => (match as with
    | [.inr (.inr (.inl (k, 0, 9))), .inl a1] => Mo_knownBy_post k a1 σ r σ'
    | _ => False))
theorem Mo_knownBy_w : ∀ w ∈ ([.instanceMethod yX9_knownBy, .selects yX9_knownBy.cls yX9_knownBy yX9_knownBy, .initialized yX9_knownBy.cls, .code yX9_knownBy cX9_knownBy 4 (some .int)] : List Cond), w ∈ ax_tb := ax_w4 (ax_m7 92 (by decide +kernel) rfl) (ax_m0 42 (by decide +kernel) rfl) (ax_m1 10 (by decide +kernel) rfl) (ax_m7 93 (by decide +kernel) rfl)
theorem Mo_knownBy_ds : yX9_knownBy.cls ≠ "java/lang/invoke/MethodHandle" ∧ yX9_knownBy.cls ≠ "java/lang/invoke/VarHandle" ∧ (parseMethodDescriptor yX9_knownBy.desc).map (fun d => d.parameters.length) = some 1 := by decide +kernel
def Mo_knownBy_vc : Prop := ∀ (k : Nat) (a1 : Int) (σ : Hp), ax_H σ → Mo_knownBy_pre k a1 σ →
  ∃ n' : Nat, k = k ∧ a1 = a1 ∧ Mo_knownBy_I4 k a1 σ n' 0 0 σ
def Mo_knownBy_vc4 : Prop := ∀ (k : Nat) (a1 : Int) (σ0 : Hp), Mo_knownBy_pre k a1 σ0 → ∀ (n : Nat) (v2 : Int) (v3 : Int) (σ : Hp), ax_H σ → Mo_knownBy_I4 k a1 σ0 n v2 v3 σ →
  (σ k 42 ≤ v3 →
    Mo_knownBy_post k a1 σ0 v2 σ) ∧
  (¬ (σ k 42 ≤ v3) →
    (0 ≤ wr (6 + v3) ∧ wr (6 + v3) < 16) ∧
    ∃ n' : Nat, n' < n ∧ k = k ∧ a1 = a1 ∧ Mo_knownBy_I4 k a1 σ0 n' (iOr v2 (iShl (iAnd (iShr (σ (k + 23) (wr (6 + v3)).toNat) a1) 1) v3)) (wr (v3 + 1)) σ)
theorem Mo_knownBy_p : Mo_knownBy_vc := by
  intro k a σ hH hp
  obtain ⟨rfl, a0, a6, hN⟩ := hp
  exact ⟨6, rfl, rfl, 0, rfl, Nat.zero_le _, rfl, rfl, rfl⟩
theorem Mo_knownBy_p4 : Mo_knownBy_vc4 := by
  intro k a σ0 hp n v2 v3 σ hH hI
  obtain ⟨rfl, a0, a6, hN⟩ := hp
  obtain ⟨i, rfl, hi, rfl, rfl, rfl⟩ := hI
  have hn := hN.1.1
  refine ⟨fun h => ⟨rfl, ?_⟩, fun h => ?_⟩
  · have ei : i = (σ 67 42).toNat := by omega
    have := kb_N hN.2.2 a.toNat (6 - i)
    rw [← ei, show i + (6 - i) = 6 by omega] at this
    rw [this]
  · rw [wr_id (x := 6 + (i : Int)) (by omega) (by omega), show ((6 : Int) + (i : Int)).toNat = 6 + i by omega, wr1 (by omega) (by omega)]
    refine ⟨⟨by omega, by omega⟩, 6 - (i + 1), by omega, rfl, rfl, i + 1, by simp, by omega, rfl, rfl, ?_⟩
    have ek : σ (67 + 23) (6 + i) = (nowM σ).2.1 i := (now_k (by omega)).symm
    have hkR := hN.2.1.2.1 i
    have hl := kb_lt (nowM σ).2.1 a.toNat i
    have h6 : 2 ^ i ≤ 2 ^ 6 := Nat.pow_le_pow_right (by decide) (by omega)
    rw [ek, bit_t hkR.1 (by omega) a0 (by omega), kb_s]
    split
    · rw [shl_1 (by omega) (by omega), Int.toNat_natCast, iOr_n (by omega) (by omega)]
    · rw [Nat.or_zero, show iShl 0 (i : Int) = ((0 : Nat) : Int) by
        have : i = 0 ∨ i = 1 ∨ i = 2 ∨ i = 3 ∨ i = 4 ∨ i = 5 := by omega
        rcases this with rfl | rfl | rfl | rfl | rfl | rfl <;> decide, iOr_n (by omega) (by omega), Nat.or_zero]
def Mo_knownBy_I : List AV → Hp → Nat → Nat → List AV → List AV → Hp → Prop := fun as σ0 pc n st ls σ => (match as with
    | [.inr (.inr (.inl (k, 0, 9))), .inl a1] => (bif Nat.beq pc 4 then (match st, ls with
      | [], [.inr (.inr (.inl (k', 0, 9))), .inl a1', .inl v2, .inl v3] => k = k' ∧ a1 = a1' ∧ Mo_knownBy_I4 k a1 σ0 n v2 v3 σ
      | _, _ => False) else False)
    | _ => False)
def Mo_knownBy_ct : Nat → Ct := fun n => match n with
  | _ => Mo_knownBy_cs
set_option maxRecDepth 20000 in
set_option maxHeartbeats 4000000 in
theorem Mo_knownBy_met {l : Launch} {D : va_G} {ad : Nat → Nat} {ca : Nat → ClassId} {L : Nat} {fx : Nat → Int} : ax_MC l D ad ca L fx yX9_knownBy cX9_knownBy 4 (some .int) 1 Mo_knownBy_cs := by
  refine ax_met (oc := 9) (ct := Mo_knownBy_ct) (calls := Mo_knownBy_cl) (bs := Mo_knownBy_bk) (cut := fun pc => Nat.beq pc 4) (f := 4) (I := Mo_knownBy_I) (by decide) rfl rfl Mo_knownBy_ck (fun _ h => absurd h List.not_mem_nil) ?_ ?_
  · intro as σ0 hp hH
    match as, hp with
    | [.inr (.inr (.inl (k, 0, 9))), .inl a1], hp => exact ⟨rfl, Mo_knownBy_p k a1 σ0 hH hp⟩
  · intro as σ0 hp n pc st ls σ hH hI
    match as, hp, hI with
    | [.inr (.inr (.inl (k, 0, 9))), .inl a1], hp, hI =>
      rcases ax_bifE hI with ⟨hpc, hI⟩ | ⟨-, hI⟩
      · have := Nat.eq_of_beq_eq_true hpc
        subst this
        match st, ls, hI with
        | [], [.inr (.inr (.inl (k', 0, 9))), .inl a1', .inl v2, .inl v3], hI =>
          obtain ⟨rfl, rfl, hI⟩ := hI
          exact Mo_knownBy_p4 k a1 σ0 hp n v2 v3 σ hH hI
      exact False.elim hI
def Mo_isKnown_pre (k : Nat) (a b : Int) (σ : Hp) : Prop := k = 67 ∧ 0 ≤ a ∧ a < 6 ∧ 0 ≤ b ∧ b < 6 ∧ NP σ
def Mo_isKnown_post (_k : Nat) (a b : Int) (σ : Hp) (r : Int) (σ' : Hp) : Prop := σ' = σ ∧ r = if bt ((nowM σ).2.1 a.toNat) b.toNat = true then 1 else 0
def Mo_isKnown_bk : List (Nat × List Item) := [(0, [(.aload_n 0, 1, [], []), (.getfield 85, 3, [9, 46, 4, 23, 1, 16], []), (.bipush 6, 2, [], []), (.iload_n 1, 1, [], []), (.iadd, 1, [], []), (.iaload, 1, [], []), (.iload_n 2, 1, [], []), (.ishr, 1, [], []), (.iconst 1, 1, [], []), (.iand, 1, [], []), (.iconst 1, 1, [], []), (.if_icmp .ne 7, 3, [21], []), (.iconst 1, 1, [], []), (.goto 4, 3, [22], [])]),
  (21, [(.iconst 0, 1, [], [])]),
  (22, [(.ireturn, 1, [], [])])]
def Mo_isKnown_cl : List (Instr × Nat) := []
set_option maxRecDepth 20000 in
theorem Mo_isKnown_ck : Mo_isKnown_bk.all (fun b => ax_chB 9 3 cX9_isKnown Mo_isKnown_cl b.1 b.2) = true := by decide +kernel
def Mo_isKnown_cs : Ct := (3, 10, 2, (0, 0), fun as σ => (match as with
    | [.inr (.inr (.inl (k, 0, 9))), .inl a1, .inl a2] => Mo_isKnown_pre k a1 a2 σ
    | _ => False), fun as σ r σ' => (match as with
    | [.inr (.inr (.inl (k, 0, 9))), .inl a1, .inl a2] => Mo_isKnown_post k a1 a2 σ r σ'
    | _ => False))
theorem Mo_isKnown_w : ∀ w ∈ ([.instanceMethod yX9_isKnown, .selects yX9_isKnown.cls yX9_isKnown yX9_isKnown, .initialized yX9_isKnown.cls, .code yX9_isKnown cX9_isKnown 3 (some .boolean)] : List Cond), w ∈ ax_tb := ax_w4 (ax_m7 140 (by decide +kernel) rfl) (ax_m0 49 (by decide +kernel) rfl) (ax_m1 10 (by decide +kernel) rfl) (ax_m7 141 (by decide +kernel) rfl)
theorem Mo_isKnown_ds : yX9_isKnown.cls ≠ "java/lang/invoke/MethodHandle" ∧ yX9_isKnown.cls ≠ "java/lang/invoke/VarHandle" ∧ (parseMethodDescriptor yX9_isKnown.desc).map (fun d => d.parameters.length) = some 2 := by decide +kernel
def Mo_isKnown_vc : Prop := ∀ (k : Nat) (a1 : Int) (a2 : Int) (σ : Hp), ax_H σ → Mo_isKnown_pre k a1 a2 σ →
  (0 ≤ wr (6 + a1) ∧ wr (6 + a1) < 16) ∧
  (¬ iAnd (iShr (σ (k + 23) (wr (6 + a1)).toNat) a2) 1 = 1 →
    ((0 : Int) = 0 ∨ (0 : Int) = 1) ∧ Mo_isKnown_post k a1 a2 σ 0 σ) ∧
  (¬ (¬ iAnd (iShr (σ (k + 23) (wr (6 + a1)).toNat) a2) 1 = 1) →
    ((1 : Int) = 0 ∨ (1 : Int) = 1) ∧ Mo_isKnown_post k a1 a2 σ 1 σ)
theorem Mo_isKnown_p : Mo_isKnown_vc := by
  intro k a b σ hH hp
  obtain ⟨rfl, a0, a6, b0, b6, hN⟩ := hp
  have hkR := hN.2.1.2.1 a.toNat
  have ek : σ (67 + 23) (6 + a.toNat) = (nowM σ).2.1 a.toNat := (now_k (by omega)).symm
  rw [wr_id (x := 6 + a) (by omega) (by omega), show ((6 : Int) + a).toNat = 6 + a.toNat by omega, ek, bit_01 hkR.1 (by omega) b0 (by omega)]
  refine ⟨⟨by omega, by omega⟩, fun h => ⟨Or.inl rfl, rfl, ?_⟩, fun h => ⟨Or.inr rfl, rfl, ?_⟩⟩
  · rw [if_neg h]
  · rw [if_pos (Classical.not_not.mp h)]
def Mo_isKnown_I : List AV → Hp → Nat → Nat → List AV → List AV → Hp → Prop := fun as σ0 pc n st ls σ => (match as with
    | [.inr (.inr (.inl (k, 0, 9))), .inl a1, .inl a2] => False
    | _ => False)
def Mo_isKnown_ct : Nat → Ct := fun n => match n with
  | _ => Mo_isKnown_cs
set_option maxRecDepth 20000 in
set_option maxHeartbeats 4000000 in
theorem Mo_isKnown_met {l : Launch} {D : va_G} {ad : Nat → Nat} {ca : Nat → ClassId} {L : Nat} {fx : Nat → Int} : ax_MC l D ad ca L fx yX9_isKnown cX9_isKnown 3 (some .boolean) 1 Mo_isKnown_cs := by
  refine ax_met (oc := 9) (ct := Mo_isKnown_ct) (calls := Mo_isKnown_cl) (bs := Mo_isKnown_bk) (cut := fun pc => false) (f := 4) (I := Mo_isKnown_I) (by decide) rfl rfl Mo_isKnown_ck (fun _ h => absurd h List.not_mem_nil) ?_ ?_
  · intro as σ0 hp hH
    match as, hp with
    | [.inr (.inr (.inl (k, 0, 9))), .inl a1, .inl a2], hp => exact ⟨rfl, Mo_isKnown_p k a1 a2 σ0 hH hp⟩
  · intro as σ0 hp n pc st ls σ hH hI
    match as, hp, hI with
    | [.inr (.inr (.inl (k, 0, 9))), .inl a1, .inl a2], hp, hI => exact False.elim hI
def Mo_areTwo_pre (k : Nat) (_a _b : Int) (σ : Hp) : Prop := k = 67 ∧ 0 ≤ σ 67 42 ∧ σ 67 42 ≤ 6
def twoM (σ : Hp) (a b : Int) : Prop := ((0 ≤ a ∧ a < (((σ 67 42).toNat : Nat) : Int)) ∧ (0 ≤ b ∧ b < (((σ 67 42).toNat : Nat) : Int))) ∧ ¬ a = b
def Mo_areTwo_post (_k : Nat) (a b : Int) (σ : Hp) (r : Int) (σ' : Hp) : Prop := σ' = σ ∧ ((r = 1 ∧ twoM σ a b) ∨ (r = 0 ∧ ¬ twoM σ a b))
def Mo_areTwo_bk : List (Nat × List Item) := [(0, [(.aload_n 0, 1, [], []), (.iload_n 1, 1, [], []), (.invokevirtual 398, 3, [0], []), (.ifCond .eq 20, 3, [25], []), (.aload_n 0, 1, [], []), (.iload_n 2, 1, [], []), (.invokevirtual 398, 3, [0], []), (.ifCond .eq 12, 3, [25], []), (.iload_n 1, 1, [], []), (.iload_n 2, 1, [], []), (.if_icmp .eq 7, 3, [25], []), (.iconst 1, 1, [], []), (.goto 4, 3, [26], [])]),
  (25, [(.iconst 0, 1, [], [])]),
  (26, [(.ireturn, 1, [], [])])]
def Mo_areTwo_cl : List (Instr × Nat) := [(.invokevirtual 398, 0)]
set_option maxRecDepth 20000 in
theorem Mo_areTwo_ck : Mo_areTwo_bk.all (fun b => ax_chB 9 3 cX9_areTwo Mo_areTwo_cl b.1 b.2) = true := by decide +kernel
def Mo_areTwo_cs : Ct := (3, 10, 2, (0, 0), fun as σ => (match as with
    | [.inr (.inr (.inl (k, 0, 9))), .inl a1, .inl a2] => Mo_areTwo_pre k a1 a2 σ
    | _ => False), fun as σ r σ' => (match as with
    | [.inr (.inr (.inl (k, 0, 9))), .inl a1, .inl a2] => Mo_areTwo_post k a1 a2 σ r σ'
    | _ => False))
theorem Mo_areTwo_w : ∀ w ∈ ([.instanceMethod yX9_areTwo, .selects yX9_areTwo.cls yX9_areTwo yX9_areTwo, .initialized yX9_areTwo.cls, .code yX9_areTwo cX9_areTwo 3 (some .boolean)] : List Cond), w ∈ ax_tb := ax_w4 (ax_m7 136 (by decide +kernel) rfl) (ax_m0 48 (by decide +kernel) rfl) (ax_m1 10 (by decide +kernel) rfl) (ax_m7 137 (by decide +kernel) rfl)
theorem Mo_areTwo_ds : yX9_areTwo.cls ≠ "java/lang/invoke/MethodHandle" ∧ yX9_areTwo.cls ≠ "java/lang/invoke/VarHandle" ∧ (parseMethodDescriptor yX9_areTwo.desc).map (fun d => d.parameters.length) = some 2 := by decide +kernel
def Mo_areTwo_vc : Prop := ∀ (k : Nat) (a1 : Int) (a2 : Int) (σ : Hp), ax_H σ → Mo_areTwo_pre k a1 a2 σ →
  Mo_isPerson_pre k a1 σ ∧
  ∀ (r2 : Int) (σ1 : Hp), Mo_isPerson_post k a1 σ r2 σ1 →
  (r2 = 0 →
    ((0 : Int) = 0 ∨ (0 : Int) = 1) ∧ Mo_areTwo_post k a1 a2 σ 0 σ1) ∧
  (¬ (r2 = 0) →
    Mo_isPerson_pre k a2 σ1 ∧
    ∀ (r4 : Int) (σ3 : Hp), Mo_isPerson_post k a2 σ1 r4 σ3 →
    (r4 = 0 →
      ((0 : Int) = 0 ∨ (0 : Int) = 1) ∧ Mo_areTwo_post k a1 a2 σ 0 σ3) ∧
    (¬ (r4 = 0) →
      (a1 = a2 →
        ((0 : Int) = 0 ∨ (0 : Int) = 1) ∧ Mo_areTwo_post k a1 a2 σ 0 σ3) ∧
      (¬ (a1 = a2) →
        ((1 : Int) = 0 ∨ (1 : Int) = 1) ∧ Mo_areTwo_post k a1 a2 σ 1 σ3)))
theorem Mo_areTwo_p : Mo_areTwo_vc := by
  intro k a b σ hH hp
  obtain ⟨rfl, hn⟩ := hp
  refine ⟨⟨rfl, hn⟩, ?_⟩
  rintro r2 σ1 ⟨rfl, rfl⟩
  refine ⟨fun h => ⟨Or.inl rfl, rfl, Or.inr ⟨rfl, fun z => ite0 h z.1.1⟩⟩, fun h => ⟨⟨rfl, hn⟩, ?_⟩⟩
  rintro r4 σ3 ⟨rfl, rfl⟩
  exact ⟨fun h2 => ⟨Or.inl rfl, rfl, Or.inr ⟨rfl, fun z => ite0 h2 z.1.2⟩⟩, fun h2 => ⟨fun h3 => ⟨Or.inl rfl, rfl, Or.inr ⟨rfl, fun z => z.2 h3⟩⟩, fun h3 => ⟨Or.inr rfl, rfl, Or.inl ⟨rfl, ⟨ite1 h, ite1 h2⟩, h3⟩⟩⟩⟩
def Mo_areTwo_I : List AV → Hp → Nat → Nat → List AV → List AV → Hp → Prop := fun as σ0 pc n st ls σ => (match as with
    | [.inr (.inr (.inl (k, 0, 9))), .inl a1, .inl a2] => False
    | _ => False)
def Mo_areTwo_ct : Nat → Ct := fun n => match n with
  | 0 => Mo_isPerson_cs
  | _ => Mo_areTwo_cs
set_option maxRecDepth 20000 in
set_option maxHeartbeats 4000000 in
theorem Mo_areTwo_met {l : Launch} {D : va_G} {ad : Nat → Nat} {ca : Nat → ClassId} {L : Nat} {fx : Nat → Int} : ax_MC l D ad ca L fx yX9_areTwo cX9_areTwo 3 (some .boolean) 3 Mo_areTwo_cs := by
  refine ax_met (oc := 9) (ct := Mo_areTwo_ct) (calls := Mo_areTwo_cl) (bs := Mo_areTwo_bk) (cut := fun pc => false) (f := 4) (I := Mo_areTwo_I) (by decide) rfl rfl Mo_areTwo_ck (List.forall_mem_cons.mpr ⟨ax_cwV Mo_isPerson_met (by decide) (by decide) rfl (by decide) rfl (ax_m7 79 (by decide +kernel) rfl) Mo_isPerson_w rfl Mo_isPerson_ds, fun _ h => absurd h List.not_mem_nil⟩) ?_ ?_
  · intro as σ0 hp hH
    match as, hp with
    | [.inr (.inr (.inl (k, 0, 9))), .inl a1, .inl a2], hp => exact ⟨rfl, Mo_areTwo_p k a1 a2 σ0 hH hp⟩
  · intro as σ0 hp n pc st ls σ hH hI
    match as, hp, hI with
    | [.inr (.inr (.inl (k, 0, 9))), .inl a1, .inl a2], hp, hI => exact False.elim hI
def Mo_members_pre (a : Int) (_σ : Hp) : Prop := 0 ≤ a ∧ a < 2147483648
def Mo_members_post (a : Int) (σ : Hp) (r : Int) (σ' : Hp) : Prop := σ' = σ ∧ r = (pc a.toNat : Nat)
def Mo_members_I4 (a : Int) (σ0 : Hp) (n : Nat) (v1 v2 : Int) (σ : Hp) : Prop := ∃ i : Nat, v2 = i ∧ i ≤ 12 ∧ n = 12 - i ∧ σ = σ0 ∧ v1 = (pcn a.toNat i : Nat)
def Mo_members_bk : List (Nat × List Item) := [(0, [(.iconst 0, 1, [], []), (.istore_n 1, 1, [], []), (.iconst 0, 1, [], []), (.istore_n 2, 1, [], [])]),
  (4, [(.iload_n 2, 1, [], []), (.bipush 12, 2, [], []), (.if_icmp .ge 17, 3, [24], []), (.iload_n 1, 1, [], []), (.iload_n 0, 1, [], []), (.iload_n 2, 1, [], []), (.ishr, 1, [], []), (.iconst 1, 1, [], []), (.iand, 1, [], []), (.iadd, 1, [], []), (.istore_n 1, 1, [], []), (.iinc 2 1, 3, [], []), (.goto (-17), 3, [4], [])]),
  (24, [(.iload_n 1, 1, [], []), (.ireturn, 1, [], [])])]
def Mo_members_cl : List (Instr × Nat) := []
set_option maxRecDepth 20000 in
theorem Mo_members_ck : Mo_members_bk.all (fun b => ax_chB 9 3 cX9_members Mo_members_cl b.1 b.2) = true := by decide +kernel
def Mo_members_cs : Ct := (1, 0, 1, (0, 0), fun as σ => (match as with
    | [.inl a1] => Mo_members_pre a1 σ
    | _ => False), fun as σ r σ' => (match as with
    | [.inl a1] => Mo_members_post a1 σ r σ'
    | _ => False))
theorem Mo_members_w : ∀ w ∈ ([.static yX9_members, .initialized yX9_members.cls, .code yX9_members cX9_members 3 (some .int)] : List Cond), w ∈ ax_tb := ax_w3 (ax_m7 147 (by decide +kernel) rfl) (ax_m1 10 (by decide +kernel) rfl) (ax_m7 148 (by decide +kernel) rfl)
theorem Mo_members_ds : yX9_members.cls ≠ "java/lang/invoke/MethodHandle" ∧ yX9_members.cls ≠ "java/lang/invoke/VarHandle" ∧ (parseMethodDescriptor yX9_members.desc).map (fun d => d.parameters.length) = some 1 := by decide +kernel
def Mo_members_vc : Prop := ∀ (a1 : Int) (σ : Hp), ax_H σ → Mo_members_pre a1 σ →
  ∃ n' : Nat, a1 = a1 ∧ Mo_members_I4 a1 σ n' 0 0 σ
def Mo_members_vc4 : Prop := ∀ (a1 : Int) (σ0 : Hp), Mo_members_pre a1 σ0 → ∀ (n : Nat) (v1 : Int) (v2 : Int) (σ : Hp), ax_H σ → Mo_members_I4 a1 σ0 n v1 v2 σ →
  (12 ≤ v2 →
    Mo_members_post a1 σ0 v1 σ) ∧
  (¬ (12 ≤ v2) →
    ∃ n' : Nat, n' < n ∧ a1 = a1 ∧ Mo_members_I4 a1 σ0 n' (wr (v1 + (iAnd (iShr a1 v2) 1))) (wr (v2 + 1)) σ)
theorem Mo_members_p : Mo_members_vc := by
  intro a σ hH hp
  exact ⟨12, rfl, 0, rfl, Nat.zero_le _, rfl, rfl, rfl⟩
theorem Mo_members_p4 : Mo_members_vc4 := by
  intro a σ0 hp n v1 v2 σ hH hI
  obtain ⟨a0, a1⟩ := hp
  obtain ⟨i, rfl, hi, rfl, rfl, rfl⟩ := hI
  refine ⟨fun h => ⟨rfl, by rw [show i = 12 by omega]; rfl⟩, fun h => ?_⟩
  have hl := pcn_le a.toNat i
  rw [bit_t a0 (by omega) (by omega) (by omega), wr1 (by omega) (by omega), Int.toNat_natCast]
  refine ⟨12 - (i + 1), by omega, rfl, i + 1, by simp, by omega, rfl, rfl, ?_⟩
  rw [pcn_s]
  have eb : bt a i = a.toNat.testBit i := rfl
  rw [eb]
  split
  · rw [wr_id (by omega) (by omega)]; omega
  · rw [wr_id (by omega) (by omega)]; omega
def Mo_members_I : List AV → Hp → Nat → Nat → List AV → List AV → Hp → Prop := fun as σ0 pc n st ls σ => (match as with
    | [.inl a1] => (bif Nat.beq pc 4 then (match st, ls with
      | [], [.inl a1', .inl v1, .inl v2] => a1 = a1' ∧ Mo_members_I4 a1 σ0 n v1 v2 σ
      | _, _ => False) else False)
    | _ => False)
def Mo_members_ct : Nat → Ct := fun n => match n with
  | _ => Mo_members_cs
set_option maxRecDepth 20000 in
set_option maxHeartbeats 4000000 in
theorem Mo_members_met {l : Launch} {D : va_G} {ad : Nat → Nat} {ca : Nat → ClassId} {L : Nat} {fx : Nat → Int} : ax_MC l D ad ca L fx yX9_members cX9_members 3 (some .int) 1 Mo_members_cs := by
  refine ax_met (oc := 9) (ct := Mo_members_ct) (calls := Mo_members_cl) (bs := Mo_members_bk) (cut := fun pc => Nat.beq pc 4) (f := 4) (I := Mo_members_I) (by decide) rfl rfl Mo_members_ck (fun _ h => absurd h List.not_mem_nil) ?_ ?_
  · intro as σ0 hp hH
    match as, hp with
    | [.inl a1], hp => exact ⟨rfl, Mo_members_p a1 σ0 hH hp⟩
  · intro as σ0 hp n pc st ls σ hH hI
    match as, hp, hI with
    | [.inl a1], hp, hI =>
      rcases ax_bifE hI with ⟨hpc, hI⟩ | ⟨-, hI⟩
      · have := Nat.eq_of_beq_eq_true hpc
        subst this
        match st, ls, hI with
        | [], [.inl a1', .inl v1, .inl v2], hI =>
          obtain ⟨rfl, hI⟩ := hI
          exact Mo_members_p4 a1 σ0 hp n v1 v2 σ hH hI
      exact False.elim hI
def Mo_allKnows_pre (k : Nat) (σ : Hp) : Prop := k = 67 ∧ NP σ
def Mo_allKnows_post (_k : Nat) (σ : Hp) (r : Int) (σ' : Hp) : Prop := σ' = σ ∧ r = (kn (nowM σ).2.1 6 : Nat)
def Mo_allKnows_I4 (_k : Nat) (σ0 : Hp) (n : Nat) (v1 v2 : Int) (σ : Hp) : Prop := ∃ i : Nat, v2 = i ∧ i ≤ (σ0 67 42).toNat ∧ n = 6 - i ∧ σ = σ0 ∧ v1 = (kn (nowM σ0).2.1 i : Nat)
def Mo_allKnows_bk : List (Nat × List Item) := [(0, [(.iconst 0, 1, [], []), (.istore_n 1, 1, [], []), (.iconst 0, 1, [], []), (.istore_n 2, 1, [], [])]),
  (4, [(.iload_n 2, 1, [], []), (.aload_n 0, 1, [], []), (.getfield 304, 3, [9, 42, 0, 0, 0, 0], []), (.if_icmp .ge 24, 3, [33], []), (.iload_n 1, 1, [], []), (.aload_n 0, 1, [], []), (.getfield 85, 3, [9, 46, 4, 23, 1, 16], []), (.bipush 6, 2, [], []), (.iload_n 2, 1, [], []), (.iadd, 1, [], []), (.iaload, 1, [], []), (.invokestatic 416, 3, [0], []), (.iadd, 1, [], []), (.istore_n 1, 1, [], []), (.iinc 2 1, 3, [], []), (.goto (-26), 3, [4], [])]),
  (33, [(.iload_n 1, 1, [], []), (.ireturn, 1, [], [])])]
def Mo_allKnows_cl : List (Instr × Nat) := [(.invokestatic 416, 0)]
set_option maxRecDepth 20000 in
theorem Mo_allKnows_ck : Mo_allKnows_bk.all (fun b => ax_chB 9 3 cX9_allKnows Mo_allKnows_cl b.1 b.2) = true := by decide +kernel
def Mo_allKnows_cs : Ct := (1, 10, 1, (0, 0), fun as σ => (match as with
    | [.inr (.inr (.inl (k, 0, 9)))] => Mo_allKnows_pre k σ
    | _ => False), fun as σ r σ' => (match as with
    | [.inr (.inr (.inl (k, 0, 9)))] => Mo_allKnows_post k σ r σ'
    | _ => False))
theorem Mo_allKnows_w : ∀ w ∈ ([.instanceMethod yX9_allKnows, .selects yX9_allKnows.cls yX9_allKnows yX9_allKnows, .initialized yX9_allKnows.cls, .code yX9_allKnows cX9_allKnows 3 (some .int)] : List Cond), w ∈ ax_tb := ax_w4 (ax_m7 144 (by decide +kernel) rfl) (ax_m0 50 (by decide +kernel) rfl) (ax_m1 10 (by decide +kernel) rfl) (ax_m7 145 (by decide +kernel) rfl)
theorem Mo_allKnows_ds : yX9_allKnows.cls ≠ "java/lang/invoke/MethodHandle" ∧ yX9_allKnows.cls ≠ "java/lang/invoke/VarHandle" ∧ (parseMethodDescriptor yX9_allKnows.desc).map (fun d => d.parameters.length) = some 0 := by decide +kernel
def Mo_allKnows_vc : Prop := ∀ (k : Nat) (σ : Hp), ax_H σ → Mo_allKnows_pre k σ →
  ∃ n' : Nat, k = k ∧ Mo_allKnows_I4 k σ n' 0 0 σ
def Mo_allKnows_vc4 : Prop := ∀ (k : Nat) (σ0 : Hp), Mo_allKnows_pre k σ0 → ∀ (n : Nat) (v1 : Int) (v2 : Int) (σ : Hp), ax_H σ → Mo_allKnows_I4 k σ0 n v1 v2 σ →
  (σ k 42 ≤ v2 →
    Mo_allKnows_post k σ0 v1 σ) ∧
  (¬ (σ k 42 ≤ v2) →
    (0 ≤ wr (6 + v2) ∧ wr (6 + v2) < 16) ∧
    Mo_members_pre (σ (k + 23) (wr (6 + v2)).toNat) σ ∧
    ∀ (r2 : Int) (σ1 : Hp), Mo_members_post (σ (k + 23) (wr (6 + v2)).toNat) σ r2 σ1 →
    ∃ n' : Nat, n' < n ∧ k = k ∧ Mo_allKnows_I4 k σ0 n' (wr (v1 + r2)) (wr (v2 + 1)) σ1)
theorem Mo_allKnows_p : Mo_allKnows_vc := by
  intro k σ hH hp
  obtain ⟨rfl, hN⟩ := hp
  exact ⟨6, rfl, 0, rfl, Nat.zero_le _, rfl, rfl, rfl⟩
theorem Mo_allKnows_p4 : Mo_allKnows_vc4 := by
  intro k σ0 hp n v1 v2 σ hH hI
  obtain ⟨rfl, hN⟩ := hp
  obtain ⟨i, rfl, hi, rfl, rfl, rfl⟩ := hI
  have hn := hN.1.1
  refine ⟨fun h => ⟨rfl, ?_⟩, fun h => ?_⟩
  · rw [VN.all hN.2.2 (by omega), show (σ 67 42).toNat = i by omega]
  · have ek : σ (67 + 23) (6 + i) = (nowM σ).2.1 i := (now_k (by omega)).symm
    have hkR := hN.2.1.2.1 i
    rw [wr_id (x := 6 + (i : Int)) (by omega) (by omega), show ((6 : Int) + (i : Int)).toNat = 6 + i by omega, wr1 (by omega) (by omega), ek]
    refine ⟨⟨by omega, by omega⟩, ⟨hkR.1, by omega⟩, ?_⟩
    rintro r2 σ1 ⟨rfl, rfl⟩
    have hl := kn_le (nowM σ1).2.1 i
    have hp := pcn_le ((nowM σ1).2.1 i).toNat 12
    refine ⟨6 - (i + 1), by omega, rfl, i + 1, by simp, by omega, rfl, rfl, ?_⟩
    rw [kn_s]
    unfold pc
    rw [wr_id (by omega) (by omega)]
    omega
def Mo_allKnows_I : List AV → Hp → Nat → Nat → List AV → List AV → Hp → Prop := fun as σ0 pc n st ls σ => (match as with
    | [.inr (.inr (.inl (k, 0, 9)))] => (bif Nat.beq pc 4 then (match st, ls with
      | [], [.inr (.inr (.inl (k', 0, 9))), .inl v1, .inl v2] => k = k' ∧ Mo_allKnows_I4 k σ0 n v1 v2 σ
      | _, _ => False) else False)
    | _ => False)
def Mo_allKnows_ct : Nat → Ct := fun n => match n with
  | 0 => Mo_members_cs
  | _ => Mo_allKnows_cs
set_option maxRecDepth 20000 in
set_option maxHeartbeats 4000000 in
theorem Mo_allKnows_met {l : Launch} {D : va_G} {ad : Nat → Nat} {ca : Nat → ClassId} {L : Nat} {fx : Nat → Int} : ax_MC l D ad ca L fx yX9_allKnows cX9_allKnows 3 (some .int) 2 Mo_allKnows_cs := by
  refine ax_met (oc := 9) (ct := Mo_allKnows_ct) (calls := Mo_allKnows_cl) (bs := Mo_allKnows_bk) (cut := fun pc => Nat.beq pc 4) (f := 4) (I := Mo_allKnows_I) (by decide) rfl rfl Mo_allKnows_ck (List.forall_mem_cons.mpr ⟨ax_cwS Mo_members_met (by decide) (by decide) (ax_m7 146 (by decide +kernel) rfl) Mo_members_w rfl Mo_members_ds, fun _ h => absurd h List.not_mem_nil⟩) ?_ ?_
  · intro as σ0 hp hH
    match as, hp with
    | [.inr (.inr (.inl (k, 0, 9)))], hp => exact ⟨rfl, Mo_allKnows_p k σ0 hH hp⟩
  · intro as σ0 hp n pc st ls σ hH hI
    match as, hp, hI with
    | [.inr (.inr (.inl (k, 0, 9)))], hp, hI =>
      rcases ax_bifE hI with ⟨hpc, hI⟩ | ⟨-, hI⟩
      · have := Nat.eq_of_beq_eq_true hpc
        subst this
        match st, ls, hI with
        | [], [.inr (.inr (.inl (k', 0, 9))), .inl v1, .inl v2], hI =>
          obtain ⟨rfl, hI⟩ := hI
          exact Mo_allKnows_p4 k σ0 hp n v1 v2 σ hH hI
      exact False.elim hI
def Mo_words_pre (k : Nat) (σ : Hp) : Prop := k = 67 ∧ MP σ
def Mo_words_post (_k : Nat) (σ : Hp) (r : Int) (σ' : Hp) : Prop := MQo σ σ' ∧ ∀ d, s_words (mA d σ) r (mA d σ')
def Mo_words_I9 (_k : Nat) (σ0 : Hp) (m : Nat) (v1 v2 v3 : Int) (σ : Hp) : Prop := ∃ i : Nat, v3 = i ∧ i ≤ (σ0 67 42).toNat ∧ m = 10 * (7 - i) ∧ Fr af σ0 σ ∧ (∀ d, v1 = (itr (famM d σ0) 0 (nowM σ0) 1).2.2.1) ∧ ∀ d, v2 = (wto (famM d σ0) (nowM σ0) (σ0 67 42).toNat i : Nat)
def Mo_words_I20 (_k : Nat) (σ0 : Hp) (m : Nat) (v1 v2 v3 v4 : Int) (σ : Hp) : Prop := ∃ i j : Nat, v3 = i ∧ v4 = j ∧ i < (σ0 67 42).toNat ∧ j ≤ (σ0 67 42).toNat ∧ m = 10 * (6 - i) + (9 - j) ∧ Fr af σ0 σ ∧ (∀ d, v1 = (itr (famM d σ0) 0 (nowM σ0) 1).2.2.1) ∧ ∀ d, v2 = (wto (famM d σ0) (nowM σ0) (σ0 67 42).toNat i + wrw (famM d σ0) (nowM σ0) i j : Nat)
def Mo_words_bk : List (Nat × List Item) := [(0, [(.aload_n 0, 1, [], []), (.invokevirtual 457, 3, [0], []), (.istore_n 1, 1, [], []), (.iconst 0, 1, [], []), (.istore_n 2, 1, [], []), (.iconst 0, 1, [], []), (.istore_n 3, 1, [], [])]),
  (9, [(.iload_n 3, 1, [], []), (.aload_n 0, 1, [], []), (.getfield 304, 3, [9, 42, 0, 0, 0, 0], []), (.if_icmp .ge 97, 3, [111], []), (.iconst 0, 1, [], []), (.istore 4, 2, [], [])]),
  (20, [(.iload 4, 2, [], []), (.aload_n 0, 1, [], []), (.getfield 304, 3, [9, 42, 0, 0, 0, 0], []), (.if_icmp .ge 79, 3, [105], []), (.iload 4, 2, [], []), (.iload_n 3, 1, [], []), (.if_icmp .eq 67, 3, [99], []), (.aload_n 0, 1, [], []), (.iload_n 3, 1, [], []), (.iload 4, 2, [], []), (.invokevirtual 423, 3, [1], []), (.ifCond .ne 57, 3, [99], []), (.iload_n 1, 1, [], []), (.iload_n 3, 1, [], []), (.if_icmp .ne 6, 3, [53], []), (.goto 49, 3, [99], [])]),
  (53, [(.aload_n 0, 1, [], []), (.invokevirtual 401, 3, [2], []), (.aload_n 0, 1, [], []), (.getfield 88, 3, [9, 47, 4, 24, 1, 16], []), (.bipush 6, 2, [], []), (.iload_n 3, 1, [], []), (.iadd, 1, [], []), (.dup2, 1, [], []), (.iaload, 1, [], []), (.iconst 1, 1, [], []), (.iload 4, 2, [], []), (.ishl, 1, [], []), (.ior, 1, [], []), (.iastore, 1, [], []), (.aload_n 0, 1, [], []), (.invokevirtual 435, 3, [3], []), (.iload_n 2, 1, [], []), (.aload_n 0, 1, [], []), (.getfield 88, 3, [9, 47, 4, 24, 1, 16], []), (.bipush 12, 2, [], []), (.iaload, 1, [], []), (.iload_n 3, 1, [], []), (.if_icmp .ne 7, 3, [93], []), (.iconst 1, 1, [], []), (.goto 4, 3, [94], [])]),
  (93, [(.iconst 0, 1, [], [])]),
  (94, [(.invokestatic 300, 3, [4], []), (.iadd, 1, [], []), (.istore_n 2, 1, [], [])]),
  (99, [(.iinc 4 1, 3, [], []), (.goto (-82), 3, [20], [])]),
  (105, [(.iinc 3 1, 3, [], []), (.goto (-99), 3, [9], [])]),
  (111, [(.iload_n 2, 1, [], []), (.ireturn, 1, [], [])])]
def Mo_words_cl : List (Instr × Nat) := [(.invokevirtual 457, 0), (.invokevirtual 423, 1), (.invokevirtual 401, 2), (.invokevirtual 435, 3), (.invokestatic 300, 4)]
set_option maxRecDepth 20000 in
theorem Mo_words_ck : Mo_words_bk.all (fun b => ax_chB 9 5 cX9_words Mo_words_cl b.1 b.2) = true := by decide +kernel
def Mo_words_cs : Ct := (1, 10, 1, (0, 0), fun as σ => (match as with
    | [.inr (.inr (.inl (k, 0, 9)))] => Mo_words_pre k σ
    | _ => False), fun as σ r σ' => (match as with
    | [.inr (.inr (.inl (k, 0, 9)))] => Mo_words_post k σ r σ'
    | _ => False))
theorem Mo_words_w : ∀ w ∈ ([.instanceMethod yX9_words, .selects yX9_words.cls yX9_words yX9_words, .initialized yX9_words.cls, .code yX9_words cX9_words 5 (some .int)] : List Cond), w ∈ ax_tb := ax_w4 (ax_m8 6 (by decide +kernel) rfl) (ax_m8 7 (by decide +kernel) rfl) (ax_m1 10 (by decide +kernel) rfl) (ax_m8 8 (by decide +kernel) rfl)
theorem Mo_words_ds : yX9_words.cls ≠ "java/lang/invoke/MethodHandle" ∧ yX9_words.cls ≠ "java/lang/invoke/VarHandle" ∧ (parseMethodDescriptor yX9_words.desc).map (fun d => d.parameters.length) = some 0 := by decide +kernel
def Mo_words_vc : Prop := ∀ (k : Nat) (σ : Hp), ax_H σ → Mo_words_pre k σ →
  Mo_next_pre k σ ∧
  ∀ (r2 : Int) (σ1 : Hp), Mo_next_post k σ r2 σ1 →
  ∃ n' : Nat, k = k ∧ Mo_words_I9 k σ n' r2 0 0 σ1
def Mo_words_vc9 : Prop := ∀ (k : Nat) (σ0 : Hp), Mo_words_pre k σ0 → ∀ (n : Nat) (v1 : Int) (v2 : Int) (v3 : Int) (σ : Hp), ax_H σ → Mo_words_I9 k σ0 n v1 v2 v3 σ →
  (σ k 42 ≤ v3 →
    Mo_words_post k σ0 v2 σ) ∧
  (¬ (σ k 42 ≤ v3) →
    ∃ n' : Nat, n' < n ∧ k = k ∧ Mo_words_I20 k σ0 n' v1 v2 v3 0 σ)
def Mo_words_vc20 : Prop := ∀ (k : Nat) (σ0 : Hp), Mo_words_pre k σ0 → ∀ (n : Nat) (v1 : Int) (v2 : Int) (v3 : Int) (v4 : Int) (σ : Hp), ax_H σ → Mo_words_I20 k σ0 n v1 v2 v3 v4 σ →
  (σ k 42 ≤ v4 →
    ∃ n' : Nat, n' < n ∧ k = k ∧ Mo_words_I9 k σ0 n' v1 v2 (wr (v3 + 1)) σ) ∧
  (¬ (σ k 42 ≤ v4) →
    (v4 = v3 →
      ∃ n' : Nat, n' < n ∧ k = k ∧ Mo_words_I20 k σ0 n' v1 v2 v3 (wr (v4 + 1)) σ) ∧
    (¬ (v4 = v3) →
      Mo_isKnown_pre k v3 v4 σ ∧
      ∀ (r2 : Int) (σ1 : Hp), Mo_isKnown_post k v3 v4 σ r2 σ1 →
      (¬ r2 = 0 →
        ∃ n' : Nat, n' < n ∧ k = k ∧ Mo_words_I20 k σ0 n' v1 v2 v3 (wr (v4 + 1)) σ1) ∧
      (¬ (¬ r2 = 0) →
        (¬ v1 = v3 →
          Mo_load_pre k σ1 ∧
          ∀ σ3 : Hp, Mo_load_post k σ1 σ3 →
          (0 ≤ wr (6 + v3) ∧ wr (6 + v3) < 16) ∧
          (0 ≤ wr (6 + v3) ∧ wr (6 + v3) < 16) ∧
          ∀ σ4 : Hp, σ4 = hp σ3 (k + 24) (wr (6 + v3)).toNat (iOr (σ3 (k + 24) (wr (6 + v3)).toNat) (iShl 1 v4)) →
          Mo_goDay_pre k σ4 ∧
          ∀ σ5 : Hp, Mo_goDay_post k σ4 σ5 →
          (0 ≤ (12 : Int) ∧ (12 : Int) < 16) ∧
          (¬ σ5 (k + 24) 12 = v3 →
            Mo_truth_pre 0 σ5 ∧
            ∀ (r7 : Int) (σ6 : Hp), Mo_truth_post 0 σ5 r7 σ6 →
            ∃ n' : Nat, n' < n ∧ k = k ∧ Mo_words_I20 k σ0 n' v1 (wr (v2 + r7)) v3 (wr (v4 + 1)) σ6) ∧
          (¬ (¬ σ5 (k + 24) 12 = v3) →
            Mo_truth_pre 1 σ5 ∧
            ∀ (r9 : Int) (σ8 : Hp), Mo_truth_post 1 σ5 r9 σ8 →
            ∃ n' : Nat, n' < n ∧ k = k ∧ Mo_words_I20 k σ0 n' v1 (wr (v2 + r9)) v3 (wr (v4 + 1)) σ8)) ∧
        (¬ (¬ v1 = v3) →
          ∃ n' : Nat, n' < n ∧ k = k ∧ Mo_words_I20 k σ0 n' v1 v2 v3 (wr (v4 + 1)) σ1))))
theorem Mo_words_p : Mo_words_vc := by
  intro k σ hH hp
  obtain ⟨rfl, hP⟩ := hp
  refine ⟨⟨rfl, hP⟩, ?_⟩
  rintro r2 σ1 ⟨g0, g1, g2⟩
  exact ⟨70, rfl, 0, rfl, Nat.zero_le _, rfl, g1, g2, fun d => rfl⟩
theorem Mo_words_p9 : Mo_words_vc9 := by
  intro k σ0 hp m v1 v2 v3 σ hH hI
  obtain ⟨rfl, hP⟩ := hp
  obtain ⟨i, rfl, hi, rfl, hf, hv1, hv2⟩ := hI
  have hn := hP.n6
  rw [hf 67 (by decide)]
  refine ⟨fun h => om1 hP.1 hf scm_af (fun d => ?_), fun h => ⟨10 * (6 - i) + 9, by omega, rfl, i, 0, rfl, rfl, by omega, Nat.zero_le _, rfl, hf, hv1, fun d => by rw [hv2 d]; rfl⟩⟩
  show _ = _
  have ei : fN (aF (mA d σ0)) = i := by show (σ0 67 42).toNat = i; omega
  rw [hv2 d, ei, show (σ0 67 42).toNat = i by omega]; rfl
theorem Mo_words_p20 : Mo_words_vc20 := by
  intro k σ0 hp0 m v1 v2 v3 v4 σ hH hI
  obtain ⟨rfl, hP⟩ := hp0
  obtain ⟨i, j, rfl, rfl, hi, hj, rfl, hf, hv1, hv2⟩ := hI
  have hn := hP.n6
  have hN := hP.np
  have e67 : σ 67 = σ0 67 := hf 67 (by decide)
  have F := hN.fr hf (by simp [af])
  rw [e67]
  have hl1 := wto_le (famM 0 σ0) (nowM σ0) (σ0 67 42).toNat i
  have hl2 := wrw_le (famM 0 σ0) (nowM σ0) i j
  have hl3 : (σ0 67 42).toNat * i ≤ 6 * 6 := Nat.mul_le_mul (by omega) (by omega)
  have hv20 := hv2 0
  have go : ∀ (σ2 : Hp) (w : Int), j < (σ0 67 42).toNat → Fr af σ0 σ2 → (∀ d, w = v2 + (wdt (famM d σ0) (nowM σ0) i j : Nat)) →
      ∃ n' : Nat, n' < 10 * (6 - i) + (9 - j) ∧ (67 : Nat) = 67 ∧ Mo_words_I20 67 σ0 n' v1 w i ((j : Int) + 1) σ2 := by
    intro σ2 w h0 h1 h2
    refine ⟨10 * (6 - i) + (9 - (j + 1)), by omega, rfl, i, j + 1, rfl, by simp, hi, by omega, rfl, h1, hv1, fun d => ?_⟩
    rw [h2 d, wrw_s, hv2 d]
    omega
  refine ⟨fun h => ?_, fun h => ⟨fun h2 => ?_, fun h2 => ?_⟩⟩
  · rw [wr1 (by omega) (by omega)]
    refine ⟨10 * (7 - (i + 1)), by omega, rfl, i + 1, by simp, by omega, rfl, hf, hv1, fun d => ?_⟩
    rw [wto_s, hv2 d, show j = (σ0 67 42).toNat by omega]
  · rw [wr1 (by omega) (by omega)]
    refine go σ v2 (by omega) hf (fun d => ?_)
    unfold wdt
    rw [if_neg (fun z => z.1 (by omega))]
    simp
  · refine ⟨⟨rfl, by omega, by omega, by omega, by omega, F.1⟩, ?_⟩
    rintro r2 σ1 ⟨rfl, rfl⟩
    rw [F.2.2, Int.toNat_natCast, Int.toNat_natCast, wr1 (by omega) (by omega)]
    refine ⟨fun h3 => go σ1 v2 (by omega) hf (fun d => ?_), fun h3 => ⟨fun h4 => ⟨rfl, ?_⟩, fun h4 => go σ1 v2 (by omega) hf (fun d => ?_)⟩⟩
    · unfold wdt
      rw [if_neg (fun z => z.2.1 (ite1 h3))]
      simp
    · have hbf : ¬ bt ((nowM σ0).2.1 i) j = true := ite0' h3
      intro σ3 g
      obtain ⟨L1, L2, L3, L4, L5⟩ := hN.load2 hf g
      have hkR := hN.2.1.2.1 i
      have h26 : 2 ^ j < 2 ^ 6 := Nat.pow_lt_pow_right (by decide) (by omega)
      have ek : σ3 (67 + 24) (6 + i) = (nowM σ0).2.1 i := by rw [← L3]; exact (air_k (by omega)).symm
      have hor : ((nowM σ0).2.1 i).toNat ||| 2 ^ j < 2 ^ 6 := Nat.or_lt_two_pow (by omega) h26
      have ev : iOr ((nowM σ0).2.1 i) (iShl 1 (j : Int)) = ((((nowM σ0).2.1 i).toNat ||| 2 ^ j : Nat) : Int) := by
        rw [shl_1 (by omega) (by omega), Int.toNat_natCast]
        have hz : (nowM σ0).2.1 i = ((((nowM σ0).2.1 i).toNat : Nat) : Int) := by omega
        rw [hz, Int.toNat_natCast, iOr_n (by omega) (by omega)]
      rw [wr_id (x := 6 + (i : Int)) (by omega) (by omega), show ((6 : Int) + (i : Int)).toNat = 6 + i by omega, ek, ev]
      refine ⟨⟨by omega, by omega⟩, ⟨by omega, by omega⟩, ?_⟩
      rintro σ4 rfl
      have W := L1.wk (b := i) (v := ((((nowM σ0).2.1 i).toNat ||| 2 ^ j : Nat) : Int)) (by omega) ⟨by omega, by omega⟩ (fun o ho => by
        rw [L4 67 (by decide)]
        rw [bt_n, Nat.testBit_or, Bool.or_eq_true] at ho
        rcases ho with z | z
        · exact hN.2.2.2.1 i o z
        · rw [Nat.testBit_two_pow] at z
          have : j = o := of_decide_eq_true z
          exact ⟨hi, by omega, by omega⟩)
      have R : Rn σ0 (hp σ3 (67 + 24) (6 + i) ((((nowM σ0).2.1 i).toNat ||| 2 ^ j : Nat) : Int)) (wkn (nowM σ0) i ((((nowM σ0).2.1 i).toNat ||| 2 ^ j : Nat) : Int)) 0 0 :=
        ⟨W.1, fun d => (W.2 d).trans (L2 d), fun d => (air_wk (by omega)).trans (by rw [L3]; rfl), hN.2.1.2.2.1.2⟩
      obtain ⟨p1, p2⟩ := R.day (by omega)
      refine ⟨p1, fun σ5 g5 => ⟨by decide, ?_⟩⟩
      obtain ⟨q1, q2⟩ := p2 σ5 g5
      have f5 : Fr af σ0 σ5 := (Fr.hp L4 (by simp [af])).tr q1
      refine ⟨fun h7 => ⟨trivial, ?_⟩, fun h7 => ⟨trivial, ?_⟩⟩
      · rintro r7 σ6 ⟨rfl, rfl⟩
        rw [tr0, wr_id (by omega) (by omega)]
        refine go σ6 _ (by omega) f5 (fun d => ?_)
        unfold wdt
        rw [if_neg (fun z => h7 ((q2.h d).trans z.2.2.2))]
        simp
      · rintro r7 σ6 ⟨rfl, rfl⟩
        rw [tr1, wr_id (by omega) (by omega)]
        refine go σ6 _ (by omega) f5 (fun d => ?_)
        unfold wdt
        rw [if_pos ⟨by omega, hbf, fun z => h4 ((hv1 d).trans z), (q2.h d).symm.trans (Classical.not_not.mp h7)⟩]
        simp
    · unfold wdt
      rw [if_neg (fun z => z.2.2.1 ((hv1 d).symm.trans (Classical.not_not.mp h4)))]
      simp
def Mo_words_I : List AV → Hp → Nat → Nat → List AV → List AV → Hp → Prop := fun as σ0 pc n st ls σ => (match as with
    | [.inr (.inr (.inl (k, 0, 9)))] => (bif Nat.beq pc 9 then (match st, ls with
      | [], [.inr (.inr (.inl (k', 0, 9))), .inl v1, .inl v2, .inl v3, _] => k = k' ∧ Mo_words_I9 k σ0 n v1 v2 v3 σ
      | _, _ => False) else (bif Nat.beq pc 20 then (match st, ls with
      | [], [.inr (.inr (.inl (k', 0, 9))), .inl v1, .inl v2, .inl v3, .inl v4] => k = k' ∧ Mo_words_I20 k σ0 n v1 v2 v3 v4 σ
      | _, _ => False) else False))
    | _ => False)
def Mo_words_ct : Nat → Ct := fun n => match n with
  | 0 => Mo_next_cs
  | 1 => Mo_isKnown_cs
  | 2 => Mo_load_cs
  | 3 => Mo_goDay_cs
  | 4 => Mo_truth_cs
  | _ => Mo_words_cs
set_option maxRecDepth 20000 in
set_option maxHeartbeats 4000000 in
theorem Mo_words_met {l : Launch} {D : va_G} {ad : Nat → Nat} {ca : Nat → ClassId} {L : Nat} {fx : Nat → Int} : ax_MC l D ad ca L fx yX9_words cX9_words 5 (some .int) 10 Mo_words_cs := by
  refine ax_met (oc := 9) (ct := Mo_words_ct) (calls := Mo_words_cl) (bs := Mo_words_bk) (cut := fun pc => Nat.beq pc 9 || Nat.beq pc 20) (f := 10) (I := Mo_words_I) (by decide) rfl rfl Mo_words_ck (List.forall_mem_cons.mpr ⟨ax_cwV Mo_next_met (by decide) (by decide) rfl (by decide) rfl (ax_m8 9 (by decide +kernel) rfl) Mo_next_w rfl Mo_next_ds, List.forall_mem_cons.mpr ⟨ax_cwV Mo_isKnown_met (by decide) (by decide) rfl (by decide) rfl (ax_m7 138 (by decide +kernel) rfl) Mo_isKnown_w rfl Mo_isKnown_ds, List.forall_mem_cons.mpr ⟨ax_cwV Mo_load_met (by decide) (by decide) rfl (by decide) rfl (ax_m7 86 (by decide +kernel) rfl) Mo_load_w rfl Mo_load_ds, List.forall_mem_cons.mpr ⟨ax_cwV Mo_goDay_met (by decide) (by decide) rfl (by decide) rfl (ax_m7 189 (by decide +kernel) rfl) Mo_goDay_w rfl Mo_goDay_ds, List.forall_mem_cons.mpr ⟨ax_cwS Mo_truth_met (by decide) (by decide) (ax_m7 58 (by decide +kernel) rfl) Mo_truth_w rfl Mo_truth_ds, fun _ h => absurd h List.not_mem_nil⟩⟩⟩⟩⟩) ?_ ?_
  · intro as σ0 hp hH
    match as, hp with
    | [.inr (.inr (.inl (k, 0, 9)))], hp => exact ⟨rfl, Mo_words_p k σ0 hH hp⟩
  · intro as σ0 hp n pc st ls σ hH hI
    match as, hp, hI with
    | [.inr (.inr (.inl (k, 0, 9)))], hp, hI =>
      rcases ax_bifE hI with ⟨hpc, hI⟩ | ⟨-, hI⟩
      · have := Nat.eq_of_beq_eq_true hpc
        subst this
        match st, ls, hI with
        | [], [.inr (.inr (.inl (k', 0, 9))), .inl v1, .inl v2, .inl v3, _], hI =>
          obtain ⟨rfl, hI⟩ := hI
          exact Mo_words_p9 k σ0 hp n v1 v2 v3 σ hH hI
      rcases ax_bifE hI with ⟨hpc, hI⟩ | ⟨-, hI⟩
      · have := Nat.eq_of_beq_eq_true hpc
        subst this
        match st, ls, hI with
        | [], [.inr (.inr (.inl (k', 0, 9))), .inl v1, .inl v2, .inl v3, .inl v4], hI =>
          obtain ⟨rfl, hI⟩ := hI
          exact Mo_words_p20 k σ0 hp n v1 v2 v3 v4 σ hH hI
      exact False.elim hI
def Mo_alone_pre (k : Nat) (σ : Hp) : Prop := k = 67 ∧ MP σ
def Mo_alone_post (_k : Nat) (σ : Hp) (r : Int) (σ' : Hp) : Prop := MQo σ σ' ∧ ∀ d, s_alone (mA d σ) r (mA d σ')
def Mo_alone_I4 (_k : Nat) (σ0 : Hp) (n : Nat) (v1 v2 : Int) (σ : Hp) : Prop := ∃ i : Nat, v2 = i ∧ i ≤ (σ0 67 42).toNat ∧ n = 6 - i ∧ σ = σ0 ∧ v1 = (alo (nowM σ0) i : Nat)
def Mo_alone_bk : List (Nat × List Item) := [(0, [(.iconst 0, 1, [], []), (.istore_n 1, 1, [], []), (.iconst 0, 1, [], []), (.istore_n 2, 1, [], [])]),
  (4, [(.iload_n 2, 1, [], []), (.aload_n 0, 1, [], []), (.getfield 304, 3, [9, 42, 0, 0, 0, 0], []), (.if_icmp .ge 42, 3, [51], []), (.iload_n 1, 1, [], []), (.aload_n 0, 1, [], []), (.getfield 85, 3, [9, 46, 4, 23, 1, 16], []), (.bipush 6, 2, [], []), (.iload_n 2, 1, [], []), (.iadd, 1, [], []), (.iaload, 1, [], []), (.ifCond .ne 15, 3, [37], []), (.aload_n 0, 1, [], []), (.iload_n 2, 1, [], []), (.invokevirtual 404, 3, [0], []), (.ifCond .ne 7, 3, [37], []), (.iconst 1, 1, [], []), (.goto 4, 3, [38], [])]),
  (37, [(.iconst 0, 1, [], [])]),
  (38, [(.invokestatic 300, 3, [1], []), (.iload_n 2, 1, [], []), (.ishl, 1, [], []), (.ior, 1, [], []), (.istore_n 1, 1, [], []), (.iinc 2 1, 3, [], []), (.goto (-44), 3, [4], [])]),
  (51, [(.iload_n 1, 1, [], []), (.ireturn, 1, [], [])])]
def Mo_alone_cl : List (Instr × Nat) := [(.invokevirtual 404, 0), (.invokestatic 300, 1)]
set_option maxRecDepth 20000 in
theorem Mo_alone_ck : Mo_alone_bk.all (fun b => ax_chB 9 3 cX9_alone Mo_alone_cl b.1 b.2) = true := by decide +kernel
def Mo_alone_cs : Ct := (1, 10, 1, (0, 0), fun as σ => (match as with
    | [.inr (.inr (.inl (k, 0, 9)))] => Mo_alone_pre k σ
    | _ => False), fun as σ r σ' => (match as with
    | [.inr (.inr (.inl (k, 0, 9)))] => Mo_alone_post k σ r σ'
    | _ => False))
theorem Mo_alone_w : ∀ w ∈ ([.instanceMethod yX9_alone, .selects yX9_alone.cls yX9_alone yX9_alone, .initialized yX9_alone.cls, .code yX9_alone cX9_alone 3 (some .int)] : List Cond), w ∈ ax_tb := ax_w4 (ax_m8 57 (by decide +kernel) rfl) (ax_m8 58 (by decide +kernel) rfl) (ax_m1 10 (by decide +kernel) rfl) (ax_m8 59 (by decide +kernel) rfl)
theorem Mo_alone_ds : yX9_alone.cls ≠ "java/lang/invoke/MethodHandle" ∧ yX9_alone.cls ≠ "java/lang/invoke/VarHandle" ∧ (parseMethodDescriptor yX9_alone.desc).map (fun d => d.parameters.length) = some 0 := by decide +kernel
def Mo_alone_vc : Prop := ∀ (k : Nat) (σ : Hp), ax_H σ → Mo_alone_pre k σ →
  ∃ n' : Nat, k = k ∧ Mo_alone_I4 k σ n' 0 0 σ
def Mo_alone_vc4 : Prop := ∀ (k : Nat) (σ0 : Hp), Mo_alone_pre k σ0 → ∀ (n : Nat) (v1 : Int) (v2 : Int) (σ : Hp), ax_H σ → Mo_alone_I4 k σ0 n v1 v2 σ →
  (σ k 42 ≤ v2 →
    Mo_alone_post k σ0 v1 σ) ∧
  (¬ (σ k 42 ≤ v2) →
    (0 ≤ wr (6 + v2) ∧ wr (6 + v2) < 16) ∧
    (¬ σ (k + 23) (wr (6 + v2)).toNat = 0 →
      Mo_truth_pre 0 σ ∧
      ∀ (r2 : Int) (σ1 : Hp), Mo_truth_post 0 σ r2 σ1 →
      ∃ n' : Nat, n' < n ∧ k = k ∧ Mo_alone_I4 k σ0 n' (iOr v1 (iShl r2 v2)) (wr (v2 + 1)) σ1) ∧
    (¬ (¬ σ (k + 23) (wr (6 + v2)).toNat = 0) →
      Mo_knownBy_pre k v2 σ ∧
      ∀ (r4 : Int) (σ3 : Hp), Mo_knownBy_post k v2 σ r4 σ3 →
      (¬ r4 = 0 →
        Mo_truth_pre 0 σ3 ∧
        ∀ (r6 : Int) (σ5 : Hp), Mo_truth_post 0 σ3 r6 σ5 →
        ∃ n' : Nat, n' < n ∧ k = k ∧ Mo_alone_I4 k σ0 n' (iOr v1 (iShl r6 v2)) (wr (v2 + 1)) σ5) ∧
      (¬ (¬ r4 = 0) →
        Mo_truth_pre 1 σ3 ∧
        ∀ (r8 : Int) (σ7 : Hp), Mo_truth_post 1 σ3 r8 σ7 →
        ∃ n' : Nat, n' < n ∧ k = k ∧ Mo_alone_I4 k σ0 n' (iOr v1 (iShl r8 v2)) (wr (v2 + 1)) σ7)))
theorem shl0 {i : Nat} (h : i < 6) : iShl 0 (i : Int) = ((0 : Nat) : Int) := by
  have : i = 0 ∨ i = 1 ∨ i = 2 ∨ i = 3 ∨ i = 4 ∨ i = 5 := by omega
  rcases this with rfl | rfl | rfl | rfl | rfl | rfl <;> decide
theorem Mo_alone_p : Mo_alone_vc := by
  intro k σ hH hp
  exact ⟨6, rfl, 0, rfl, Nat.zero_le _, rfl, rfl, rfl⟩
theorem Mo_alone_p4 : Mo_alone_vc4 := by
  intro k σ0 hp n v1 v2 σ hH hI
  obtain ⟨rfl, hP⟩ := hp
  obtain ⟨i, rfl, hi, rfl, rfl, rfl⟩ := hI
  have hn := hP.n6
  have hN := hP.np
  have hl := alo_lt (nowM σ) i
  refine ⟨fun h => om0 hP.1 (fun d => ?_), fun h => ?_⟩
  · show _ = _
    have ei : fN (aF (mA d σ)) = i := by show (σ 67 42).toNat = i; omega
    rw [ei]; rfl
  · have h26 : 2 ^ i < 2 ^ 6 := Nat.pow_lt_pow_right (by decide) (by omega)
    have ek : σ (67 + 23) (6 + i) = (nowM σ).2.1 i := (now_k (by omega)).symm
    rw [wr_id (x := 6 + (i : Int)) (by omega) (by omega), show ((6 : Int) + (i : Int)).toNat = 6 + i by omega, wr1 (by omega) (by omega), ek]
    refine ⟨⟨by omega, by omega⟩, fun h2 => ⟨trivial, ?_⟩, fun h2 => ⟨⟨rfl, by omega, by omega, hN⟩, ?_⟩⟩
    · rintro r2 σ1 ⟨rfl, rfl⟩
      refine ⟨6 - (i + 1), by omega, rfl, i + 1, by simp, by omega, rfl, rfl, ?_⟩
      rw [tr0, alo_s, if_neg (fun z => h2 z.1), shl0 (by omega), iOr_n (by omega) (by omega)]
    · rintro r4 σ3 ⟨rfl, rfl⟩
      rw [Int.toNat_natCast]
      refine ⟨fun h3 => ⟨trivial, ?_⟩, fun h3 => ⟨trivial, ?_⟩⟩
      · rintro r2 σ1 ⟨rfl, rfl⟩
        refine ⟨6 - (i + 1), by omega, rfl, i + 1, by simp, by omega, rfl, rfl, ?_⟩
        rw [tr0, alo_s, if_neg (fun z => h3 (by rw [z.2]; rfl)), shl0 (by omega), iOr_n (by omega) (by omega)]
      · rintro r2 σ1 ⟨rfl, rfl⟩
        refine ⟨6 - (i + 1), by omega, rfl, i + 1, by simp, by omega, rfl, rfl, ?_⟩
        rw [tr1, alo_s, if_pos ⟨Classical.not_not.mp h2, by omega⟩, shl_1 (by omega) (by omega), Int.toNat_natCast, iOr_n (by omega) (by omega)]
def Mo_alone_I : List AV → Hp → Nat → Nat → List AV → List AV → Hp → Prop := fun as σ0 pc n st ls σ => (match as with
    | [.inr (.inr (.inl (k, 0, 9)))] => (bif Nat.beq pc 4 then (match st, ls with
      | [], [.inr (.inr (.inl (k', 0, 9))), .inl v1, .inl v2] => k = k' ∧ Mo_alone_I4 k σ0 n v1 v2 σ
      | _, _ => False) else False)
    | _ => False)
def Mo_alone_ct : Nat → Ct := fun n => match n with
  | 0 => Mo_knownBy_cs
  | 1 => Mo_truth_cs
  | _ => Mo_alone_cs
set_option maxRecDepth 20000 in
set_option maxHeartbeats 4000000 in
theorem Mo_alone_met {l : Launch} {D : va_G} {ad : Nat → Nat} {ca : Nat → ClassId} {L : Nat} {fx : Nat → Int} : ax_MC l D ad ca L fx yX9_alone cX9_alone 3 (some .int) 2 Mo_alone_cs := by
  refine ax_met (oc := 9) (ct := Mo_alone_ct) (calls := Mo_alone_cl) (bs := Mo_alone_bk) (cut := fun pc => Nat.beq pc 4) (f := 6) (I := Mo_alone_I) (by decide) rfl rfl Mo_alone_ck (List.forall_mem_cons.mpr ⟨ax_cwV Mo_knownBy_met (by decide) (by decide) rfl (by decide) rfl (ax_m7 90 (by decide +kernel) rfl) Mo_knownBy_w rfl Mo_knownBy_ds, List.forall_mem_cons.mpr ⟨ax_cwS Mo_truth_met (by decide) (by decide) (ax_m7 58 (by decide +kernel) rfl) Mo_truth_w rfl Mo_truth_ds, fun _ h => absurd h List.not_mem_nil⟩⟩) ?_ ?_
  · intro as σ0 hp hH
    match as, hp with
    | [.inr (.inr (.inl (k, 0, 9)))], hp => exact ⟨rfl, Mo_alone_p k σ0 hH hp⟩
  · intro as σ0 hp n pc st ls σ hH hI
    match as, hp, hI with
    | [.inr (.inr (.inl (k, 0, 9)))], hp, hI =>
      rcases ax_bifE hI with ⟨hpc, hI⟩ | ⟨-, hI⟩
      · have := Nat.eq_of_beq_eq_true hpc
        subst this
        match st, ls, hI with
        | [], [.inr (.inr (.inl (k', 0, 9))), .inl v1, .inl v2], hI =>
          obtain ⟨rfl, hI⟩ := hI
          exact Mo_alone_p4 k σ0 hp n v1 v2 σ hH hI
      exact False.elim hI
def Mo_heaviest_pre (k : Nat) (σ : Hp) : Prop := k = 67 ∧ MP σ
def Mo_heaviest_post (_k : Nat) (σ : Hp) (r : Int) (σ' : Hp) : Prop := MQo σ σ' ∧ ∀ d, s_heaviest (mA d σ) r (mA d σ')
def Mo_heaviest_I4 (_k : Nat) (σ0 : Hp) (n : Nat) (v1 v2 : Int) (σ : Hp) : Prop := ∃ i : Nat, v2 = i ∧ i ≤ (σ0 67 42).toNat ∧ n = 6 - i ∧ σ = σ0 ∧ v1 = hvy (nowM σ0) i
def Mo_heaviest_bk : List (Nat × List Item) := [(0, [(.iconst (-1), 1, [], []), (.istore_n 1, 1, [], []), (.iconst 0, 1, [], []), (.istore_n 2, 1, [], [])]),
  (4, [(.iload_n 2, 1, [], []), (.aload_n 0, 1, [], []), (.getfield 304, 3, [9, 42, 0, 0, 0, 0], []), (.if_icmp .ge 34, 3, [43], []), (.iload_n 1, 1, [], []), (.ifCond .lt 18, 3, [31], []), (.aload_n 0, 1, [], []), (.getfield 85, 3, [9, 46, 4, 23, 1, 16], []), (.iload_n 2, 1, [], []), (.iaload, 1, [], []), (.aload_n 0, 1, [], []), (.getfield 85, 3, [9, 46, 4, 23, 1, 16], []), (.iload_n 1, 1, [], []), (.iaload, 1, [], []), (.if_icmp .le 7, 3, [35], [])]),
  (31, [(.iload_n 2, 1, [], []), (.goto 4, 3, [36], [])]),
  (35, [(.iload_n 1, 1, [], [])]),
  (36, [(.istore_n 1, 1, [], []), (.iinc 2 1, 3, [], []), (.goto (-36), 3, [4], [])]),
  (43, [(.iload_n 1, 1, [], []), (.ireturn, 1, [], [])])]
def Mo_heaviest_cl : List (Instr × Nat) := []
set_option maxRecDepth 20000 in
theorem Mo_heaviest_ck : Mo_heaviest_bk.all (fun b => ax_chB 9 3 cX9_heaviest Mo_heaviest_cl b.1 b.2) = true := by decide +kernel
def Mo_heaviest_cs : Ct := (1, 10, 1, (0, 0), fun as σ => (match as with
    | [.inr (.inr (.inl (k, 0, 9)))] => Mo_heaviest_pre k σ
    | _ => False), fun as σ r σ' => (match as with
    | [.inr (.inr (.inl (k, 0, 9)))] => Mo_heaviest_post k σ r σ'
    | _ => False))
theorem Mo_heaviest_w : ∀ w ∈ ([.instanceMethod yX9_heaviest, .selects yX9_heaviest.cls yX9_heaviest yX9_heaviest, .initialized yX9_heaviest.cls, .code yX9_heaviest cX9_heaviest 3 (some .int)] : List Cond), w ∈ ax_tb := ax_w4 (ax_m8 61 (by decide +kernel) rfl) (ax_m8 62 (by decide +kernel) rfl) (ax_m1 10 (by decide +kernel) rfl) (ax_m8 63 (by decide +kernel) rfl)
theorem Mo_heaviest_ds : yX9_heaviest.cls ≠ "java/lang/invoke/MethodHandle" ∧ yX9_heaviest.cls ≠ "java/lang/invoke/VarHandle" ∧ (parseMethodDescriptor yX9_heaviest.desc).map (fun d => d.parameters.length) = some 0 := by decide +kernel
def Mo_heaviest_vc : Prop := ∀ (k : Nat) (σ : Hp), ax_H σ → Mo_heaviest_pre k σ →
  ∃ n' : Nat, k = k ∧ Mo_heaviest_I4 k σ n' (-1) 0 σ
def Mo_heaviest_vc4 : Prop := ∀ (k : Nat) (σ0 : Hp), Mo_heaviest_pre k σ0 → ∀ (n : Nat) (v1 : Int) (v2 : Int) (σ : Hp), ax_H σ → Mo_heaviest_I4 k σ0 n v1 v2 σ →
  (σ k 42 ≤ v2 →
    Mo_heaviest_post k σ0 v1 σ) ∧
  (¬ (σ k 42 ≤ v2) →
    (v1 < 0 →
      ∃ n' : Nat, n' < n ∧ k = k ∧ Mo_heaviest_I4 k σ0 n' v2 (wr (v2 + 1)) σ) ∧
    (¬ (v1 < 0) →
      (0 ≤ v2 ∧ v2 < 16) ∧
      (0 ≤ v1 ∧ v1 < 16) ∧
      (σ (k + 23) v2.toNat ≤ σ (k + 23) v1.toNat →
        ∃ n' : Nat, n' < n ∧ k = k ∧ Mo_heaviest_I4 k σ0 n' v1 (wr (v2 + 1)) σ) ∧
      (¬ (σ (k + 23) v2.toNat ≤ σ (k + 23) v1.toNat) →
        ∃ n' : Nat, n' < n ∧ k = k ∧ Mo_heaviest_I4 k σ0 n' v2 (wr (v2 + 1)) σ)))
theorem Mo_heaviest_p : Mo_heaviest_vc := by
  intro k σ hH hp
  exact ⟨6, rfl, 0, rfl, Nat.zero_le _, rfl, rfl, rfl⟩
theorem Mo_heaviest_p4 : Mo_heaviest_vc4 := by
  intro k σ0 hp n v1 v2 σ hH hI
  obtain ⟨rfl, hP⟩ := hp
  obtain ⟨i, rfl, hi, rfl, rfl, rfl⟩ := hI
  have hn := hP.n6
  have hR := hvy_R (nowM σ) i
  refine ⟨fun h => om0 hP.1 (fun d => ?_), fun h => ?_⟩
  · show _ = _
    have ei : fN (aF (mA d σ)) = i := by show (σ 67 42).toNat = i; omega
    rw [ei]; rfl
  · rw [wr1 (by omega) (by omega), Int.toNat_natCast]
    refine ⟨fun h2 => ⟨6 - (i + 1), by omega, rfl, i + 1, by simp, by omega, rfl, rfl, ?_⟩, fun h2 => ?_⟩
    · rw [hvy_s, if_pos (Or.inl (by omega))]
    · have e1 : σ (67 + 23) i = (nowM σ).1 i := (now_c (by omega)).symm
      have e2 : σ (67 + 23) (hvy (nowM σ) i).toNat = (nowM σ).1 (hvy (nowM σ) i).toNat := (now_c (by omega)).symm
      rw [e1, e2]
      refine ⟨⟨by omega, by omega⟩, ⟨by omega, by omega⟩, fun h3 => ⟨6 - (i + 1), by omega, rfl, i + 1, by simp, by omega, rfl, rfl, ?_⟩, fun h3 => ⟨6 - (i + 1), by omega, rfl, i + 1, by simp, by omega, rfl, rfl, ?_⟩⟩
      · rw [hvy_s, if_neg (by omega)]
      · rw [hvy_s, if_pos (by omega)]
def Mo_heaviest_I : List AV → Hp → Nat → Nat → List AV → List AV → Hp → Prop := fun as σ0 pc n st ls σ => (match as with
    | [.inr (.inr (.inl (k, 0, 9)))] => (bif Nat.beq pc 4 then (match st, ls with
      | [], [.inr (.inr (.inl (k', 0, 9))), .inl v1, .inl v2] => k = k' ∧ Mo_heaviest_I4 k σ0 n v1 v2 σ
      | _, _ => False) else False)
    | _ => False)
def Mo_heaviest_ct : Nat → Ct := fun n => match n with
  | _ => Mo_heaviest_cs
set_option maxRecDepth 20000 in
set_option maxHeartbeats 4000000 in
theorem Mo_heaviest_met {l : Launch} {D : va_G} {ad : Nat → Nat} {ca : Nat → ClassId} {L : Nat} {fx : Nat → Int} : ax_MC l D ad ca L fx yX9_heaviest cX9_heaviest 3 (some .int) 1 Mo_heaviest_cs := by
  refine ax_met (oc := 9) (ct := Mo_heaviest_ct) (calls := Mo_heaviest_cl) (bs := Mo_heaviest_bk) (cut := fun pc => Nat.beq pc 4) (f := 7) (I := Mo_heaviest_I) (by decide) rfl rfl Mo_heaviest_ck (fun _ h => absurd h List.not_mem_nil) ?_ ?_
  · intro as σ0 hp hH
    match as, hp with
    | [.inr (.inr (.inl (k, 0, 9)))], hp => exact ⟨rfl, Mo_heaviest_p k σ0 hH hp⟩
  · intro as σ0 hp n pc st ls σ hH hI
    match as, hp, hI with
    | [.inr (.inr (.inl (k, 0, 9)))], hp, hI =>
      rcases ax_bifE hI with ⟨hpc, hI⟩ | ⟨-, hI⟩
      · have := Nat.eq_of_beq_eq_true hpc
        subst this
        match st, ls, hI with
        | [], [.inr (.inr (.inl (k', 0, 9))), .inl v1, .inl v2], hI =>
          obtain ⟨rfl, hI⟩ := hI
          exact Mo_heaviest_p4 k σ0 hp n v1 v2 σ hH hI
      exact False.elim hI
def Mo_lies_pre (k : Nat) (_a : Int) (σ : Hp) : Prop := k = 67 ∧ MP σ
def Mo_lies_post (_k : Nat) (a : Int) (σ : Hp) (r : Int) (σ' : Hp) : Prop := MQo σ σ' ∧ ∀ d, s_lies (mA d σ) a r (mA d σ')
def Mo_lies_bk : List (Nat × List Item) := [(0, [(.iload_n 1, 1, [], []), (.iconst 0, 1, [], []), (.aload_n 0, 1, [], []), (.getfield 376, 3, [9, 56, 0, 0, 0, 0], []), (.iconst 1, 1, [], []), (.isub, 1, [], []), (.invokestatic 379, 3, [0], []), (.ifCond .eq 12, 3, [23], []), (.aload_n 0, 1, [], []), (.getfield 106, 3, [9, 55, 4, 30, 1, 6], []), (.iload_n 1, 1, [], []), (.iaload, 1, [], []), (.goto 5, 3, [25], [])]),
  (23, [(.bipush (-2), 2, [], [])]),
  (25, [(.ireturn, 1, [], [])])]
def Mo_lies_cl : List (Instr × Nat) := [(.invokestatic 379, 0)]
set_option maxRecDepth 20000 in
theorem Mo_lies_ck : Mo_lies_bk.all (fun b => ax_chB 9 2 cX9_lies Mo_lies_cl b.1 b.2) = true := by decide +kernel
def Mo_lies_cs : Ct := (2, 10, 1, (0, 0), fun as σ => (match as with
    | [.inr (.inr (.inl (k, 0, 9))), .inl a1] => Mo_lies_pre k a1 σ
    | _ => False), fun as σ r σ' => (match as with
    | [.inr (.inr (.inl (k, 0, 9))), .inl a1] => Mo_lies_post k a1 σ r σ'
    | _ => False))
theorem Mo_lies_w : ∀ w ∈ ([.instanceMethod yX9_lies, .selects yX9_lies.cls yX9_lies yX9_lies, .initialized yX9_lies.cls, .code yX9_lies cX9_lies 2 (some .int)] : List Cond), w ∈ ax_tb := ax_w4 (ax_m8 65 (by decide +kernel) rfl) (ax_m8 66 (by decide +kernel) rfl) (ax_m1 10 (by decide +kernel) rfl) (ax_m8 67 (by decide +kernel) rfl)
theorem Mo_lies_ds : yX9_lies.cls ≠ "java/lang/invoke/MethodHandle" ∧ yX9_lies.cls ≠ "java/lang/invoke/VarHandle" ∧ (parseMethodDescriptor yX9_lies.desc).map (fun d => d.parameters.length) = some 1 := by decide +kernel
def Mo_lies_vc : Prop := ∀ (k : Nat) (a1 : Int) (σ : Hp), ax_H σ → Mo_lies_pre k a1 σ →
  Mo_isIn_pre a1 0 (wr ((σ k 56) - 1)) σ ∧
  ∀ (r2 : Int) (σ1 : Hp), Mo_isIn_post a1 0 (wr ((σ k 56) - 1)) σ r2 σ1 →
  (r2 = 0 →
    Mo_lies_post k a1 σ (-2) σ1) ∧
  (¬ (r2 = 0) →
    (0 ≤ a1 ∧ a1 < 6) ∧
    Mo_lies_post k a1 σ (σ1 (k + 30) a1.toNat) σ1)
theorem Mo_lies_p : Mo_lies_vc := by
  intro k a σ hH hp
  obtain ⟨rfl, hP⟩ := hp
  have h56 := hP.1.2.2.2.2.1
  refine ⟨trivial, ?_⟩
  rintro r2 σ1 ⟨rfl, rfl⟩
  rw [wr_id (by omega) (by omega)]
  refine ⟨fun h => om0 hP.1 (fun d => ?_), fun h => ?_⟩
  · have h' := ite0 h
    show _ = _
    rw [if_neg (fun z => h' (by have z2 : a < (((σ1 67 56).toNat : Nat) : Int) := z.2; omega))]
  · have h' := ite1 h
    refine ⟨⟨by omega, by omega⟩, om0 hP.1 (fun d => ?_)⟩
    show _ = _
    rw [if_pos (show 0 ≤ a ∧ a < ((aL (mA d σ1)).1 : Int) from ⟨h'.1, by show a < (((σ1 67 56).toNat : Nat) : Int); omega⟩)]
    exact (tr_in (by omega)).symm
def Mo_lies_I : List AV → Hp → Nat → Nat → List AV → List AV → Hp → Prop := fun as σ0 pc n st ls σ => (match as with
    | [.inr (.inr (.inl (k, 0, 9))), .inl a1] => False
    | _ => False)
def Mo_lies_ct : Nat → Ct := fun n => match n with
  | 0 => Mo_isIn_cs
  | _ => Mo_lies_cs
set_option maxRecDepth 20000 in
set_option maxHeartbeats 4000000 in
theorem Mo_lies_met {l : Launch} {D : va_G} {ad : Nat → Nat} {ca : Nat → ClassId} {L : Nat} {fx : Nat → Int} : ax_MC l D ad ca L fx yX9_lies cX9_lies 2 (some .int) 2 Mo_lies_cs := by
  refine ax_met (oc := 9) (ct := Mo_lies_ct) (calls := Mo_lies_cl) (bs := Mo_lies_bk) (cut := fun pc => false) (f := 4) (I := Mo_lies_I) (by decide) rfl rfl Mo_lies_ck (List.forall_mem_cons.mpr ⟨ax_cwS Mo_isIn_met (by decide) (by decide) (ax_m7 83 (by decide +kernel) rfl) Mo_isIn_w rfl Mo_isIn_ds, fun _ h => absurd h List.not_mem_nil⟩) ?_ ?_
  · intro as σ0 hp hH
    match as, hp with
    | [.inr (.inr (.inl (k, 0, 9))), .inl a1], hp => exact ⟨rfl, Mo_lies_p k a1 σ0 hH hp⟩
  · intro as σ0 hp n pc st ls σ hH hI
    match as, hp, hI with
    | [.inr (.inr (.inl (k, 0, 9))), .inl a1], hp, hI => exact False.elim hI
def Mo_person_pre (k : Nat) (_a _b : Int) (σ : Hp) : Prop := k = 67 ∧ MP σ
def Mo_person_post (_k : Nat) (a b : Int) (σ : Hp) (r : Int) (σ' : Hp) : Prop := MQo σ σ' ∧ ∀ d, s_person (mA d σ) a b r (mA d σ')
def Mo_person_bk : List (Nat × List Item) := [(0, [(.aload_n 0, 1, [], []), (.iload_n 1, 1, [], []), (.invokevirtual 398, 3, [0], []), (.ifCond .ne 5, 3, [10], []), (.iconst (-1), 1, [], []), (.ireturn, 1, [], [])]),
  (10, [(.aload_n 0, 1, [], []), (.invokevirtual 401, 3, [1], []), (.iload_n 2, 1, [], []), (.tableswitch 91 0 6 #[41, 48, 55, 61, 71, 77, 84], 41, [], [(0, 56), (1, 63), (2, 70), (3, 76), (4, 86), (5, 92), (6, 99), (0, 106)])]),
  (56, [(.aload_n 0, 1, [], []), (.getfield 67, 3, [9, 32, 4, 18, 1, 6], []), (.iload_n 1, 1, [], []), (.iaload, 1, [], []), (.ireturn, 1, [], [])]),
  (63, [(.aload_n 0, 1, [], []), (.getfield 88, 3, [9, 47, 4, 24, 1, 16], []), (.iload_n 1, 1, [], []), (.iaload, 1, [], []), (.ireturn, 1, [], [])]),
  (70, [(.aload_n 0, 1, [], []), (.iload_n 1, 1, [], []), (.invokevirtual 389, 3, [2], []), (.ireturn, 1, [], [])]),
  (76, [(.aload_n 0, 1, [], []), (.getfield 88, 3, [9, 47, 4, 24, 1, 16], []), (.bipush 6, 2, [], []), (.iload_n 1, 1, [], []), (.iadd, 1, [], []), (.iaload, 1, [], []), (.ireturn, 1, [], [])]),
  (86, [(.aload_n 0, 1, [], []), (.iload_n 1, 1, [], []), (.invokevirtual 404, 3, [3], []), (.ireturn, 1, [], [])]),
  (92, [(.aload_n 0, 1, [], []), (.getfield 73, 3, [9, 34, 4, 20, 1, 6], []), (.iload_n 1, 1, [], []), (.iaload, 1, [], []), (.ireturn, 1, [], [])]),
  (99, [(.aload_n 0, 1, [], []), (.getfield 76, 3, [9, 35, 4, 21, 1, 6], []), (.iload_n 1, 1, [], []), (.iaload, 1, [], []), (.ireturn, 1, [], [])]),
  (106, [(.iconst (-1), 1, [], []), (.ireturn, 1, [], [])])]
def Mo_person_cl : List (Instr × Nat) := [(.invokevirtual 398, 0), (.invokevirtual 401, 1), (.invokevirtual 389, 2), (.invokevirtual 404, 3)]
set_option maxRecDepth 20000 in
theorem Mo_person_ck : Mo_person_bk.all (fun b => ax_chB 9 3 cX9_person Mo_person_cl b.1 b.2) = true := by decide +kernel
def Mo_person_cs : Ct := (3, 10, 1, (0, 0), fun as σ => (match as with
    | [.inr (.inr (.inl (k, 0, 9))), .inl a1, .inl a2] => Mo_person_pre k a1 a2 σ
    | _ => False), fun as σ r σ' => (match as with
    | [.inr (.inr (.inl (k, 0, 9))), .inl a1, .inl a2] => Mo_person_post k a1 a2 σ r σ'
    | _ => False))
theorem Mo_person_w : ∀ w ∈ ([.instanceMethod yX9_person, .selects yX9_person.cls yX9_person yX9_person, .initialized yX9_person.cls, .code yX9_person cX9_person 3 (some .int)] : List Cond), w ∈ ax_tb := ax_w4 (ax_m7 76 (by decide +kernel) rfl) (ax_m7 77 (by decide +kernel) rfl) (ax_m1 10 (by decide +kernel) rfl) (ax_m7 78 (by decide +kernel) rfl)
theorem Mo_person_ds : yX9_person.cls ≠ "java/lang/invoke/MethodHandle" ∧ yX9_person.cls ≠ "java/lang/invoke/VarHandle" ∧ (parseMethodDescriptor yX9_person.desc).map (fun d => d.parameters.length) = some 2 := by decide +kernel
def Mo_person_vc : Prop := ∀ (k : Nat) (a1 : Int) (a2 : Int) (σ : Hp), ax_H σ → Mo_person_pre k a1 a2 σ →
  Mo_isPerson_pre k a1 σ ∧
  ∀ (r2 : Int) (σ1 : Hp), Mo_isPerson_post k a1 σ r2 σ1 →
  (¬ r2 = 0 →
    Mo_load_pre k σ1 ∧
    ∀ σ3 : Hp, Mo_load_post k σ1 σ3 →
    (a2 = 0 →
      (0 ≤ a1 ∧ a1 < 6) ∧
      Mo_person_post k a1 a2 σ (σ3 (k + 18) a1.toNat) σ3) ∧
    (¬ a2 = 0 →
      (a2 = 1 →
      (0 ≤ a1 ∧ a1 < 16) ∧
      Mo_person_post k a1 a2 σ (σ3 (k + 24) a1.toNat) σ3) ∧
    (¬ a2 = 1 →
      (a2 = 2 →
      Mo_worryOf_pre k a1 σ3 ∧
      ∀ (r5 : Int) (σ4 : Hp), Mo_worryOf_post k a1 σ3 r5 σ4 →
      Mo_person_post k a1 a2 σ r5 σ4) ∧
    (¬ a2 = 2 →
      (a2 = 3 →
      (0 ≤ wr (6 + a1) ∧ wr (6 + a1) < 16) ∧
      Mo_person_post k a1 a2 σ (σ3 (k + 24) (wr (6 + a1)).toNat) σ3) ∧
    (¬ a2 = 3 →
      (a2 = 4 →
      Mo_knownBy_pre k a1 σ3 ∧
      ∀ (r7 : Int) (σ6 : Hp), Mo_knownBy_post k a1 σ3 r7 σ6 →
      Mo_person_post k a1 a2 σ r7 σ6) ∧
    (¬ a2 = 4 →
      (a2 = 5 →
      (0 ≤ a1 ∧ a1 < 6) ∧
      Mo_person_post k a1 a2 σ (σ3 (k + 20) a1.toNat) σ3) ∧
    (¬ a2 = 5 →
      (a2 = 6 →
      (0 ≤ a1 ∧ a1 < 6) ∧
      Mo_person_post k a1 a2 σ (σ3 (k + 21) a1.toNat) σ3) ∧
    (¬ a2 = 6 →
      Mo_person_post k a1 a2 σ (-1) σ3)))))))) ∧
  (¬ (¬ r2 = 0) →
    Mo_person_post k a1 a2 σ (-1) σ1)
theorem Mo_person_p : Mo_person_vc := by
  intro k a b σ hH hp
  obtain ⟨rfl, hP⟩ := hp
  have hn := hP.n6
  have hN := hP.np
  refine ⟨⟨rfl, hn⟩, ?_⟩
  rintro r2 σ1 ⟨rfl, rfl⟩
  refine ⟨fun h => ⟨rfl, fun σ3 g => ?_⟩, fun h => om0 hP.1 (fun d => ?_)⟩
  · have ha := ite1 h
    obtain ⟨L1, L2, L3, L4, L5⟩ := hN.load2 Fr.rf g
    have N3 := hN.fr L4 (by simp [af])
    have P : ∀ d, isP (mA d σ1) a := fun d => ha
    have tin : ∀ c, c = 85 ∨ c = 87 ∨ c = 88 → tr (σ1 67 42).toNat (σ1 c) a.toNat = σ3 c a.toNat := fun c hc => by
      rw [tr_in (by omega), L4 c (by simp [af]; omega)]
    refine ⟨fun h0 => ⟨⟨ha.1, by omega⟩, om1 hP.1 L4 scm_af (fun d => ?_)⟩, fun h0 => ⟨fun h1 => ⟨⟨ha.1, by omega⟩, om1 hP.1 L4 scm_af (fun d => ?_)⟩, fun h1 => ⟨fun h2 => ⟨⟨rfl, ha.1, by rw [L4 67 (by decide)]; exact ha.2, L1⟩, ?_⟩, fun h2 => ⟨fun h3 => ?_, fun h3 => ⟨fun h4 => ⟨⟨rfl, ha.1, by omega, N3.1⟩, ?_⟩, fun h4 => ⟨fun h5 => ⟨⟨ha.1, by omega⟩, om1 hP.1 L4 scm_af (fun d => ?_)⟩, fun h5 => ⟨fun h6 => ⟨⟨ha.1, by omega⟩, om1 hP.1 L4 scm_af (fun d => ?_)⟩, fun h6 => om1 hP.1 L4 scm_af (fun d => ?_)⟩⟩⟩⟩⟩⟩⟩
    · show _ = _
      rw [if_pos (P d), if_pos h0]; exact (tin 85 (by omega)).symm
    · show _ = _
      rw [if_pos (P d), if_neg h0, if_pos h1]
      show σ3 91 a.toNat = (nowM σ1).1 a.toNat
      rw [← L3, air_c (by omega)]
    · rintro r5 σ4 ⟨g1, g2⟩
      refine om1 hP.1 (L4.tr (g1.mono (by simp [af]))) scm_af (fun d => ?_)
      show _ = _
      rw [if_pos (P d), if_neg h0, if_neg h1, if_pos h2, g2 d, L2 d, L3]; rfl
    · rw [wr_id (x := 6 + a) (by omega) (by omega), show ((6 : Int) + a).toNat = 6 + a.toNat by omega]
      refine ⟨⟨by omega, by omega⟩, om1 hP.1 L4 scm_af (fun d => ?_)⟩
      show _ = _
      rw [if_pos (P d), if_neg h0, if_neg h1, if_neg h2, if_pos h3]
      show σ3 91 (6 + a.toNat) = (nowM σ1).2.1 a.toNat
      rw [← L3, air_k (by omega)]
    · rintro r5 σ4 ⟨rfl, rfl⟩
      refine om1 hP.1 L4 scm_af (fun d => ?_)
      show _ = _
      rw [if_pos (P d), if_neg h0, if_neg h1, if_neg h2, if_neg h3, if_pos h4, N3.2.2]; rfl
    · show _ = _
      rw [if_pos (P d), if_neg h0, if_neg h1, if_neg h2, if_neg h3, if_neg h4, if_pos h5]; exact (tin 87 (by omega)).symm
    · show _ = _
      rw [if_pos (P d), if_neg h0, if_neg h1, if_neg h2, if_neg h3, if_neg h4, if_neg h5, if_pos h6]; exact (tin 88 (by omega)).symm
    · show _ = _
      rw [if_pos (P d), if_neg h0, if_neg h1, if_neg h2, if_neg h3, if_neg h4, if_neg h5, if_neg h6]
  · show _ = _; rw [if_neg (show ¬ isP (mA d σ1) a from ite0' h)]
def Mo_person_I : List AV → Hp → Nat → Nat → List AV → List AV → Hp → Prop := fun as σ0 pc n st ls σ => (match as with
    | [.inr (.inr (.inl (k, 0, 9))), .inl a1, .inl a2] => False
    | _ => False)
def Mo_person_ct : Nat → Ct := fun n => match n with
  | 0 => Mo_isPerson_cs
  | 1 => Mo_load_cs
  | 2 => Mo_worryOf_cs
  | 3 => Mo_knownBy_cs
  | _ => Mo_person_cs
set_option maxRecDepth 20000 in
set_option maxHeartbeats 4000000 in
theorem Mo_person_met {l : Launch} {D : va_G} {ad : Nat → Nat} {ca : Nat → ClassId} {L : Nat} {fx : Nat → Int} : ax_MC l D ad ca L fx yX9_person cX9_person 3 (some .int) 5 Mo_person_cs := by
  refine ax_met (oc := 9) (ct := Mo_person_ct) (calls := Mo_person_cl) (bs := Mo_person_bk) (cut := fun pc => false) (f := 11) (I := Mo_person_I) (by decide) rfl rfl Mo_person_ck (List.forall_mem_cons.mpr ⟨ax_cwV Mo_isPerson_met (by decide) (by decide) rfl (by decide) rfl (ax_m7 79 (by decide +kernel) rfl) Mo_isPerson_w rfl Mo_isPerson_ds, List.forall_mem_cons.mpr ⟨ax_cwV Mo_load_met (by decide) (by decide) rfl (by decide) rfl (ax_m7 86 (by decide +kernel) rfl) Mo_load_w rfl Mo_load_ds, List.forall_mem_cons.mpr ⟨ax_cwV Mo_worryOf_met (by decide) (by decide) rfl (by decide) rfl (ax_m7 46 (by decide +kernel) rfl) Mo_worryOf_w rfl Mo_worryOf_ds, List.forall_mem_cons.mpr ⟨ax_cwV Mo_knownBy_met (by decide) (by decide) rfl (by decide) rfl (ax_m7 90 (by decide +kernel) rfl) Mo_knownBy_w rfl Mo_knownBy_ds, fun _ h => absurd h List.not_mem_nil⟩⟩⟩⟩) ?_ ?_
  · intro as σ0 hp hH
    match as, hp with
    | [.inr (.inr (.inl (k, 0, 9))), .inl a1, .inl a2], hp => exact ⟨rfl, Mo_person_p k a1 a2 σ0 hH hp⟩
  · intro as σ0 hp n pc st ls σ hH hI
    match as, hp, hI with
    | [.inr (.inr (.inl (k, 0, 9))), .inl a1, .inl a2], hp, hI => exact False.elim hI
