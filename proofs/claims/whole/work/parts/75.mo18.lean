-- THE MODEL: the best wedding
def Mo_power_pre (a b : Int) (_ : Hp) : Prop := a = 7 ∧ 0 ≤ b ∧ b ≤ 6
def Mo_power_post (_a b : Int) (σ : Hp) (r : Int) (σ' : Hp) : Prop := σ' = σ ∧ r = (7 ^ b.toNat : Nat)
def Mo_power_I4 (_a b : Int) (σ0 : Hp) (n : Nat) (v2 v3 : Int) (σ : Hp) : Prop := ∃ i : Nat, v3 = i ∧ (i : Int) ≤ b ∧ n = 6 - i ∧ σ = σ0 ∧ v2 = (7 ^ i : Nat)
def Mo_power_bk : List (Nat × List Item) := [(0, [(.iconst 1, 1, [], []), (.istore_n 2, 1, [], []), (.iconst 0, 1, [], []), (.istore_n 3, 1, [], [])]),
  (4, [(.iload_n 3, 1, [], []), (.iload_n 1, 1, [], []), (.if_icmp .ge 13, 3, [19], []), (.iload_n 2, 1, [], []), (.iload_n 0, 1, [], []), (.imul, 1, [], []), (.istore_n 2, 1, [], []), (.iinc 3 1, 3, [], []), (.goto (-12), 3, [4], [])]),
  (19, [(.iload_n 2, 1, [], []), (.ireturn, 1, [], [])])]
def Mo_power_cl : List (Instr × Nat) := []
set_option maxRecDepth 20000 in
theorem Mo_power_ck : Mo_power_bk.all (fun b => ax_chB 9 4 cX9_power Mo_power_cl b.1 b.2) = true := by decide +kernel
def Mo_power_cs : Ct := (2, 0, 1, (0, 0), fun as σ => (match as with
    | [.inl a1, .inl a2] => Mo_power_pre a1 a2 σ
    | _ => False), fun as σ r σ' => (match as with
    | [.inl a1, .inl a2] => Mo_power_post a1 a2 σ r σ'
    | _ => False))
theorem Mo_power_w : ∀ w ∈ ([.static yX9_power, .initialized yX9_power.cls, .code yX9_power cX9_power 4 (some .int)] : List Cond), w ∈ ax_tb := ax_w3 (ax_m7 227 (by decide +kernel) rfl) (ax_m1 10 (by decide +kernel) rfl) (ax_m7 228 (by decide +kernel) rfl)
theorem Mo_power_ds : yX9_power.cls ≠ "java/lang/invoke/MethodHandle" ∧ yX9_power.cls ≠ "java/lang/invoke/VarHandle" ∧ (parseMethodDescriptor yX9_power.desc).map (fun d => d.parameters.length) = some 2 := by decide +kernel
def Mo_power_vc : Prop := ∀ (a1 : Int) (a2 : Int) (σ : Hp), ax_H σ → Mo_power_pre a1 a2 σ →
  ∃ n' : Nat, a1 = a1 ∧ a2 = a2 ∧ Mo_power_I4 a1 a2 σ n' 1 0 σ
def Mo_power_vc4 : Prop := ∀ (a1 : Int) (a2 : Int) (σ0 : Hp), Mo_power_pre a1 a2 σ0 → ∀ (n : Nat) (v2 : Int) (v3 : Int) (σ : Hp), ax_H σ → Mo_power_I4 a1 a2 σ0 n v2 v3 σ →
  (a2 ≤ v3 →
    Mo_power_post a1 a2 σ0 v2 σ) ∧
  (¬ (a2 ≤ v3) →
    ∃ n' : Nat, n' < n ∧ a1 = a1 ∧ a2 = a2 ∧ Mo_power_I4 a1 a2 σ0 n' (wr (v2 * a1)) (wr (v3 + 1)) σ)
theorem p7 {i : Nat} (h : i ≤ 6) : 7 ^ i ≤ 117649 := Nat.le_trans (Nat.pow_le_pow_right (by decide) h) (by decide)
theorem Mo_power_p : Mo_power_vc := by
  intro a b σ hH hp
  exact ⟨6, rfl, rfl, 0, rfl, hp.2.1, rfl, rfl, rfl⟩
theorem Mo_power_p4 : Mo_power_vc4 := by
  intro a b σ0 hp n v2 v3 σ hH hI
  obtain ⟨rfl, b0, b6⟩ := hp
  obtain ⟨i, rfl, hi, rfl, rfl, rfl⟩ := hI
  refine ⟨fun h => ⟨rfl, by rw [show b.toNat = i by omega]⟩, fun h => ?_⟩
  have h1 := p7 (i := i + 1) (by omega)
  have e : wr (((7 ^ i : Nat) : Int) * 7) = ((7 ^ (i + 1) : Nat) : Int) := by
    rw [Nat.pow_succ] at h1 ⊢
    generalize 7 ^ i = z at h1 ⊢
    rw [wr_id (by omega) (by omega)]
    omega
  rw [e, wr1 (i := (i : Int)) (by omega) (by omega)]
  exact ⟨6 - (i + 1), by omega, rfl, rfl, i + 1, by simp, by omega, rfl, rfl, rfl⟩
def Mo_power_I : List AV → Hp → Nat → Nat → List AV → List AV → Hp → Prop := fun as σ0 pc n st ls σ => (match as with
    | [.inl a1, .inl a2] => (bif Nat.beq pc 4 then (match st, ls with
      | [], [.inl a1', .inl a2', .inl v2, .inl v3] => a1 = a1' ∧ a2 = a2' ∧ Mo_power_I4 a1 a2 σ0 n v2 v3 σ
      | _, _ => False) else False)
    | _ => False)
def Mo_power_ct : Nat → Ct := fun n => match n with
  | _ => Mo_power_cs
set_option maxRecDepth 20000 in
set_option maxHeartbeats 4000000 in
theorem Mo_power_met {l : Launch} {D : va_G} {ad : Nat → Nat} {ca : Nat → ClassId} {L : Nat} {fx : Nat → Int} : ax_MC l D ad ca L fx yX9_power cX9_power 4 (some .int) 1 Mo_power_cs := by
  refine ax_met (oc := 9) (ct := Mo_power_ct) (calls := Mo_power_cl) (bs := Mo_power_bk) (cut := fun pc => Nat.beq pc 4) (f := 4) (I := Mo_power_I) (by decide) rfl rfl Mo_power_ck (fun _ h => absurd h List.not_mem_nil) ?_ ?_
  · intro as σ0 hp hH
    match as, hp with
    | [.inl a1, .inl a2], hp => exact ⟨rfl, Mo_power_p a1 a2 σ0 hH hp⟩
  · intro as σ0 hp n pc st ls σ hH hI
    match as, hp, hI with
    | [.inl a1, .inl a2], hp, hI =>
      rcases ax_bifE hI with ⟨hpc, hI⟩ | ⟨-, hI⟩
      · have := Nat.eq_of_beq_eq_true hpc
        subst this
        match st, ls, hI with
        | [], [.inl a1', .inl a2', .inl v2, .inl v3], hI =>
          obtain ⟨rfl, rfl, hI⟩ := hI
          exact Mo_power_p4 a1 a2 σ0 hp n v2 v3 σ hH hI
      exact False.elim hI
abbrev Fz (σ : Hp) : Fam := famM 0 σ
def dg (x j : Nat) : Nat := x / 7 ^ j % 7
abbrev lyM (σ : Hp) (x j : Nat) : Option (Nat × Nat × Int) := lay (hi (Fz σ) 0 (fN (Fz σ))) (nowM σ).1 (wA (Fz σ)) (dg x) j
def lyR (σ σ' : Hp) (x : Nat) (r : Int) : Prop := (r = -1 ∧ (¬ okD (Fz σ) (dg x) ∨ lyM σ x (wA (Fz σ)) = none)) ∨ (okD (Fz σ) (dg x) ∧ ∃ had wed : Nat, lyM σ x (wA (Fz σ)) = some (had, wed, r) ∧ (0 ≤ r ∧ r ≤ 198) ∧ σ' 67 57 = (wed : Int) ∧ ∀ p, p < (σ 67 42).toNat → σ' 96 p = if fHou (Fz σ) p = 1 then 6 else (dg x (wA (Fz σ) - 1 - hz (Fz σ) 0 p) : Int))
def Mo_layRow_pre (k : Nat) (a : Int) (σ : Hp) : Prop := k = 67 ∧ NP σ ∧ 0 ≤ a ∧ a < ((7 ^ wA (Fz σ) : Nat) : Int)
def Mo_layRow_post (_k : Nat) (a : Int) (σ : Hp) (r : Int) (σ' : Hp) : Prop := Fr [67, 96] σ σ' ∧ (∀ j, ¬ j = 57 → σ' 67 j = σ 67 j) ∧ lyR σ σ' a.toNat r
def Mo_layRow_I20 (_k : Nat) (a : Int) (σ0 : Hp) (n : Nat) (v2 v3 v4 v5 : Int) (σ : Hp) : Prop := ∃ p j had wed : Nat, v5 = (p : Int) - 1 ∧ p ≤ (σ0 67 42).toNat ∧ n = p ∧ j = wA (Fz σ0) - hz (Fz σ0) 0 p ∧ Fr [67, 96] σ0 σ ∧ (∀ j, ¬ j = 57 → σ 67 j = σ0 67 j) ∧ v2 = (a.toNat / 7 ^ j : Nat) ∧ v3 = had ∧ had < 64 ∧ lyM σ0 a.toNat j = some (had, wed, v4) ∧ (0 ≤ v4 ∧ v4 ≤ 198) ∧ σ 67 57 = (wed : Int) ∧ wed ≤ j ∧ (∀ i, i < j → dg a.toNat i = 6 ∨ (dg a.toNat i < fN (Fz σ0) ∧ fHou (Fz σ0) (dg a.toNat i) = 1)) ∧ ∀ q, p ≤ q → q < (σ0 67 42).toNat → σ 96 q = if fHou (Fz σ0) q = 1 then 6 else (dg a.toNat (wA (Fz σ0) - 1 - hz (Fz σ0) 0 q) : Int)
def Mo_layRow_bk : List (Nat × List Item) := [(0, [(.iload_n 1, 1, [], []), (.istore_n 2, 1, [], []), (.iconst 0, 1, [], []), (.istore_n 3, 1, [], []), (.iconst 0, 1, [], []), (.istore 4, 2, [], []), (.aload_n 0, 1, [], []), (.iconst 0, 1, [], []), (.putfield 447, 3, [9, 57, 0, 0, 0, 0], []), (.aload_n 0, 1, [], []), (.getfield 304, 3, [9, 42, 0, 0, 0, 0], []), (.iconst 1, 1, [], []), (.isub, 1, [], []), (.istore 5, 2, [], [])]),
  (20, [(.iload 5, 2, [], []), (.ifCond .lt 152, 3, [174], []), (.aload_n 0, 1, [], []), (.getfield 103, 3, [9, 54, 4, 29, 1, 6], []), (.iload 5, 2, [], []), (.bipush 6, 2, [], []), (.iastore, 1, [], []), (.aload_n 0, 1, [], []), (.getfield 67, 3, [9, 32, 4, 18, 1, 6], []), (.iload 5, 2, [], []), (.iaload, 1, [], []), (.iconst 1, 1, [], []), (.if_icmp .ne 6, 3, [48], []), (.goto 123, 3, [168], [])]),
  (48, [(.iload_n 2, 1, [], []), (.bipush 7, 2, [], []), (.irem, 1, [], []), (.istore 6, 2, [], []), (.iload_n 2, 1, [], []), (.bipush 7, 2, [], []), (.idiv, 1, [], []), (.istore_n 2, 1, [], []), (.iload 6, 2, [], []), (.bipush 6, 2, [], []), (.if_icmp .ne 6, 3, [69], []), (.goto 102, 3, [168], [])]),
  (69, [(.iload 6, 2, [], []), (.aload_n 0, 1, [], []), (.getfield 304, 3, [9, 42, 0, 0, 0, 0], []), (.if_icmp .ge 23, 3, [98], []), (.aload_n 0, 1, [], []), (.getfield 67, 3, [9, 32, 4, 18, 1, 6], []), (.iload 6, 2, [], []), (.iaload, 1, [], []), (.ifCond .eq 13, 3, [98], []), (.iload_n 3, 1, [], []), (.iload 6, 2, [], []), (.ishr, 1, [], []), (.iconst 1, 1, [], []), (.iand, 1, [], []), (.iconst 1, 1, [], []), (.if_icmp .ne 5, 3, [100], [])]),
  (98, [(.iconst (-1), 1, [], []), (.ireturn, 1, [], [])]),
  (100, [(.iload_n 3, 1, [], []), (.iconst 1, 1, [], []), (.iload 6, 2, [], []), (.ishl, 1, [], []), (.ior, 1, [], []), (.istore_n 3, 1, [], []), (.aload_n 0, 1, [], []), (.getfield 103, 3, [9, 54, 4, 29, 1, 6], []), (.iload 5, 2, [], []), (.iload 6, 2, [], []), (.iastore, 1, [], []), (.aload_n 0, 1, [], []), (.dup, 1, [], []), (.getfield 447, 3, [9, 57, 0, 0, 0, 0], []), (.iconst 1, 1, [], []), (.iadd, 1, [], []), (.putfield 447, 3, [9, 57, 0, 0, 0, 0], []), (.aload_n 0, 1, [], []), (.getfield 85, 3, [9, 46, 4, 23, 1, 16], []), (.iload 5, 2, [], []), (.iaload, 1, [], []), (.aload_n 0, 1, [], []), (.getfield 85, 3, [9, 46, 4, 23, 1, 16], []), (.iload 6, 2, [], []), (.iaload, 1, [], []), (.iadd, 1, [], []), (.iload 4, 2, [], []), (.if_icmp .le 21, 3, [164], []), (.aload_n 0, 1, [], []), (.getfield 85, 3, [9, 46, 4, 23, 1, 16], []), (.iload 5, 2, [], []), (.iaload, 1, [], []), (.aload_n 0, 1, [], []), (.getfield 85, 3, [9, 46, 4, 23, 1, 16], []), (.iload 6, 2, [], []), (.iaload, 1, [], []), (.iadd, 1, [], []), (.goto 5, 3, [166], [])]),
  (164, [(.iload 4, 2, [], [])]),
  (166, [(.istore 4, 2, [], [])]),
  (168, [(.iinc 5 (-1), 3, [], []), (.goto (-151), 3, [20], [])]),
  (174, [(.iload 4, 2, [], []), (.ireturn, 1, [], [])])]
def Mo_layRow_cl : List (Instr × Nat) := []
set_option maxRecDepth 20000 in
theorem Mo_layRow_ck : Mo_layRow_bk.all (fun b => ax_chB 9 7 cX9_layRow Mo_layRow_cl b.1 b.2) = true := by decide +kernel
def Mo_layRow_cs : Ct := (2, 10, 1, (0, 0), fun as σ => (match as with
    | [.inr (.inr (.inl (k, 0, 9))), .inl a1] => Mo_layRow_pre k a1 σ
    | _ => False), fun as σ r σ' => (match as with
    | [.inr (.inr (.inl (k, 0, 9))), .inl a1] => Mo_layRow_post k a1 σ r σ'
    | _ => False))
theorem Mo_layRow_w : ∀ w ∈ ([.instanceMethod yX9_layRow, .selects yX9_layRow.cls yX9_layRow yX9_layRow, .initialized yX9_layRow.cls, .code yX9_layRow cX9_layRow 7 (some .int)] : List Cond), w ∈ ax_tb := ax_w4 (ax_m7 231 (by decide +kernel) rfl) (ax_m0 57 (by decide +kernel) rfl) (ax_m1 10 (by decide +kernel) rfl) (ax_m7 232 (by decide +kernel) rfl)
theorem Mo_layRow_ds : yX9_layRow.cls ≠ "java/lang/invoke/MethodHandle" ∧ yX9_layRow.cls ≠ "java/lang/invoke/VarHandle" ∧ (parseMethodDescriptor yX9_layRow.desc).map (fun d => d.parameters.length) = some 1 := by decide +kernel
def Mo_layRow_vc : Prop := ∀ (k : Nat) (a1 : Int) (σ : Hp), ax_H σ → Mo_layRow_pre k a1 σ →
  ∀ σ1 : Hp, σ1 = hp σ k 57 0 →
  ∃ n' : Nat, k = k ∧ a1 = a1 ∧ Mo_layRow_I20 k a1 σ n' a1 0 0 (wr ((σ1 k 42) - 1)) σ1
def Mo_layRow_vc20 : Prop := ∀ (k : Nat) (a1 : Int) (σ0 : Hp), Mo_layRow_pre k a1 σ0 → ∀ (n : Nat) (v2 : Int) (v3 : Int) (v4 : Int) (v5 : Int) (σ : Hp), ax_H σ → Mo_layRow_I20 k a1 σ0 n v2 v3 v4 v5 σ →
  (v5 < 0 →
    Mo_layRow_post k a1 σ0 v4 σ) ∧
  (¬ (v5 < 0) →
    (0 ≤ v5 ∧ v5 < 6) ∧
    ∀ σ1 : Hp, σ1 = hp σ (k + 29) v5.toNat 6 →
    (0 ≤ v5 ∧ v5 < 6) ∧
    (¬ σ1 (k + 18) v5.toNat = 1 →
      ¬ (7 : Int) = 0 ∧
      ¬ (7 : Int) = 0 ∧
      (¬ iRem v2 7 = 6 →
        (σ1 k 42 ≤ iRem v2 7 →
          Mo_layRow_post k a1 σ0 (-1) σ1) ∧
        (¬ (σ1 k 42 ≤ iRem v2 7) →
          (0 ≤ iRem v2 7 ∧ iRem v2 7 < 6) ∧
          (σ1 (k + 18) (iRem v2 7).toNat = 0 →
            Mo_layRow_post k a1 σ0 (-1) σ1) ∧
          (¬ (σ1 (k + 18) (iRem v2 7).toNat = 0) →
            (¬ iAnd (iShr v3 (iRem v2 7)) 1 = 1 →
              (0 ≤ v5 ∧ v5 < 6) ∧
              ∀ σ2 : Hp, σ2 = hp σ1 (k + 29) v5.toNat (iRem v2 7) →
              ∀ σ3 : Hp, σ3 = hp σ2 k 57 (wr ((σ2 k 57) + 1)) →
              (0 ≤ v5 ∧ v5 < 16) ∧
              (0 ≤ iRem v2 7 ∧ iRem v2 7 < 16) ∧
              (wr ((σ3 (k + 23) v5.toNat) + (σ3 (k + 23) (iRem v2 7).toNat)) ≤ v4 →
                ∃ n' : Nat, n' < n ∧ k = k ∧ a1 = a1 ∧ Mo_layRow_I20 k a1 σ0 n' (iDiv v2 7) (iOr v3 (iShl 1 (iRem v2 7))) v4 (wr (v5 + (-1))) σ3) ∧
              (¬ (wr ((σ3 (k + 23) v5.toNat) + (σ3 (k + 23) (iRem v2 7).toNat)) ≤ v4) →
                (0 ≤ v5 ∧ v5 < 16) ∧
                (0 ≤ iRem v2 7 ∧ iRem v2 7 < 16) ∧
                ∃ n' : Nat, n' < n ∧ k = k ∧ a1 = a1 ∧ Mo_layRow_I20 k a1 σ0 n' (iDiv v2 7) (iOr v3 (iShl 1 (iRem v2 7))) (wr ((σ3 (k + 23) v5.toNat) + (σ3 (k + 23) (iRem v2 7).toNat))) (wr (v5 + (-1))) σ3)) ∧
            (¬ (¬ iAnd (iShr v3 (iRem v2 7)) 1 = 1) →
              Mo_layRow_post k a1 σ0 (-1) σ1)))) ∧
      (¬ (¬ iRem v2 7 = 6) →
        ∃ n' : Nat, n' < n ∧ k = k ∧ a1 = a1 ∧ Mo_layRow_I20 k a1 σ0 n' (iDiv v2 7) v3 v4 (wr (v5 + (-1))) σ1)) ∧
    (¬ (¬ σ1 (k + 18) v5.toNat = 1) →
      ∃ n' : Nat, n' < n ∧ k = k ∧ a1 = a1 ∧ Mo_layRow_I20 k a1 σ0 n' v2 v3 v4 (wr (v5 + (-1))) σ1))
theorem wA6 {σ : Hp} (h : NP σ) : wA (Fz σ) ≤ 6 ∧ fN (Fz σ) ≤ 6 := by
  have hn := h.1.1
  have h1 : fN (Fz σ) ≤ 6 := by show (σ 67 42).toNat ≤ 6; omega
  exact ⟨Nat.le_trans (hz_le _ _ _) h1, h1⟩
theorem Mo_layRow_p : Mo_layRow_vc := by
  intro k a σ hH hp0
  obtain ⟨rfl, hN, a0, a1⟩ := hp0
  have hn := hN.1.1
  intro σ1 hs
  have q67 : ∀ j, ¬ j = 57 → σ1 67 j = σ 67 j := fun j hj => by rw [hs, hp_r2 (fun z => hj z.2)]
  rw [q67 42 (by decide), wr_id (by omega) (by omega)]
  have ej : wA (Fz σ) - hz (Fz σ) 0 (σ 67 42).toNat = 0 := Nat.sub_self (hz (Fz σ) 0 (σ 67 42).toNat)
  refine ⟨(σ 67 42).toNat, rfl, rfl, (σ 67 42).toNat, 0, 0, 0, by omega, Nat.le_refl _, rfl, ej.symm, by rw [hs]; exact Fr.hp Fr.rf (by simp), q67, ?_, rfl, by decide, rfl, ⟨Int.le_refl 0, by decide⟩, by rw [hs, hp_r1]; rfl, Nat.le_refl 0, fun i hi => absurd hi (Nat.not_lt_zero i), fun q h1 h2 => absurd h2 (by omega)⟩
  rw [Nat.pow_zero, Nat.div_one]; omega
theorem Mo_layRow_p20 : Mo_layRow_vc20 := by
  intro k a σ0 hp0 n v2 v3 v4 v5 σ hH hI
  obtain ⟨rfl, hN, a0, a1⟩ := hp0
  obtain ⟨p, j, had, wed, rfl, hpn, rfl, hj, hf, h67, hv2, hv3, hh, hl, h4, h57, hwj, hok, hrow⟩ := hI
  have hn := hN.1.1
  have hW := wA6 hN
  obtain ⟨dF, hFV⟩ := hN.1.2.2.2
  have eN : fN (Fz σ0) = (σ0 67 42).toNat := rfl
  have hza := hz_mono (Fz σ0) 0 (p := n) (q := fN (Fz σ0)) (by omega)
  have hzA : hz (Fz σ0) 0 n ≤ wA (Fz σ0) := hza
  have h7w := p7 hW.1
  refine ⟨fun h => ?_, fun h => ?_⟩
  · have ep : n = 0 := by omega
    subst ep
    have ej : j = wA (Fz σ0) := by rw [hj]; exact Nat.sub_zero _
    rw [ej] at hl hok
    exact ⟨hf, h67, Or.inr ⟨hok, had, wed, hl, h4, h57, fun q hq => hrow q (Nat.zero_le _) hq⟩⟩
  · obtain ⟨q, rfl⟩ : ∃ q, n = q + 1 := ⟨n - 1, by omega⟩
    have e5 : ((q + 1 : Nat) : Int) - 1 = (q : Int) := by omega
    have hv2l : v2 < 117649 := by
      have := Nat.div_le_self a.toNat (7 ^ j)
      omega
    have hv20 : 0 ≤ v2 := by rw [hv2]; exact Int.natCast_nonneg _
    rw [e5, Int.toNat_natCast, show wr ((q : Int) + -1) = (q : Int) - 1 from wr_id (by omega) (by omega)]
    have hq6 : q < (σ0 67 42).toNat := by omega
    refine ⟨⟨by omega, by omega⟩, ?_⟩
    intro σ1 hs1
    have f1 : Fr [67, 96] σ0 σ1 := by rw [hs1]; exact Fr.hp hf (by simp)
    have s1 : ∀ j, ¬ j = 57 → σ1 67 j = σ0 67 j := fun j hj => by rw [hs1, hp_ne (by decide)]; exact h67 j hj
    have s57 : σ1 67 57 = (wed : Int) := by rw [hs1, hp_ne (by decide)]; exact h57
    have r96 : ∀ i, σ1 96 i = if i = q then 6 else σ 96 i := fun i => by
      rw [hs1]
      show hp σ 96 q 6 96 i = _
      by_cases e : i = q
      · rw [e, hp_r1, if_pos rfl]
      · rw [hp_r2 (fun z => e z.2), if_neg e]
    have e85 : σ1 (67 + 18) = σ0 85 := f1 85 (by decide)
    have eH : ∀ i, i < (σ0 67 42).toNat → σ0 85 i = fHou (Fz σ0) i := fun i hi => (tr_in hi).symm
    have hHR : ∀ i, 0 ≤ fHou (Fz σ0) i ∧ fHou (Fz σ0) i ≤ 1 := fun i => (hFV.2.1 i).1
    have hzs := hz_s (Fz σ0) 0 q
    rw [e85, eH q hq6, s1 42 (by decide)]
    refine ⟨⟨by omega, by omega⟩, fun h1 => ⟨by decide, by decide, ?_⟩, fun h1 => ?_⟩
    · have hq0 : fHou (Fz σ0) q = 0 := by have := hHR q; omega
      rw [if_pos hq0] at hzs
      have hjA : j < wA (Fz σ0) := by omega
      have eix : wA (Fz σ0) - 1 - j = hz (Fz σ0) 0 q := by omega
      have eg : hi (Fz σ0) 0 (fN (Fz σ0)) (wA (Fz σ0) - 1 - j) = q := by rw [eix]; exact hi_at (by omega) hq0
      have em : iRem v2 7 = ((dg a.toNat j : Nat) : Int) := by rw [hv2]; exact iRem_n (b := 7) (by omega) (by decide) (by decide)
      have ed : iDiv v2 7 = ((a.toNat / 7 ^ (j + 1) : Nat) : Int) := by
        rw [hv2, show (7 : Int) = ((7 : Nat) : Int) from rfl, iDiv_n (by omega) (by decide) (by decide), Nat.div_div_eq_div_mul, Nat.pow_succ]
      have hd7 : dg a.toNat j < 7 := Nat.mod_lt _ (by decide)
      have hly := lay_s (hi (Fz σ0) 0 (fN (Fz σ0))) (nowM σ0).1 (wA (Fz σ0)) (dg a.toNat) j
      rw [show lay (hi (Fz σ0) 0 (fN (Fz σ0))) (nowM σ0).1 (wA (Fz σ0)) (dg a.toNat) j = some (had, wed, v4) from hl, eg] at hly
      rw [em, ed, Int.toNat_natCast]
      have rows : ∀ σ2 : Hp, (∀ i, ¬ i = q → σ2 96 i = σ1 96 i) → σ2 96 q = ((dg a.toNat j : Nat) : Int) → ∀ i, q ≤ i → i < (σ0 67 42).toNat → σ2 96 i = if fHou (Fz σ0) i = 1 then 6 else (dg a.toNat (wA (Fz σ0) - 1 - hz (Fz σ0) 0 i) : Int) := by
        intro σ2 t1 t2 i hi1 hi2
        by_cases e : i = q
        · rw [e, t2, if_neg (by omega), ← eix, show wA (Fz σ0) - 1 - (wA (Fz σ0) - 1 - j) = j by omega]
        · rw [t1 i e, r96, if_neg e]; exact hrow i (by omega) hi2
      have bad : (¬ okD (Fz σ0) (dg a.toNat) ∨ lyM σ0 a.toNat (wA (Fz σ0)) = none) → Mo_layRow_post 67 a σ0 (-1) σ1 := fun z => ⟨f1, s1, Or.inl ⟨rfl, z⟩⟩
      have oks : (dg a.toNat j = 6 ∨ (dg a.toNat j < fN (Fz σ0) ∧ fHou (Fz σ0) (dg a.toNat j) = 1)) → ∀ i, i < j + 1 → dg a.toNat i = 6 ∨ (dg a.toNat i < fN (Fz σ0) ∧ fHou (Fz σ0) (dg a.toNat i) = 1) := fun z i hi => by
        by_cases e : i = j
        · rw [e]; exact z
        · exact hok i (by omega)
      refine ⟨fun h2 => ?_, fun h2 => ?_⟩
      · have n6 : ¬ dg a.toNat j = 6 := fun z => h2 (by rw [z]; rfl)
        refine ⟨fun h3 => bad (Or.inl (fun z => ?_)), fun h3 => ⟨⟨by omega, by omega⟩, ?_⟩⟩
        · rcases z j hjA with y | y
          · exact n6 y
          · omega
        · rw [eH _ (by omega)]
          refine ⟨fun h4' => bad (Or.inl (fun z => ?_)), fun h4' => ?_⟩
          · rcases z j hjA with y | y
            · exact n6 y
            · omega
          · have hO1 : fHou (Fz σ0) (dg a.toNat j) = 1 := by have := hHR (dg a.toNat j); omega
            rw [hv3, bit_01 (by omega) (by omega) (by omega) (by omega), Int.toNat_natCast, bt_n]
            have hly' : lyM σ0 a.toNat (j + 1) = if had.testBit (dg a.toNat j) = true then none else some (had ||| 2 ^ dg a.toNat j, wed + 1, max v4 ((nowM σ0).1 q + (nowM σ0).1 (dg a.toNat j))) := hly.trans (if_neg n6)
            refine ⟨fun h5 => ?_, fun h5 => bad (Or.inr ?_)⟩
            · rw [if_neg h5] at hly'
              refine ⟨⟨by omega, by omega⟩, ?_⟩
              intro σ2 hs2 σ3 hs3
              have e67 : σ2 67 = σ1 67 := by rw [hs2]; exact hp_ne (by decide)
              rw [e67, s57, wr1 (by omega) (by omega)] at hs3
              have qc : ∀ c, ¬ c = 67 → ¬ c = 96 → σ3 c = σ0 c := fun c c1 c2 => by
                rw [hs3, hp_ne c1, hs2, hp_ne c2]; exact f1 c (by simp; exact ⟨c1, c2⟩)
              have e90 : σ3 (67 + 23) = σ0 90 := qc 90 (by decide) (by decide)
              have cR := hN.2.1.1 q
              have cO := hN.2.1.1 (dg a.toNat j)
              have f3 : Fr [67, 96] σ0 σ3 := by rw [hs3, hs2]; exact Fr.hp (Fr.hp f1 (by simp)) (by simp)
              have s3 : ∀ j, ¬ j = 57 → σ3 67 j = σ0 67 j := fun j hj => by rw [hs3, hp_r2 (fun z => hj z.2), e67]; exact s1 j hj
              have t57 : σ3 67 57 = ((wed + 1 : Nat) : Int) := by rw [hs3, hp_r1]; simp
              have e96 : σ3 96 = σ2 96 := by rw [hs3]; exact hp_ne (by decide)
              have t1 : ∀ i, ¬ i = q → σ3 96 i = σ1 96 i := fun i hi => by rw [e96, hs2]; exact hp_r2 (fun z => hi z.2)
              have t2 : σ3 96 q = ((dg a.toNat j : Nat) : Int) := by rw [e96, hs2]; exact hp_r1
              have h2O : 2 ^ dg a.toNat j < 2 ^ 6 := Nat.pow_lt_pow_right (by decide) (by omega)
              have hor : had ||| 2 ^ dg a.toNat j < 2 ^ 6 := Nat.or_lt_two_pow (by omega) h2O
              rw [e90, ← now_c (σ := σ0) (j := q) (by omega), ← now_c (σ := σ0) (j := dg a.toNat j) (by omega), wr_id (by omega) (by omega), shl_1 (by omega) (by omega), Int.toNat_natCast, iOr_n (by omega) (by omega)]
              have go : ∀ w : Int, w = max v4 ((nowM σ0).1 q + (nowM σ0).1 (dg a.toNat j)) → ∃ n' : Nat, n' < q + 1 ∧ (67 : Nat) = 67 ∧ a = a ∧ Mo_layRow_I20 67 a σ0 n' ((a.toNat / 7 ^ (j + 1) : Nat) : Int) ((had ||| 2 ^ dg a.toNat j : Nat) : Int) w ((q : Int) - 1) σ3 := fun w hw =>
                ⟨q, by omega, rfl, rfl, q, j + 1, had ||| 2 ^ dg a.toNat j, wed + 1, rfl, by omega, rfl, by omega, f3, s3, rfl, rfl, by omega, by rw [hw]; exact hly', by omega, t57, by omega, oks (Or.inr ⟨by omega, hO1⟩), rows σ3 t1 t2⟩
              exact ⟨⟨by omega, by omega⟩, ⟨by omega, by omega⟩, fun h6 => go _ (by omega), fun h6 => ⟨⟨by omega, by omega⟩, ⟨by omega, by omega⟩, go _ (by omega)⟩⟩
            · rw [if_pos (Classical.not_not.mp h5)] at hly'
              exact lay_none hly' _ (by omega)
      · have d6 : dg a.toNat j = 6 := by have := Classical.not_not.mp h2; omega
        refine ⟨q, by omega, rfl, rfl, q, j + 1, had, wed, rfl, by omega, rfl, by omega, f1, s1, rfl, hv3, hh, ?_, h4, s57, by omega, oks (Or.inl d6), rows σ1 (fun _ _ => rfl) (by rw [r96, if_pos rfl, d6]; rfl)⟩
        exact hly.trans (if_pos d6)
    · have hq1 : fHou (Fz σ0) q = 1 := Classical.not_not.mp h1
      rw [if_neg (by omega), Nat.add_zero] at hzs
      refine ⟨q, by omega, rfl, rfl, q, j, had, wed, rfl, by omega, rfl, by rw [hj, hzs]; rfl, f1, s1, hv2, hv3, hh, hl, h4, s57, hwj, hok, fun i hi1 hi2 => ?_⟩
      by_cases e : i = q
      · rw [r96, if_pos e, e, if_pos hq1]
      · rw [r96, if_neg e]; exact hrow i (by omega) hi2
def Mo_layRow_I : List AV → Hp → Nat → Nat → List AV → List AV → Hp → Prop := fun as σ0 pc n st ls σ => (match as with
    | [.inr (.inr (.inl (k, 0, 9))), .inl a1] => (bif Nat.beq pc 20 then (match st, ls with
      | [], [.inr (.inr (.inl (k', 0, 9))), .inl a1', .inl v2, .inl v3, .inl v4, .inl v5, _] => k = k' ∧ a1 = a1' ∧ Mo_layRow_I20 k a1 σ0 n v2 v3 v4 v5 σ
      | _, _ => False) else False)
    | _ => False)
def Mo_layRow_ct : Nat → Ct := fun n => match n with
  | _ => Mo_layRow_cs
set_option maxRecDepth 20000 in
set_option maxHeartbeats 4000000 in
theorem Mo_layRow_met {l : Launch} {D : va_G} {ad : Nat → Nat} {ca : Nat → ClassId} {L : Nat} {fx : Nat → Int} : ax_MC l D ad ca L fx yX9_layRow cX9_layRow 7 (some .int) 1 Mo_layRow_cs := by
  refine ax_met (oc := 9) (ct := Mo_layRow_ct) (calls := Mo_layRow_cl) (bs := Mo_layRow_bk) (cut := fun pc => Nat.beq pc 20) (f := 11) (I := Mo_layRow_I) (by decide) rfl rfl Mo_layRow_ck (fun _ h => absurd h List.not_mem_nil) ?_ ?_
  · intro as σ0 hp hH
    match as, hp with
    | [.inr (.inr (.inl (k, 0, 9))), .inl a1], hp => exact ⟨rfl, Mo_layRow_p k a1 σ0 hH hp⟩
  · intro as σ0 hp n pc st ls σ hH hI
    match as, hp, hI with
    | [.inr (.inr (.inl (k, 0, 9))), .inl a1], hp, hI =>
      rcases ax_bifE hI with ⟨hpc, hI⟩ | ⟨-, hI⟩
      · have := Nat.eq_of_beq_eq_true hpc
        subst this
        match st, ls, hI with
        | [], [.inr (.inr (.inl (k', 0, 9))), .inl a1', .inl v2, .inl v3, .inl v4, .inl v5, _], hI =>
          obtain ⟨rfl, rfl, hI⟩ := hI
          exact Mo_layRow_p20 k a1 σ0 hp n v2 v3 v4 v5 σ hH hI
      exact False.elim hI
