-- THE MODEL: rank
theorem pcn_all {x : Nat} : ∀ n, pcn x n = n → ∀ j, j < n → x.testBit j = true := by
  intro n
  induction n with
  | zero => intro _ j hj; exact absurd hj (Nat.not_lt_zero j)
  | succ n ih =>
    intro h j hj
    rw [pcn_s] at h
    have hl := pcn_le x n
    cases hb : x.testBit n with
    | false => rw [hb] at h; simp at h; omega
    | true =>
      rw [hb] at h
      simp at h
      by_cases e : j = n
      · rw [e]; exact hb
      · exact ih h j (by omega)
theorem pcn_gap {x : Nat} : ∀ n, (∀ j, j < n → x.testBit j = true) → pcn x n = n := by
  intro n
  induction n with
  | zero => intro _; rfl
  | succ n ih => intro h; rw [pcn_s, ih (fun j hj => h j (by omega)), h n (by omega)]; rfl
def rkI (F : Fam) (s : Sta) (N : Nat) (w : Nat → Int) (k had : Nat) : Prop := had < 64 ∧ pcn had N = k ∧ (∀ i, i < k → 0 ≤ w i ∧ w i < (N : Int) ∧ had.testBit (w i).toNat = true) ∧ (∀ i j, i < j → j < k → bfr F s (w i).toNat (w j).toNat) ∧ (∀ p, p < N → had.testBit p = true → ∃ i, i < k ∧ w i = (p : Int)) ∧ ∀ i, i < k → ∀ p, p < N → ¬ had.testBit p = true → bfr F s (w i).toNat p
def Mo_rank_pre (k : Nat) (σ : Hp) : Prop := k = 67 ∧ MP σ
def Mo_rank_post (_k : Nat) (σ : Hp) (r : Int) (σ' : Hp) : Prop := MQo σ σ' ∧ ∀ d, s_rank (mA d σ) r (mA d σ')
def lf : List Nat := 97 :: af
def Mo_rank_I8 (_k : Nat) (σ0 : Hp) (n : Nat) (v1 v2 : Int) (σ : Hp) : Prop := ∃ i had : Nat, v2 = i ∧ v1 = had ∧ i ≤ (σ0 67 42).toNat ∧ n = 10 * (7 - i) + 9 ∧ Fr lf σ0 σ ∧ AP σ ∧ airM σ = nowM σ0 ∧ ∀ d, rkI (famM d σ0) (nowM σ0) (σ0 67 42).toNat (σ 97) i had
def Mo_rank_I21 (_k : Nat) (σ0 : Hp) (n : Nat) (v1 v2 v3 v4 : Int) (σ : Hp) : Prop := ∃ i had p : Nat, v2 = i ∧ v1 = had ∧ v4 = p ∧ i < (σ0 67 42).toNat ∧ p ≤ (σ0 67 42).toNat ∧ n = 10 * (7 - i) + (8 - p) ∧ Fr lf σ0 σ ∧ AP σ ∧ airM σ = nowM σ0 ∧ (∀ d, rkI (famM d σ0) (nowM σ0) (σ0 67 42).toNat (σ 97) i had) ∧ ((v3 = -1 ∧ ∀ q, q < p → had.testBit q = true) ∨ (0 ≤ v3 ∧ v3 < (p : Int) ∧ ¬ had.testBit v3.toNat = true ∧ ∀ d, ∀ q, q < p → ¬ had.testBit q = true → q = v3.toNat ∨ bfr (famM d σ0) (nowM σ0) v3.toNat q))
def Mo_rank_bk : List (Nat × List Item) := [(0, [(.aload_n 0, 1, [], []), (.invokevirtual 401, 3, [0], []), (.iconst 0, 1, [], []), (.istore_n 1, 1, [], []), (.iconst 0, 1, [], []), (.istore_n 2, 1, [], [])]),
  (8, [(.iload_n 2, 1, [], []), (.aload_n 0, 1, [], []), (.getfield 304, 3, [9, 42, 0, 0, 0, 0], []), (.if_icmp .ge 72, 3, [85], []), (.iconst (-1), 1, [], []), (.istore_n 3, 1, [], []), (.iconst 0, 1, [], []), (.istore 4, 2, [], [])]),
  (21, [(.iload 4, 2, [], []), (.aload_n 0, 1, [], []), (.getfield 304, 3, [9, 42, 0, 0, 0, 0], []), (.if_icmp .ge 39, 3, [66], []), (.iload_n 1, 1, [], []), (.iload 4, 2, [], []), (.ishr, 1, [], []), (.iconst 1, 1, [], []), (.iand, 1, [], []), (.ifCond .ne 24, 3, [60], []), (.iload_n 3, 1, [], []), (.ifCond .lt 17, 3, [57], []), (.aload_n 0, 1, [], []), (.iload 4, 2, [], []), (.invokevirtual 389, 3, [1], []), (.aload_n 0, 1, [], []), (.iload_n 3, 1, [], []), (.invokevirtual 389, 3, [1], []), (.if_icmp .le 6, 3, [60], [])]),
  (57, [(.iload 4, 2, [], []), (.istore_n 3, 1, [], [])]),
  (60, [(.iinc 4 1, 3, [], []), (.goto (-42), 3, [21], [])]),
  (66, [(.iload_n 1, 1, [], []), (.iconst 1, 1, [], []), (.iload_n 3, 1, [], []), (.ishl, 1, [], []), (.ior, 1, [], []), (.istore_n 1, 1, [], []), (.aload_n 0, 1, [], []), (.getfield 106, 3, [9, 55, 4, 30, 1, 6], []), (.iload_n 2, 1, [], []), (.iload_n 3, 1, [], []), (.iastore, 1, [], []), (.iinc 2 1, 3, [], []), (.goto (-74), 3, [8], [])]),
  (85, [(.aload_n 0, 1, [], []), (.aload_n 0, 1, [], []), (.getfield 304, 3, [9, 42, 0, 0, 0, 0], []), (.putfield 376, 3, [9, 56, 0, 0, 0, 0], []), (.aload_n 0, 1, [], []), (.getfield 304, 3, [9, 42, 0, 0, 0, 0], []), (.ireturn, 1, [], [])])]
def Mo_rank_cl : List (Instr × Nat) := [(.invokevirtual 401, 0), (.invokevirtual 389, 1)]
set_option maxRecDepth 20000 in
theorem Mo_rank_ck : Mo_rank_bk.all (fun b => ax_chB 9 5 cX9_rank Mo_rank_cl b.1 b.2) = true := by decide +kernel
def Mo_rank_cs : Ct := (1, 10, 1, (0, 0), fun as σ => (match as with
    | [.inr (.inr (.inl (k, 0, 9)))] => Mo_rank_pre k σ
    | _ => False), fun as σ r σ' => (match as with
    | [.inr (.inr (.inl (k, 0, 9)))] => Mo_rank_post k σ r σ'
    | _ => False))
theorem Mo_rank_w : ∀ w ∈ ([.instanceMethod yX9_rank, .selects yX9_rank.cls yX9_rank yX9_rank, .initialized yX9_rank.cls, .code yX9_rank cX9_rank 5 (some .int)] : List Cond), w ∈ ax_tb := ax_w4 (ax_m8 2 (by decide +kernel) rfl) (ax_m8 3 (by decide +kernel) rfl) (ax_m1 10 (by decide +kernel) rfl) (ax_m8 4 (by decide +kernel) rfl)
theorem Mo_rank_ds : yX9_rank.cls ≠ "java/lang/invoke/MethodHandle" ∧ yX9_rank.cls ≠ "java/lang/invoke/VarHandle" ∧ (parseMethodDescriptor yX9_rank.desc).map (fun d => d.parameters.length) = some 0 := by decide +kernel
def Mo_rank_vc : Prop := ∀ (k : Nat) (σ : Hp), ax_H σ → Mo_rank_pre k σ →
  Mo_load_pre k σ ∧
  ∀ σ1 : Hp, Mo_load_post k σ σ1 →
  ∃ n' : Nat, k = k ∧ Mo_rank_I8 k σ n' 0 0 σ1
def Mo_rank_vc8 : Prop := ∀ (k : Nat) (σ0 : Hp), Mo_rank_pre k σ0 → ∀ (n : Nat) (v1 : Int) (v2 : Int) (σ : Hp), ax_H σ → Mo_rank_I8 k σ0 n v1 v2 σ →
  (σ k 42 ≤ v2 →
    ∀ σ1 : Hp, σ1 = hp σ k 56 (σ k 42) →
    Mo_rank_post k σ0 (σ1 k 42) σ1) ∧
  (¬ (σ k 42 ≤ v2) →
    ∃ n' : Nat, n' < n ∧ k = k ∧ Mo_rank_I21 k σ0 n' v1 v2 (-1) 0 σ)
def Mo_rank_vc21 : Prop := ∀ (k : Nat) (σ0 : Hp), Mo_rank_pre k σ0 → ∀ (n : Nat) (v1 : Int) (v2 : Int) (v3 : Int) (v4 : Int) (σ : Hp), ax_H σ → Mo_rank_I21 k σ0 n v1 v2 v3 v4 σ →
  (σ k 42 ≤ v4 →
    (0 ≤ v2 ∧ v2 < 6) ∧
    ∀ σ1 : Hp, σ1 = hp σ (k + 30) v2.toNat v3 →
    ∃ n' : Nat, n' < n ∧ k = k ∧ Mo_rank_I8 k σ0 n' (iOr v1 (iShl 1 v3)) (wr (v2 + 1)) σ1) ∧
  (¬ (σ k 42 ≤ v4) →
    (¬ iAnd (iShr v1 v4) 1 = 0 →
      ∃ n' : Nat, n' < n ∧ k = k ∧ Mo_rank_I21 k σ0 n' v1 v2 v3 (wr (v4 + 1)) σ) ∧
    (¬ (¬ iAnd (iShr v1 v4) 1 = 0) →
      (v3 < 0 →
        ∃ n' : Nat, n' < n ∧ k = k ∧ Mo_rank_I21 k σ0 n' v1 v2 v4 (wr (v4 + 1)) σ) ∧
      (¬ (v3 < 0) →
        Mo_worryOf_pre k v4 σ ∧
        ∀ (r3 : Int) (σ2 : Hp), Mo_worryOf_post k v4 σ r3 σ2 →
        Mo_worryOf_pre k v3 σ2 ∧
        ∀ (r5 : Int) (σ4 : Hp), Mo_worryOf_post k v3 σ2 r5 σ4 →
        (r3 ≤ r5 →
          ∃ n' : Nat, n' < n ∧ k = k ∧ Mo_rank_I21 k σ0 n' v1 v2 v3 (wr (v4 + 1)) σ4) ∧
        (¬ (r3 ≤ r5) →
          ∃ n' : Nat, n' < n ∧ k = k ∧ Mo_rank_I21 k σ0 n' v1 v2 v4 (wr (v4 + 1)) σ4))))
theorem Mo_rank_p : Mo_rank_vc := by
  intro k σ hH hp
  obtain ⟨rfl, hP⟩ := hp
  refine ⟨rfl, fun σ1 g => ?_⟩
  have L := hP.np.load g
  refine ⟨79, rfl, 0, 0, rfl, rfl, Nat.zero_le _, rfl, g.1.mono (by simp [lf, af]), L.1, L.2.2, fun d => ⟨by decide, ?_, fun i hi => absurd hi (Nat.not_lt_zero i), fun i j _ hj => absurd hj (Nat.not_lt_zero j), fun p _ z => absurd z (by rw [Nat.zero_testBit]; decide), fun i hi => absurd hi (Nat.not_lt_zero i)⟩⟩
  have : ∀ n, pcn 0 n = 0 := by
    intro n
    induction n with
    | zero => rfl
    | succ n ih => rw [pcn_s, ih, Nat.zero_testBit]; rfl
  exact this _
theorem Mo_rank_p8 : Mo_rank_vc8 := by
  intro k σ0 hp0 n v1 v2 σ hH hI
  obtain ⟨rfl, hP⟩ := hp0
  obtain ⟨i, had, rfl, rfl, hi, rfl, hf, hA, ha, hR⟩ := hI
  have hn := hP.n6
  have e67 : σ 67 = σ0 67 := hf 67 (by decide)
  rw [e67]
  refine ⟨fun h => ?_, fun h => ⟨10 * (7 - i) + 8, by omega, rfl, i, had, 0, rfl, rfl, rfl, by omega, Nat.zero_le _, rfl, hf, hA, ha, hR, Or.inl ⟨rfl, fun q hq => absurd hq (Nat.not_lt_zero q)⟩⟩⟩
  intro σ1 hs
  have ei : i = (σ0 67 42).toNat := by omega
  have q56 : σ1 67 56 = σ0 67 42 := by rw [hs, hp_r1]
  have q67 : ∀ j, ¬ j = 56 → σ1 67 j = σ0 67 j := fun j hj => by rw [hs, hp_r2 (fun z => hj z.2), e67]
  have qc : ∀ c, ¬ c = 67 → σ1 c = σ c := fun c hc => by rw [hs, hp_ne hc]
  have M := mA_L hP.1 (σ' := σ1) (fun j _ hj => q67 j hj) (fun c hcc h97 => by
    rw [qc c (fun z => by rw [z] at hcc; unfold shC at hcc; omega)]
    exact hf c (fun z => shC_ne hcc h97 (List.mem_cons_of_mem _ z))) (by rw [q56]; omega)
  refine ⟨M.1, fun d => ?_⟩
  obtain ⟨r1, r2, r3, r4, r5, r6⟩ := hR d
  refine ⟨σ 97, ⟨fun j hj => ?_, fun j l hjl hl => r4 j l hjl (by have hl' : l < (σ0 67 42).toNat := hl; omega), fun p hp => ?_⟩, ?_, ?_⟩
  · have hj' : j < (σ0 67 42).toNat := hj
    exact ⟨(r3 j (by omega)).1, (r3 j (by omega)).2.1⟩
  · have hp' : p < (σ0 67 42).toNat := hp
    obtain ⟨j, hj, e⟩ := r5 p hp' (pcn_all _ (by rw [r2, ei]) p hp')
    exact ⟨j, by show j < (σ0 67 42).toNat; omega, e⟩
  · rw [q67 42 (by decide)]
    show σ0 67 42 = (((σ0 67 42).toNat : Nat) : Int)
    omega
  · rw [M.2 d, q56, qc 97 (by decide)]; rfl
theorem Mo_rank_p21 : Mo_rank_vc21 := by
  intro k σ0 hp0 n v1 v2 v3 v4 σ hH hI
  obtain ⟨rfl, hP⟩ := hp0
  obtain ⟨i, had, p, rfl, rfl, rfl, hi, hpN, rfl, hf, hA, ha, hR, hb⟩ := hI
  have hn := hP.n6
  have e67 : σ 67 = σ0 67 := hf 67 (by decide)
  have F := (hP.np.fr hf (by simp [lf, af])).2.1
  rw [e67]
  refine ⟨fun h => ?_, fun h => ?_⟩
  · have ep : p = (σ0 67 42).toNat := by omega
    have hb' : 0 ≤ v3 ∧ v3 < (p : Int) ∧ ¬ had.testBit v3.toNat = true ∧ ∀ d, ∀ q, q < p → ¬ had.testBit q = true → q = v3.toNat ∨ bfr (famM d σ0) (nowM σ0) v3.toNat q := by
      rcases hb with ⟨-, z⟩ | z
      · have := pcn_gap p z
        have h2 := (hR 0).2.1
        rw [← ep, this] at h2
        omega
      · exact z
    obtain ⟨b0, b1, b2, b3⟩ := hb'
    have h26 : 2 ^ v3.toNat < 2 ^ 6 := Nat.pow_lt_pow_right (by decide) (by omega)
    have hh := (hR 0).1
    have hor : had ||| 2 ^ v3.toNat < 2 ^ 6 := Nat.or_lt_two_pow (by omega) h26
    rw [shl_1 b0 (by omega), iOr_n (by omega) (by omega), wr1 (by omega) (by omega), Int.toNat_natCast]
    refine ⟨⟨by omega, by omega⟩, ?_⟩
    intro σ1 hs
    have q97 : ∀ j, σ1 97 j = if j = i then v3 else σ 97 j := fun j => by
      rw [hs]
      show hp σ 97 i v3 97 j = _
      by_cases e : j = i
      · rw [e, hp_r1, if_pos rfl]
      · rw [hp_r2 (fun z => e z.2), if_neg e]
    have qc : ∀ c, ¬ c = 97 → σ1 c = σ c := fun c hc => by rw [hs]; exact hp_ne hc
    have K := hA.keep (σ' := σ1) (qc 67 (by decide)) (qc 91 (by decide)) (fun c hc => qc c (by omega))
    refine ⟨10 * (7 - (i + 1)) + 9, by omega, rfl, i + 1, had ||| 2 ^ v3.toNat, by simp, rfl, by omega, rfl, by rw [hs]; exact Fr.hp hf (by simp [lf]), K.1, (hst_air (qc 91 (by decide))).trans ha, fun d => ?_⟩
    obtain ⟨r1, r2, r3, r4, r5, r6⟩ := hR d
    have tb : ∀ q, (had ||| 2 ^ v3.toNat).testBit q = (had.testBit q || decide (v3.toNat = q)) := fun q => by rw [Nat.testBit_or, Nat.testBit_two_pow]
    refine ⟨by omega, by rw [pcn_or b2 _ (by omega), r2], fun j hj => ?_, fun j l hjl hl => ?_, fun q hq hb => ?_, fun j hj q hq hb => ?_⟩
    · rw [q97]
      by_cases e : j = i
      · rw [if_pos e, tb]
        exact ⟨b0, by omega, by simp⟩
      · rw [if_neg e, tb]
        have := r3 j (by omega)
        exact ⟨this.1, this.2.1, by rw [this.2.2]; rfl⟩
    · rw [q97, q97, if_neg (show ¬ j = i by omega)]
      by_cases e : l = i
      · rw [if_pos e]; exact r6 j (by omega) _ (by omega) b2
      · rw [if_neg e]; exact r4 j l hjl (by omega)
    · rw [tb, Bool.or_eq_true] at hb
      rcases hb with z | z
      · obtain ⟨j, hj, e⟩ := r5 q hq z
        exact ⟨j, by omega, by rw [q97, if_neg (by omega)]; exact e⟩
      · have : v3.toNat = q := of_decide_eq_true z
        exact ⟨i, by omega, by rw [q97, if_pos rfl]; omega⟩
    · rw [tb, Bool.or_eq_true, not_or] at hb
      have hq2 : ¬ v3.toNat = q := fun z => hb.2 (decide_eq_true z)
      rw [q97]
      by_cases e : j = i
      · rw [if_pos e]
        rcases b3 d q (by omega) hb.1 with z | z
        · exact absurd z.symm hq2
        · exact z
      · rw [if_neg e]; exact r6 j (by omega) q hq hb.1
  · have hh := (hR 0).1
    have bit0 : iAnd (iShr (had : Int) (p : Int)) 1 = 0 ↔ ¬ had.testBit p = true := by
      rw [bit_t (by omega) (by omega) (by omega) (by omega), Int.toNat_natCast, bt_n]
      cases had.testBit p <;> simp
    rw [bit0, wr1 (i := (p : Int)) (by omega) (by omega)]
    have go : ∀ (w : Int) (σ2 : Hp), Fr lf σ0 σ2 → AP σ2 → airM σ2 = nowM σ0 → σ2 97 = σ 97 → ((w = -1 ∧ ∀ q, q < p + 1 → had.testBit q = true) ∨ (0 ≤ w ∧ w < ((p + 1 : Nat) : Int) ∧ ¬ had.testBit w.toNat = true ∧ ∀ d, ∀ q, q < p + 1 → ¬ had.testBit q = true → q = w.toNat ∨ bfr (famM d σ0) (nowM σ0) w.toNat q)) → ∃ n' : Nat, n' < 10 * (7 - i) + (8 - p) ∧ (67 : Nat) = 67 ∧ Mo_rank_I21 67 σ0 n' had i w ((p : Int) + 1) σ2 := fun w σ2 f2 A2 a2 e97 hw =>
      ⟨10 * (7 - i) + (8 - (p + 1)), by omega, rfl, i, had, p + 1, rfl, rfl, by simp, hi, by omega, rfl, f2, A2, a2, by rw [e97]; exact hR, hw⟩
    refine ⟨fun h2 => go v3 σ hf hA ha rfl ?_, fun h2 => ?_⟩
    · have h2' : had.testBit p = true := Classical.not_not.mp h2
      rcases hb with ⟨z, y⟩ | ⟨b0, b1, b2, b3⟩
      · refine Or.inl ⟨z, fun q hq => ?_⟩
        by_cases e : q = p
        · rw [e]; exact h2'
        · exact y q (by omega)
      · refine Or.inr ⟨b0, by omega, b2, fun d q hq hb => ?_⟩
        by_cases e : q = p
        · rw [e] at hb; exact absurd h2' hb
        · exact b3 d q (by omega) hb
    · have h2' : ¬ had.testBit p = true := Classical.not_not.mp h2
      refine ⟨fun h3 => go p σ hf hA ha rfl ?_, fun h3 => ?_⟩
      · rcases hb with ⟨z, y⟩ | ⟨b0, -⟩
        · refine Or.inr ⟨by omega, by omega, by rw [Int.toNat_natCast]; exact h2', fun d q hq hb => ?_⟩
          rw [Int.toNat_natCast]
          by_cases e : q = p
          · exact Or.inl e
          · exact absurd (y q (by omega)) hb
        · omega
      · rcases hb with ⟨z, -⟩ | ⟨b0, b1, b2, b3⟩
        · omega
        refine ⟨⟨rfl, by omega, by rw [e67]; omega, hA⟩, ?_⟩
        rintro r3 σ2 ⟨g1, g2⟩
        have K1 := hA.fr g1 (by simp)
        refine ⟨⟨rfl, b0, by rw [g1 67 (by decide), e67]; omega, K1.1⟩, ?_⟩
        rintro r5 σ4 ⟨g3, g4⟩
        have K3 := K1.1.fr g3 (by simp)
        have f4 : Fr lf σ0 σ4 := (hf.tr (g1.mono (by simp [lf, af]))).tr (g3.mono (by simp [lf, af]))
        have e97 : σ4 97 = σ 97 := by rw [g3 97 (by decide), g1 97 (by decide)]
        have w3 : ∀ d, r3 = wry (famM d σ0) (nowM σ0) p := fun d => by rw [g2 d, F d, ha, Int.toNat_natCast]
        have w5 : ∀ d, r5 = wry (famM d σ0) (nowM σ0) v3.toNat := fun d => by rw [g4 d, K1.2.1 d, F d, K1.2.2, ha]
        have a4 : airM σ4 = nowM σ0 := by rw [K3.2.2, K1.2.2, ha]
        refine ⟨fun h6 => go v3 σ4 f4 K3.1 a4 e97 (Or.inr ⟨b0, by omega, b2, fun d q hq hb => ?_⟩), fun h6 => go p σ4 f4 K3.1 a4 e97 (Or.inr ⟨by omega, by omega, by rw [Int.toNat_natCast]; exact h2', fun d q hq hb => ?_⟩)⟩
        · by_cases e : q = p
          · right
            have h7 := w3 d
            have h8 := w5 d
            unfold bfr
            rw [e]
            omega
          · exact b3 d q (by omega) hb
        · rw [Int.toNat_natCast]
          by_cases e : q = p
          · exact Or.inl e
          · right
            have h7 := w3 d
            have h8 := w5 d
            rcases b3 d q (by omega) hb with z | z
            · unfold bfr; rw [z]; omega
            · unfold bfr at z ⊢; omega
def Mo_rank_I : List AV → Hp → Nat → Nat → List AV → List AV → Hp → Prop := fun as σ0 pc n st ls σ => (match as with
    | [.inr (.inr (.inl (k, 0, 9)))] => (bif Nat.beq pc 8 then (match st, ls with
      | [], [.inr (.inr (.inl (k', 0, 9))), .inl v1, .inl v2, _, _] => k = k' ∧ Mo_rank_I8 k σ0 n v1 v2 σ
      | _, _ => False) else (bif Nat.beq pc 21 then (match st, ls with
      | [], [.inr (.inr (.inl (k', 0, 9))), .inl v1, .inl v2, .inl v3, .inl v4] => k = k' ∧ Mo_rank_I21 k σ0 n v1 v2 v3 v4 σ
      | _, _ => False) else False))
    | _ => False)
def Mo_rank_ct : Nat → Ct := fun n => match n with
  | 0 => Mo_load_cs
  | 1 => Mo_worryOf_cs
  | _ => Mo_rank_cs
set_option maxRecDepth 20000 in
set_option maxHeartbeats 4000000 in
theorem Mo_rank_met {l : Launch} {D : va_G} {ad : Nat → Nat} {ca : Nat → ClassId} {L : Nat} {fx : Nat → Int} : ax_MC l D ad ca L fx yX9_rank cX9_rank 5 (some .int) 5 Mo_rank_cs := by
  refine ax_met (oc := 9) (ct := Mo_rank_ct) (calls := Mo_rank_cl) (bs := Mo_rank_bk) (cut := fun pc => Nat.beq pc 8 || Nat.beq pc 21) (f := 8) (I := Mo_rank_I) (by decide) rfl rfl Mo_rank_ck (List.forall_mem_cons.mpr ⟨ax_cwV Mo_load_met (by decide) (by decide) rfl (by decide) rfl (ax_m7 86 (by decide +kernel) rfl) Mo_load_w rfl Mo_load_ds, List.forall_mem_cons.mpr ⟨ax_cwV Mo_worryOf_met (by decide) (by decide) rfl (by decide) rfl (ax_m7 46 (by decide +kernel) rfl) Mo_worryOf_w rfl Mo_worryOf_ds, fun _ h => absurd h List.not_mem_nil⟩⟩) ?_ ?_
  · intro as σ0 hp hH
    match as, hp with
    | [.inr (.inr (.inl (k, 0, 9)))], hp => exact ⟨rfl, Mo_rank_p k σ0 hH hp⟩
  · intro as σ0 hp n pc st ls σ hH hI
    match as, hp, hI with
    | [.inr (.inr (.inl (k, 0, 9)))], hp, hI =>
      rcases ax_bifE hI with ⟨hpc, hI⟩ | ⟨-, hI⟩
      · have := Nat.eq_of_beq_eq_true hpc
        subst this
        match st, ls, hI with
        | [], [.inr (.inr (.inl (k', 0, 9))), .inl v1, .inl v2, _, _], hI =>
          obtain ⟨rfl, hI⟩ := hI
          exact Mo_rank_p8 k σ0 hp n v1 v2 σ hH hI
      rcases ax_bifE hI with ⟨hpc, hI⟩ | ⟨-, hI⟩
      · have := Nat.eq_of_beq_eq_true hpc
        subst this
        match st, ls, hI with
        | [], [.inr (.inr (.inl (k', 0, 9))), .inl v1, .inl v2, .inl v3, .inl v4], hI =>
          obtain ⟨rfl, hI⟩ := hI
          exact Mo_rank_p21 k σ0 hp n v1 v2 v3 v4 σ hH hI
      exact False.elim hI
def Mo_divisor_pre (a b : Int) (_ : Hp) : Prop := 0 ≤ a ∧ a < 2147483648 ∧ 0 ≤ b ∧ b < 2147483648
def Mo_divisor_post (a b : Int) (σ : Hp) (r : Int) (σ' : Hp) : Prop := σ' = σ ∧ r = (Nat.gcd a.toNat b.toNat : Nat)
def Mo_divisor_I4 (a b : Int) (σ0 : Hp) (m : Nat) (v2 v3 : Int) (σ : Hp) : Prop := ∃ g l : Nat, v2 = g ∧ v3 = l ∧ m = l ∧ σ = σ0 ∧ g < 2147483648 ∧ l < 2147483648 ∧ Nat.gcd g l = Nat.gcd a.toNat b.toNat
def Mo_divisor_bk : List (Nat × List Item) := [(0, [(.iload_n 0, 1, [], []), (.istore_n 2, 1, [], []), (.iload_n 1, 1, [], []), (.istore_n 3, 1, [], [])]),
  (4, [(.iload_n 3, 1, [], []), (.ifCond .le 16, 3, [21], []), (.iload_n 2, 1, [], []), (.iload_n 3, 1, [], []), (.irem, 1, [], []), (.istore 4, 2, [], []), (.iload_n 3, 1, [], []), (.istore_n 2, 1, [], []), (.iload 4, 2, [], []), (.istore_n 3, 1, [], []), (.goto (-14), 3, [4], [])]),
  (21, [(.iload_n 2, 1, [], []), (.ireturn, 1, [], [])])]
def Mo_divisor_cl : List (Instr × Nat) := []
set_option maxRecDepth 20000 in
theorem Mo_divisor_ck : Mo_divisor_bk.all (fun b => ax_chB 9 5 cX9_divisor Mo_divisor_cl b.1 b.2) = true := by decide +kernel
def Mo_divisor_cs : Ct := (2, 0, 1, (0, 0), fun as σ => (match as with
    | [.inl a1, .inl a2] => Mo_divisor_pre a1 a2 σ
    | _ => False), fun as σ r σ' => (match as with
    | [.inl a1, .inl a2] => Mo_divisor_post a1 a2 σ r σ'
    | _ => False))
theorem Mo_divisor_w : ∀ w ∈ ([.static yX9_divisor, .initialized yX9_divisor.cls, .code yX9_divisor cX9_divisor 5 (some .int)] : List Cond), w ∈ ax_tb := ax_w3 (ax_m8 35 (by decide +kernel) rfl) (ax_m1 10 (by decide +kernel) rfl) (ax_m8 36 (by decide +kernel) rfl)
theorem Mo_divisor_ds : yX9_divisor.cls ≠ "java/lang/invoke/MethodHandle" ∧ yX9_divisor.cls ≠ "java/lang/invoke/VarHandle" ∧ (parseMethodDescriptor yX9_divisor.desc).map (fun d => d.parameters.length) = some 2 := by decide +kernel
def Mo_divisor_vc : Prop := ∀ (a1 : Int) (a2 : Int) (σ : Hp), ax_H σ → Mo_divisor_pre a1 a2 σ →
  ∃ n' : Nat, a1 = a1 ∧ a2 = a2 ∧ Mo_divisor_I4 a1 a2 σ n' a1 a2 σ
def Mo_divisor_vc4 : Prop := ∀ (a1 : Int) (a2 : Int) (σ0 : Hp), Mo_divisor_pre a1 a2 σ0 → ∀ (n : Nat) (v2 : Int) (v3 : Int) (σ : Hp), ax_H σ → Mo_divisor_I4 a1 a2 σ0 n v2 v3 σ →
  (v3 ≤ 0 →
    Mo_divisor_post a1 a2 σ0 v2 σ) ∧
  (¬ (v3 ≤ 0) →
    ¬ v3 = 0 ∧
    ∃ n' : Nat, n' < n ∧ a1 = a1 ∧ a2 = a2 ∧ Mo_divisor_I4 a1 a2 σ0 n' v3 (iRem v2 v3) σ)
theorem Mo_divisor_p : Mo_divisor_vc := by
  intro a b σ hH hp
  obtain ⟨a0, a1, b0, b1⟩ := hp
  exact ⟨b.toNat, rfl, rfl, a.toNat, b.toNat, by omega, by omega, rfl, rfl, by omega, by omega, rfl⟩
theorem Mo_divisor_p4 : Mo_divisor_vc4 := by
  intro a b σ0 hp m v2 v3 σ hH hI
  obtain ⟨g, l, rfl, rfl, hm, rfl, hg, hl, hd⟩ := hI
  refine ⟨fun h => ⟨rfl, ?_⟩, fun h => ⟨by omega, g % l, by rw [hm]; exact Nat.mod_lt g (by omega), rfl, rfl, l, g % l, rfl, iRem_n (by omega) (by omega) (by omega), rfl, rfl, hl, ?_, ?_⟩⟩
  · rw [← hd, show l = 0 by omega, Nat.gcd_zero_right]
  · exact Nat.lt_of_lt_of_le (Nat.mod_lt g (by omega)) (by omega)
  · rw [← hd, Nat.gcd_comm l, ← Nat.gcd_rec, Nat.gcd_comm]
def Mo_divisor_I : List AV → Hp → Nat → Nat → List AV → List AV → Hp → Prop := fun as σ0 pc n st ls σ => (match as with
    | [.inl a1, .inl a2] => (bif Nat.beq pc 4 then (match st, ls with
      | [], [.inl a1', .inl a2', .inl v2, .inl v3, _] => a1 = a1' ∧ a2 = a2' ∧ Mo_divisor_I4 a1 a2 σ0 n v2 v3 σ
      | _, _ => False) else False)
    | _ => False)
def Mo_divisor_ct : Nat → Ct := fun n => match n with
  | _ => Mo_divisor_cs
set_option maxRecDepth 20000 in
set_option maxHeartbeats 4000000 in
theorem Mo_divisor_met {l : Launch} {D : va_G} {ad : Nat → Nat} {ca : Nat → ClassId} {L : Nat} {fx : Nat → Int} : ax_MC l D ad ca L fx yX9_divisor cX9_divisor 5 (some .int) 1 Mo_divisor_cs := by
  refine ax_met (oc := 9) (ct := Mo_divisor_ct) (calls := Mo_divisor_cl) (bs := Mo_divisor_bk) (cut := fun pc => Nat.beq pc 4) (f := 4) (I := Mo_divisor_I) (by decide) rfl rfl Mo_divisor_ck (fun _ h => absurd h List.not_mem_nil) ?_ ?_
  · intro as σ0 hp hH
    match as, hp with
    | [.inl a1, .inl a2], hp => exact ⟨rfl, Mo_divisor_p a1 a2 σ0 hH hp⟩
  · intro as σ0 hp n pc st ls σ hH hI
    match as, hp, hI with
    | [.inl a1, .inl a2], hp, hI =>
      rcases ax_bifE hI with ⟨hpc, hI⟩ | ⟨-, hI⟩
      · have := Nat.eq_of_beq_eq_true hpc
        subst this
        match st, ls, hI with
        | [], [.inl a1', .inl a2', .inl v2, .inl v3, _], hI =>
          obtain ⟨rfl, rfl, hI⟩ := hI
          exact Mo_divisor_p4 a1 a2 σ0 hp n v2 v3 σ hH hI
      exact False.elim hI
