-- THE MODEL: sights told, boxes, text
theorem sgn_and (x : Int) : sgn (iAnd x 255) = iByte x ∧ 0 ≤ iAnd x 255 ∧ iAnd x 255 ≤ 255 := by
  unfold iAnd iByte
  rw [Int8.toInt_toInt32, Int32.toInt_toInt8]
  generalize Int32.ofInt x = w
  have h1 : (w &&& Int32.ofInt 255).toInt = ((w.toBitVec.toNat % 256 : Nat) : Int) := by
    refine i_bv (n := w.toBitVec.toNat % 256) ?_ (by omega)
    rw [Int32.toBitVec_and]
    apply BitVec.eq_of_toNat_eq
    rw [BitVec.toNat_and, BitVec.toNat_ofNat, Nat.mod_eq_of_lt (show w.toBitVec.toNat % 256 < 2 ^ 32 by omega)]
    exact Nat.and_two_pow_sub_one_eq_mod _ 8
  have h2 : w.toInt = if 2 * w.toBitVec.toNat < 2 ^ 32 then (w.toBitVec.toNat : Int) else (w.toBitVec.toNat : Int) - (2 ^ 32 : Nat) := BitVec.toInt_eq_toNat_cond w.toBitVec
  rw [h1, h2, Int.bmod_def]
  unfold sgn
  generalize w.toBitVec.toNat = n
  split <;> split <;> split <;> omega
/-- what a change outside leaves of the picture -/
theorem mA_gen {σ σ' : Hp} (hX : MIr σ) (h23 : σ' 67 23 = σ 67 23) (h42 : σ' 67 42 = σ 67 42) (h43 : σ' 67 43 = σ 67 43) (hc : ∀ c, c < 67 ∨ (73 ≤ c ∧ c ≤ 75) ∨ (85 ≤ c ∧ c ≤ 89) → σ' c = σ c) (h1 : 0 ≤ σ' 67 1 ∧ σ' 67 1 ≤ 1600) (h3 : ∀ i, i < 1600 → 0 ≤ σ' 68 i ∧ σ' 68 i ≤ 255) (h4 : 0 ≤ σ' 67 50 ∧ 0 ≤ σ' 67 51) (h5 : 0 ≤ σ' 67 56 ∧ σ' 67 56 ≤ 6) (h6 : 0 ≤ σ' 67 64 ∧ σ' 67 64 ≤ 30) : MQo σ σ' ∧ ∀ d, mA d σ' = (tpM σ', (σ' 67 2, σ' 67 3), famM d σ, nowM σ', hstM σ', bxM σ', sgM σ', lsM σ', σ' 67 65) := by
  have K := hX.1.keep (σ' := σ') h42 h43 h23 (fun c z => hc c (by omega))
  refine ⟨⟨⟨K.1, h1, h3, h4, h5, h6⟩, fun c z => hc c (by omega)⟩, fun d => ?_⟩
  unfold mA
  rw [K.2 d]
theorem tpM_eq {σ σ' : Hp} (h1 : σ' 67 1 = σ 67 1) (h2 : σ' 68 = σ 68) : tpM σ' = tpM σ := by unfold tpM; rw [h1, h2]
theorem lsM_eq {σ σ' : Hp} (h1 : σ' 67 56 = σ 67 56) (h2 : σ' 97 = σ 97) : lsM σ' = lsM σ := by unfold lsM; rw [h1, h2]
theorem bxM_eq {σ σ' : Hp} (h1 : σ' 106 = σ 106) (h2 : σ' 107 = σ 107) : bxM σ' = bxM σ := by funext i; unfold bxM; rw [h1, h2]
theorem nowM_eq {σ σ' : Hp} (h1 : σ' 90 = σ 90) : nowM σ' = nowM σ := by show stR (σ' 90) 0 = _; rw [h1]
theorem sgM_eq {σ σ' : Hp} (h1 : σ' 67 64 = σ 67 64) (h2 : ∀ c, 99 ≤ c ∧ c ≤ 103 → σ' c = σ c) : sgM σ' = sgM σ := by unfold sgM; rw [h1, h2 99 (by omega), h2 100 (by omega), h2 101 (by omega), h2 102 (by omega), h2 103 (by omega)]
def Mo_seen_pre (k : Nat) (_a _b c : Int) (σ : Hp) : Prop := k = 67 ∧ MP σ ∧ (c = 0 ∨ c = 1)
def Mo_seen_post (_k : Nat) (a b c : Int) (σ : Hp) (r : Int) (σ' : Hp) : Prop := MQo σ σ' ∧ ∀ d, s_seen (mA d σ) a b c r (mA d σ')
def Mo_seen_bk : List (Nat × List Item) := [(0, [(.aload_n 0, 1, [], []), (.getfield 304, 3, [9, 42, 0, 0, 0, 0], []), (.ifCond .eq 35, 3, [39], []), (.iload_n 1, 1, [], []), (.iconst 0, 1, [], []), (.bipush 9, 2, [], []), (.invokestatic 379, 3, [0], []), (.ifCond .eq 25, 3, [39], []), (.iload_n 2, 1, [], []), (.iconst (-1), 1, [], []), (.if_icmp .eq 11, 3, [30], []), (.aload_n 0, 1, [], []), (.iload_n 2, 1, [], []), (.invokevirtual 398, 3, [1], []), (.ifCond .eq 12, 3, [39], [])]),
  (30, [(.aload_n 0, 1, [], []), (.getfield 373, 3, [9, 64, 0, 0, 0, 0], []), (.bipush 30, 2, [], []), (.if_icmp .ne 5, 3, [41], [])]),
  (39, [(.iconst (-1), 1, [], []), (.ireturn, 1, [], [])]),
  (41, [(.aload_n 0, 1, [], []), (.getfield 112, 3, [9, 59, 4, 32, 1, 30], []), (.aload_n 0, 1, [], []), (.getfield 373, 3, [9, 64, 0, 0, 0, 0], []), (.iload_n 1, 1, [], []), (.iastore, 1, [], []), (.aload_n 0, 1, [], []), (.getfield 115, 3, [9, 60, 4, 33, 1, 30], []), (.aload_n 0, 1, [], []), (.getfield 373, 3, [9, 64, 0, 0, 0, 0], []), (.iload_n 2, 1, [], []), (.iastore, 1, [], []), (.aload_n 0, 1, [], []), (.getfield 124, 3, [9, 63, 4, 36, 3, 30], []), (.aload_n 0, 1, [], []), (.getfield 373, 3, [9, 64, 0, 0, 0, 0], []), (.iload_n 3, 1, [], []), (.bastore, 1, [], []), (.aload_n 0, 1, [], []), (.getfield 118, 3, [9, 61, 4, 34, 1, 30], []), (.aload_n 0, 1, [], []), (.getfield 373, 3, [9, 64, 0, 0, 0, 0], []), (.aload_n 0, 1, [], []), (.getfield 474, 3, [9, 65, 0, 0, 0, 0], []), (.iastore, 1, [], []), (.aload_n 0, 1, [], []), (.getfield 121, 3, [9, 62, 4, 35, 1, 30], []), (.aload_n 0, 1, [], []), (.getfield 373, 3, [9, 64, 0, 0, 0, 0], []), (.iconst (-1), 1, [], []), (.iastore, 1, [], []), (.aload_n 0, 1, [], []), (.dup, 1, [], []), (.getfield 373, 3, [9, 64, 0, 0, 0, 0], []), (.iconst 1, 1, [], []), (.iadd, 1, [], []), (.putfield 373, 3, [9, 64, 0, 0, 0, 0], []), (.aload_n 0, 1, [], []), (.getfield 373, 3, [9, 64, 0, 0, 0, 0], []), (.iconst 1, 1, [], []), (.isub, 1, [], []), (.ireturn, 1, [], [])])]
def Mo_seen_cl : List (Instr × Nat) := [(.invokestatic 379, 0), (.invokevirtual 398, 1)]
set_option maxRecDepth 20000 in
theorem Mo_seen_ck : Mo_seen_bk.all (fun b => ax_chB 9 4 cX9_seen Mo_seen_cl b.1 b.2) = true := by decide +kernel
def Mo_seen_cs : Ct := (4, 10, 1, (0, 0), fun as σ => (match as with
    | [.inr (.inr (.inl (k, 0, 9))), .inl a1, .inl a2, .inl a3] => Mo_seen_pre k a1 a2 a3 σ
    | _ => False), fun as σ r σ' => (match as with
    | [.inr (.inr (.inl (k, 0, 9))), .inl a1, .inl a2, .inl a3] => Mo_seen_post k a1 a2 a3 σ r σ'
    | _ => False))
theorem Mo_seen_w : ∀ w ∈ ([.instanceMethod yX9_seen, .selects yX9_seen.cls yX9_seen yX9_seen, .initialized yX9_seen.cls, .code yX9_seen cX9_seen 4 (some .int)] : List Cond), w ∈ ax_tb := ax_w4 (ax_m8 69 (by decide +kernel) rfl) (ax_m8 70 (by decide +kernel) rfl) (ax_m1 10 (by decide +kernel) rfl) (ax_m8 71 (by decide +kernel) rfl)
theorem Mo_seen_ds : yX9_seen.cls ≠ "java/lang/invoke/MethodHandle" ∧ yX9_seen.cls ≠ "java/lang/invoke/VarHandle" ∧ (parseMethodDescriptor yX9_seen.desc).map (fun d => d.parameters.length) = some 3 := by decide +kernel
def Mo_seen_vc : Prop := ∀ (k : Nat) (a1 : Int) (a2 : Int) (a3 : Int) (σ : Hp), ax_H σ → Mo_seen_pre k a1 a2 a3 σ →
  (σ k 42 = 0 →
    Mo_seen_post k a1 a2 a3 σ (-1) σ) ∧
  (¬ (σ k 42 = 0) →
    Mo_isIn_pre a1 0 9 σ ∧
    ∀ (r2 : Int) (σ1 : Hp), Mo_isIn_post a1 0 9 σ r2 σ1 →
    (r2 = 0 →
      Mo_seen_post k a1 a2 a3 σ (-1) σ1) ∧
    (¬ (r2 = 0) →
      (a2 = (-1) →
        (¬ σ1 k 64 = 30 →
          (0 ≤ σ1 k 64 ∧ σ1 k 64 < 30) ∧
          ∀ σ3 : Hp, σ3 = hp σ1 (k + 32) (σ1 k 64).toNat a1 →
          (0 ≤ σ3 k 64 ∧ σ3 k 64 < 30) ∧
          ∀ σ4 : Hp, σ4 = hp σ3 (k + 33) (σ3 k 64).toNat a2 →
          (0 ≤ σ4 k 64 ∧ σ4 k 64 < 30) ∧
          (a3 = 0 ∨ a3 = 1) ∧ ∀ σ5 : Hp, σ5 = hp σ4 (k + 36) (σ4 k 64).toNat a3 →
          (0 ≤ σ5 k 64 ∧ σ5 k 64 < 30) ∧
          ∀ σ6 : Hp, σ6 = hp σ5 (k + 34) (σ5 k 64).toNat (σ5 k 65) →
          (0 ≤ σ6 k 64 ∧ σ6 k 64 < 30) ∧
          ∀ σ7 : Hp, σ7 = hp σ6 (k + 35) (σ6 k 64).toNat (-1) →
          ∀ σ8 : Hp, σ8 = hp σ7 k 64 (wr ((σ7 k 64) + 1)) →
          Mo_seen_post k a1 a2 a3 σ (wr ((σ8 k 64) - 1)) σ8) ∧
        (¬ (¬ σ1 k 64 = 30) →
          Mo_seen_post k a1 a2 a3 σ (-1) σ1)) ∧
      (¬ (a2 = (-1)) →
        Mo_isPerson_pre k a2 σ1 ∧
        ∀ (r10 : Int) (σ9 : Hp), Mo_isPerson_post k a2 σ1 r10 σ9 →
        (r10 = 0 →
          Mo_seen_post k a1 a2 a3 σ (-1) σ9) ∧
        (¬ (r10 = 0) →
          (¬ σ9 k 64 = 30 →
            (0 ≤ σ9 k 64 ∧ σ9 k 64 < 30) ∧
            ∀ σ11 : Hp, σ11 = hp σ9 (k + 32) (σ9 k 64).toNat a1 →
            (0 ≤ σ11 k 64 ∧ σ11 k 64 < 30) ∧
            ∀ σ12 : Hp, σ12 = hp σ11 (k + 33) (σ11 k 64).toNat a2 →
            (0 ≤ σ12 k 64 ∧ σ12 k 64 < 30) ∧
            (a3 = 0 ∨ a3 = 1) ∧ ∀ σ13 : Hp, σ13 = hp σ12 (k + 36) (σ12 k 64).toNat a3 →
            (0 ≤ σ13 k 64 ∧ σ13 k 64 < 30) ∧
            ∀ σ14 : Hp, σ14 = hp σ13 (k + 34) (σ13 k 64).toNat (σ13 k 65) →
            (0 ≤ σ14 k 64 ∧ σ14 k 64 < 30) ∧
            ∀ σ15 : Hp, σ15 = hp σ14 (k + 35) (σ14 k 64).toNat (-1) →
            ∀ σ16 : Hp, σ16 = hp σ15 k 64 (wr ((σ15 k 64) + 1)) →
            Mo_seen_post k a1 a2 a3 σ (wr ((σ16 k 64) - 1)) σ16) ∧
          (¬ (¬ σ9 k 64 = 30) →
            Mo_seen_post k a1 a2 a3 σ (-1) σ9)))))
theorem Mo_seen_p : Mo_seen_vc := by
  intro k a b c σ hH hp0
  obtain ⟨rfl, hP, hc⟩ := hp0
  have hn := hP.n6
  have hX := hP.1
  have h64 := hX.2.2.2.2.2
  have no : ∀ σ1 : Hp, σ1 = σ → (¬ ((¬ (σ 67 42).toNat = 0 ∧ (b = -1 ∨ (0 ≤ b ∧ b < (((σ 67 42).toNat : Nat) : Int)))) ∧ (0 ≤ a ∧ a < 10) ∧ (σ 67 64).toNat < 30)) → Mo_seen_post 67 a b c σ (-1) σ1 := by
    rintro σ1 rfl h
    refine ⟨⟨hX, fun _ _ => rfl⟩, fun d => ?_⟩
    unfold s_seen
    rw [if_neg (show ¬ ((¬ fN (aF (mA d σ1)) = 0 ∧ (b = -1 ∨ isP (mA d σ1) b)) ∧ (0 ≤ a ∧ a < 10) ∧ (aG (mA d σ1)).1 < 30) from h)]
    exact ⟨rfl, rfl⟩
  have yes : ((¬ (σ 67 42).toNat = 0 ∧ (b = -1 ∨ (0 ≤ b ∧ b < (((σ 67 42).toNat : Nat) : Int)))) ∧ (0 ≤ a ∧ a < 10) ∧ (σ 67 64).toNat < 30) →
          (0 ≤ σ 67 64 ∧ σ 67 64 < 30) ∧
          ∀ σ3 : Hp, σ3 = hp σ (67 + 32) (σ 67 64).toNat a →
          (0 ≤ σ3 67 64 ∧ σ3 67 64 < 30) ∧
          ∀ σ4 : Hp, σ4 = hp σ3 (67 + 33) (σ3 67 64).toNat b →
          (0 ≤ σ4 67 64 ∧ σ4 67 64 < 30) ∧
          (c = 0 ∨ c = 1) ∧ ∀ σ5 : Hp, σ5 = hp σ4 (67 + 36) (σ4 67 64).toNat c →
          (0 ≤ σ5 67 64 ∧ σ5 67 64 < 30) ∧
          ∀ σ6 : Hp, σ6 = hp σ5 (67 + 34) (σ5 67 64).toNat (σ5 67 65) →
          (0 ≤ σ6 67 64 ∧ σ6 67 64 < 30) ∧
          ∀ σ7 : Hp, σ7 = hp σ6 (67 + 35) (σ6 67 64).toNat (-1) →
          ∀ σ8 : Hp, σ8 = hp σ7 67 64 (wr ((σ7 67 64) + 1)) →
          Mo_seen_post 67 a b c σ (wr ((σ8 67 64) - 1)) σ8 := by
    intro h
    have hlt : σ 67 64 < 30 := by omega
    refine ⟨⟨h64.1, hlt⟩, ?_⟩
    intro σ3 h3
    have e3 : σ3 67 = σ 67 := by rw [h3]; exact hp_ne (by decide)
    rw [e3]
    refine ⟨⟨h64.1, hlt⟩, ?_⟩
    intro σ4 h4
    have e4 : σ4 67 = σ 67 := by rw [h4, ← e3]; exact hp_ne (by decide)
    rw [e4]
    refine ⟨⟨h64.1, hlt⟩, hc, ?_⟩
    intro σ5 h5
    have e5 : σ5 67 = σ 67 := by rw [h5, ← e4]; exact hp_ne (by decide)
    rw [e5]
    refine ⟨⟨h64.1, hlt⟩, ?_⟩
    intro σ6 h6
    have e6 : σ6 67 = σ 67 := by rw [h6, ← e5]; exact hp_ne (by decide)
    rw [e6]
    refine ⟨⟨h64.1, hlt⟩, ?_⟩
    intro σ7 h7
    have e7 : σ7 67 = σ 67 := by rw [h7, ← e6]; exact hp_ne (by decide)
    rw [e7, wr1 h64.1 (by omega)]
    intro σ8 h8
    have q64 : σ8 67 64 = σ 67 64 + 1 := by rw [h8, hp_r1]
    have q67 : ∀ j, ¬ j = 64 → σ8 67 j = σ 67 j := fun j hj => by rw [h8, hp_r2 (fun z => hj z.2), e7]
    have qc : ∀ c, ¬ c = 67 → ¬ (99 ≤ c ∧ c ≤ 103) → σ8 c = σ c := fun c z1 z2 => by
      rw [h8, hp_ne z1, h7, hp_ne (by omega), h6, hp_ne (by omega), h5, hp_ne (by omega), h4, hp_ne (by omega), h3, hp_ne (by omega)]
    have w99 : ∀ j, σ8 99 j = if j = (σ 67 64).toNat then a else σ 99 j := fun j => by
      rw [h8, hp_ne (by decide), h7, hp_ne (by decide), h6, hp_ne (by decide), h5, hp_ne (by decide), h4, hp_ne (by decide), h3, hp_rd]
      by_cases e : j = (σ 67 64).toNat
      · rw [if_pos ⟨rfl, e⟩, if_pos e]
      · rw [if_neg (fun z => e z.2), if_neg e]
    have w100 : ∀ j, σ8 100 j = if j = (σ 67 64).toNat then b else σ 100 j := fun j => by
      rw [h8, hp_ne (by decide), h7, hp_ne (by decide), h6, hp_ne (by decide), h5, hp_ne (by decide), h4, hp_rd]
      by_cases e : j = (σ 67 64).toNat
      · rw [if_pos ⟨rfl, e⟩, if_pos e]
      · rw [if_neg (fun z => e z.2), if_neg e, h3, hp_ne (by decide)]
    have w103 : ∀ j, σ8 103 j = if j = (σ 67 64).toNat then c else σ 103 j := fun j => by
      rw [h8, hp_ne (by decide), h7, hp_ne (by decide), h6, hp_ne (by decide), h5, hp_rd]
      by_cases e : j = (σ 67 64).toNat
      · rw [if_pos ⟨rfl, e⟩, if_pos e]
      · rw [if_neg (fun z => e z.2), if_neg e, h4, hp_ne (by decide), h3, hp_ne (by decide)]
    have w101 : ∀ j, σ8 101 j = if j = (σ 67 64).toNat then σ 67 65 else σ 101 j := fun j => by
      rw [h8, hp_ne (by decide), h7, hp_ne (by decide), h6, hp_rd]
      by_cases e : j = (σ 67 64).toNat
      · rw [if_pos ⟨rfl, e⟩, if_pos e]
      · rw [if_neg (fun z => e z.2), if_neg e, h5, hp_ne (by decide), h4, hp_ne (by decide), h3, hp_ne (by decide)]
    have w102 : ∀ j, σ8 102 j = if j = (σ 67 64).toNat then -1 else σ 102 j := fun j => by
      rw [h8, hp_ne (by decide), h7, hp_rd]
      by_cases e : j = (σ 67 64).toNat
      · rw [if_pos ⟨rfl, e⟩, if_pos e]
      · rw [if_neg (fun z => e z.2), if_neg e, h6, hp_ne (by decide), h5, hp_ne (by decide), h4, hp_ne (by decide), h3, hp_ne (by decide)]
    have M := mA_gen (σ' := σ8) hX (q67 23 (by decide)) (q67 42 (by decide)) (q67 43 (by decide)) (fun c hc => qc c (by omega) (by omega)) (by rw [q67 1 (by decide)]; exact hX.2.1) (by rw [qc 68 (by decide) (by decide)]; exact hX.2.2.1) (by rw [q67 50 (by decide), q67 51 (by decide)]; exact hX.2.2.2.1) (by rw [q67 56 (by decide)]; exact hX.2.2.2.2.1) (by rw [q64]; omega)
    refine ⟨M.1, fun d => ?_⟩
    unfold s_seen
    rw [if_pos (show (¬ fN (aF (mA d σ)) = 0 ∧ (b = -1 ∨ isP (mA d σ) b)) ∧ (0 ≤ a ∧ a < 10) ∧ (aG (mA d σ)).1 < 30 from h)]
    refine ⟨?_, ?_⟩
    · rw [q64, wr_id (by omega) (by omega)]
      show σ 67 64 + 1 - 1 = (((σ 67 64).toNat : Nat) : Int)
      omega
    · rw [M.2 d, tpM_eq (q67 1 (by decide)) (qc 68 (by decide) (by decide)), q67 2 (by decide), q67 3 (by decide), nowM_eq (qc 90 (by decide) (by decide)), hstM_eq (q67 50 (by decide)) (q67 51 (by decide)) (qc 93 (by decide) (by decide)), bxM_eq (qc 106 (by decide) (by decide)) (qc 107 (by decide) (by decide)), lsM_eq (q67 56 (by decide)) (qc 97 (by decide) (by decide)), q67 65 (by decide)]
      have eG : sgM σ8 = adG' (sgM σ) a b c (σ 67 65) := by
        unfold sgM adG'
        rw [q64, show (σ 67 64 + 1).toNat = (σ 67 64).toNat + 1 by omega, tr_up w99, tr_up w100, tr_up w101, tr_up w102, tr_up w103]
      rw [eG]
      rfl
  refine ⟨fun h => no σ rfl (by omega), fun h => ⟨trivial, ?_⟩⟩
  rintro r2 σ1 ⟨rfl, rfl⟩
  refine ⟨fun h2 => no σ1 rfl (fun z => ite0 h2 (by omega)), fun h2 => ?_⟩
  have h2' := ite1 h2
  refine ⟨fun h3 => ⟨fun h4 => yes ⟨⟨by omega, Or.inl h3⟩, by omega, by omega⟩, fun h4 => no σ1 rfl (by omega)⟩, fun h3 => ⟨⟨rfl, hn⟩, ?_⟩⟩
  rintro r10 σ9 ⟨rfl, rfl⟩
  refine ⟨fun h4 => no σ9 rfl (fun z => ?_), fun h4 => ⟨fun h5 => yes ⟨⟨by omega, Or.inr (ite1 h4)⟩, by omega, by omega⟩, fun h5 => no σ9 rfl (by omega)⟩⟩
  rcases z.1.2 with y | y
  · exact h3 y
  · exact ite0 h4 y
def Mo_seen_I : List AV → Hp → Nat → Nat → List AV → List AV → Hp → Prop := fun as σ0 pc n st ls σ => (match as with
    | [.inr (.inr (.inl (k, 0, 9))), .inl a1, .inl a2, .inl a3] => False
    | _ => False)
def Mo_seen_ct : Nat → Ct := fun n => match n with
  | 0 => Mo_isIn_cs
  | 1 => Mo_isPerson_cs
  | _ => Mo_seen_cs
set_option maxRecDepth 20000 in
set_option maxHeartbeats 4000000 in
theorem Mo_seen_met {l : Launch} {D : va_G} {ad : Nat → Nat} {ca : Nat → ClassId} {L : Nat} {fx : Nat → Int} : ax_MC l D ad ca L fx yX9_seen cX9_seen 4 (some .int) 3 Mo_seen_cs := by
  refine ax_met (oc := 9) (ct := Mo_seen_ct) (calls := Mo_seen_cl) (bs := Mo_seen_bk) (cut := fun pc => false) (f := 5) (I := Mo_seen_I) (by decide) rfl rfl Mo_seen_ck (List.forall_mem_cons.mpr ⟨ax_cwS Mo_isIn_met (by decide) (by decide) (ax_m7 83 (by decide +kernel) rfl) Mo_isIn_w rfl Mo_isIn_ds, List.forall_mem_cons.mpr ⟨ax_cwV Mo_isPerson_met (by decide) (by decide) rfl (by decide) rfl (ax_m7 79 (by decide +kernel) rfl) Mo_isPerson_w rfl Mo_isPerson_ds, fun _ h => absurd h List.not_mem_nil⟩⟩) ?_ ?_
  · intro as σ0 hp hH
    match as, hp with
    | [.inr (.inr (.inl (k, 0, 9))), .inl a1, .inl a2, .inl a3], hp => exact ⟨rfl, Mo_seen_p k a1 a2 a3 σ0 hH hp⟩
  · intro as σ0 hp n pc st ls σ hH hI
    match as, hp, hI with
    | [.inr (.inr (.inl (k, 0, 9))), .inl a1, .inl a2, .inl a3], hp, hI => exact False.elim hI
def Mo_untell_pre (k : Nat) (_a : Int) (σ : Hp) : Prop := k = 67 ∧ MP σ
def Mo_untell_post (_k : Nat) (a : Int) (σ : Hp) (r : Int) (σ' : Hp) : Prop := MQo σ σ' ∧ ∀ d, s_untell (mA d σ) a r (mA d σ')
def Mo_untell_bk : List (Nat × List Item) := [(0, [(.iload_n 1, 1, [], []), (.iconst 0, 1, [], []), (.aload_n 0, 1, [], []), (.getfield 373, 3, [9, 64, 0, 0, 0, 0], []), (.iconst 1, 1, [], []), (.isub, 1, [], []), (.invokestatic 379, 3, [0], []), (.ifCond .eq 12, 3, [23], []), (.aload_n 0, 1, [], []), (.getfield 121, 3, [9, 62, 4, 35, 1, 30], []), (.iload_n 1, 1, [], []), (.iaload, 1, [], []), (.ifCond .lt 5, 3, [25], [])]),
  (23, [(.iconst 0, 1, [], []), (.ireturn, 1, [], [])]),
  (25, [(.aload_n 0, 1, [], []), (.getfield 121, 3, [9, 62, 4, 35, 1, 30], []), (.iload_n 1, 1, [], []), (.aload_n 0, 1, [], []), (.getfield 474, 3, [9, 65, 0, 0, 0, 0], []), (.iastore, 1, [], []), (.iconst 1, 1, [], []), (.ireturn, 1, [], [])])]
def Mo_untell_cl : List (Instr × Nat) := [(.invokestatic 379, 0)]
set_option maxRecDepth 20000 in
theorem Mo_untell_ck : Mo_untell_bk.all (fun b => ax_chB 9 2 cX9_untell Mo_untell_cl b.1 b.2) = true := by decide +kernel
def Mo_untell_cs : Ct := (2, 10, 2, (0, 0), fun as σ => (match as with
    | [.inr (.inr (.inl (k, 0, 9))), .inl a1] => Mo_untell_pre k a1 σ
    | _ => False), fun as σ r σ' => (match as with
    | [.inr (.inr (.inl (k, 0, 9))), .inl a1] => Mo_untell_post k a1 σ r σ'
    | _ => False))
theorem Mo_untell_w : ∀ w ∈ ([.instanceMethod yX9_untell, .selects yX9_untell.cls yX9_untell yX9_untell, .initialized yX9_untell.cls, .code yX9_untell cX9_untell 2 (some .boolean)] : List Cond), w ∈ ax_tb := ax_w4 (ax_m8 73 (by decide +kernel) rfl) (ax_m8 74 (by decide +kernel) rfl) (ax_m1 10 (by decide +kernel) rfl) (ax_m8 75 (by decide +kernel) rfl)
theorem Mo_untell_ds : yX9_untell.cls ≠ "java/lang/invoke/MethodHandle" ∧ yX9_untell.cls ≠ "java/lang/invoke/VarHandle" ∧ (parseMethodDescriptor yX9_untell.desc).map (fun d => d.parameters.length) = some 1 := by decide +kernel
def Mo_untell_vc : Prop := ∀ (k : Nat) (a1 : Int) (σ : Hp), ax_H σ → Mo_untell_pre k a1 σ →
  Mo_isIn_pre a1 0 (wr ((σ k 64) - 1)) σ ∧
  ∀ (r2 : Int) (σ1 : Hp), Mo_isIn_post a1 0 (wr ((σ k 64) - 1)) σ r2 σ1 →
  (r2 = 0 →
    ((0 : Int) = 0 ∨ (0 : Int) = 1) ∧ Mo_untell_post k a1 σ 0 σ1) ∧
  (¬ (r2 = 0) →
    (0 ≤ a1 ∧ a1 < 30) ∧
    (σ1 (k + 35) a1.toNat < 0 →
      (0 ≤ a1 ∧ a1 < 30) ∧
      ∀ σ3 : Hp, σ3 = hp σ1 (k + 35) a1.toNat (σ1 k 65) →
      ((1 : Int) = 0 ∨ (1 : Int) = 1) ∧ Mo_untell_post k a1 σ 1 σ3) ∧
    (¬ (σ1 (k + 35) a1.toNat < 0) →
      ((0 : Int) = 0 ∨ (0 : Int) = 1) ∧ Mo_untell_post k a1 σ 0 σ1))
theorem tr_upi {f g : Nat → Int} {n i : Nat} {v : Int} (hi : i < n) (h : ∀ j, g j = if j = i then v else f j) : tr n g = va_up (tr n f) i v := by
  funext j
  by_cases e : j = i
  · rw [e, vu_at, tr_in hi, h, if_pos rfl]
  · rw [vu_ne e]
    by_cases hj : j < n
    · rw [tr_in hj, tr_in hj, h, if_neg e]
    · rw [tr_out (by omega), tr_out (by omega)]
theorem Mo_untell_p : Mo_untell_vc := by
  intro k a σ hH hp0
  obtain ⟨rfl, hP⟩ := hp0
  have hX := hP.1
  have h64 := hX.2.2.2.2.2
  obtain ⟨dW, hW⟩ := hP.2
  have hG := hW.2.2.2.2.2.2.2.1
  rw [wr_id (by omega) (by omega)]
  have no : ∀ σ1 : Hp, σ1 = σ → (¬ ((0 ≤ a ∧ a < (((σ 67 64).toNat : Nat) : Int)) ∧ tr (σ 67 64).toNat (σ 102) a.toNat = -1)) → ((0 : Int) = 0 ∨ (0 : Int) = 1) ∧ Mo_untell_post 67 a σ 0 σ1 := by
    rintro σ1 rfl h
    refine ⟨Or.inl rfl, ⟨hX, fun _ _ => rfl⟩, fun d => ?_⟩
    unfold s_untell
    rw [if_neg (show ¬ ((0 ≤ a ∧ a < ((aG (mA d σ1)).1 : Int)) ∧ (aG (mA d σ1)).2.2.2.2.2 a.toNat = -1) from h)]
    exact ⟨rfl, rfl⟩
  refine ⟨trivial, ?_⟩
  rintro r2 σ1 ⟨rfl, rfl⟩
  refine ⟨fun h => no σ1 rfl (fun z => ite0 h (by omega)), fun h => ?_⟩
  have h1 := ite1 h
  have ha : 0 ≤ a ∧ a < (((σ1 67 64).toNat : Nat) : Int) := by omega
  have et : tr (σ1 67 64).toNat (σ1 102) a.toNat = σ1 (67 + 35) a.toNat := tr_in (by omega)
  have hge : -1 ≤ tr (σ1 67 64).toNat (σ1 102) a.toNat := (hG.2 a.toNat (by show a.toNat < (σ1 67 64).toNat; omega)).2
  rw [et] at hge no
  refine ⟨⟨by omega, by omega⟩, fun h2 => ⟨⟨by omega, by omega⟩, ?_⟩, fun h2 => no σ1 rfl (by omega)⟩
  intro σ3 hs
  have qc : ∀ c, ¬ c = 102 → σ3 c = σ1 c := fun c hc => by rw [hs]; exact hp_ne hc
  have q102 : ∀ j, σ3 102 j = if j = a.toNat then σ1 67 65 else σ1 102 j := fun j => by
    rw [hs]
    show hp σ1 102 a.toNat (σ1 67 65) 102 j = _
    by_cases e : j = a.toNat
    · rw [e, hp_r1, if_pos rfl]
    · rw [hp_r2 (fun z => e z.2), if_neg e]
  have e67 := qc 67 (by decide)
  have M := mA_gen (σ' := σ3) hX (by rw [e67]) (by rw [e67]) (by rw [e67]) (fun c hc => qc c (by omega)) (by rw [e67]; exact hX.2.1) (by rw [qc 68 (by decide)]; exact hX.2.2.1) (by rw [e67]; exact hX.2.2.2.1) (by rw [e67]; exact hX.2.2.2.2.1) (by rw [e67]; exact h64)
  refine ⟨Or.inr rfl, M.1, fun d => ?_⟩
  unfold s_untell
  rw [if_pos (show (0 ≤ a ∧ a < ((aG (mA d σ1)).1 : Int)) ∧ (aG (mA d σ1)).2.2.2.2.2 a.toNat = -1 from ⟨ha, by show tr (σ1 67 64).toNat (σ1 102) a.toNat = -1; rw [et]; omega⟩)]
  refine ⟨rfl, ?_⟩
  rw [M.2 d, tpM_eq (by rw [e67]) (qc 68 (by decide)), e67, nowM_eq (qc 90 (by decide)), hstM_eq (by rw [e67]) (by rw [e67]) (qc 93 (by decide)), bxM_eq (qc 106 (by decide)) (qc 107 (by decide)), lsM_eq (by rw [e67]) (qc 97 (by decide))]
  have eG : sgM σ3 = unG (sgM σ1) a.toNat (σ1 67 65) := by
    unfold sgM unG
    rw [e67, qc 99 (by decide), qc 100 (by decide), qc 101 (by decide), qc 103 (by decide), tr_upi (by omega) q102]
  rw [eG]
  rfl
def Mo_untell_I : List AV → Hp → Nat → Nat → List AV → List AV → Hp → Prop := fun as σ0 pc n st ls σ => (match as with
    | [.inr (.inr (.inl (k, 0, 9))), .inl a1] => False
    | _ => False)
def Mo_untell_ct : Nat → Ct := fun n => match n with
  | 0 => Mo_isIn_cs
  | _ => Mo_untell_cs
set_option maxRecDepth 20000 in
set_option maxHeartbeats 4000000 in
theorem Mo_untell_met {l : Launch} {D : va_G} {ad : Nat → Nat} {ca : Nat → ClassId} {L : Nat} {fx : Nat → Int} : ax_MC l D ad ca L fx yX9_untell cX9_untell 2 (some .boolean) 2 Mo_untell_cs := by
  refine ax_met (oc := 9) (ct := Mo_untell_ct) (calls := Mo_untell_cl) (bs := Mo_untell_bk) (cut := fun pc => false) (f := 4) (I := Mo_untell_I) (by decide) rfl rfl Mo_untell_ck (List.forall_mem_cons.mpr ⟨ax_cwS Mo_isIn_met (by decide) (by decide) (ax_m7 83 (by decide +kernel) rfl) Mo_isIn_w rfl Mo_isIn_ds, fun _ h => absurd h List.not_mem_nil⟩) ?_ ?_
  · intro as σ0 hp hH
    match as, hp with
    | [.inr (.inr (.inl (k, 0, 9))), .inl a1], hp => exact ⟨rfl, Mo_untell_p k a1 σ0 hH hp⟩
  · intro as σ0 hp n pc st ls σ hH hI
    match as, hp, hI with
    | [.inr (.inr (.inl (k, 0, 9))), .inl a1], hp, hI => exact False.elim hI
def Mo_later_pre (k : Nat) (_a : Int) (σ : Hp) : Prop := k = 67 ∧ MP σ
def Mo_later_post (_k : Nat) (a : Int) (σ : Hp) (r : Int) (σ' : Hp) : Prop := MQo σ σ' ∧ ∀ d, s_later (mA d σ) a r (mA d σ')
def Mo_later_bk : List (Nat × List Item) := [(0, [(.iload_n 1, 1, [], []), (.ifCond .lt 22, 3, [23], []), (.iload_n 1, 1, [], []), (.sipush 1000, 3, [], []), (.if_icmp .gt 15, 3, [23], []), (.aload_n 0, 1, [], []), (.getfield 474, 3, [9, 65, 0, 0, 0, 0], []), (.iload_n 1, 1, [], []), (.iadd, 1, [], []), (.ldc_w 477, 3, [], [(100000, 0)]), (.if_icmp .le 5, 3, [25], [])]),
  (23, [(.iconst (-1), 1, [], []), (.ireturn, 1, [], [])]),
  (25, [(.aload_n 0, 1, [], []), (.dup, 1, [], []), (.getfield 474, 3, [9, 65, 0, 0, 0, 0], []), (.iload_n 1, 1, [], []), (.iadd, 1, [], []), (.putfield 474, 3, [9, 65, 0, 0, 0, 0], []), (.aload_n 0, 1, [], []), (.getfield 474, 3, [9, 65, 0, 0, 0, 0], []), (.ireturn, 1, [], [])])]
def Mo_later_cl : List (Instr × Nat) := []
set_option maxRecDepth 20000 in
theorem Mo_later_ck : Mo_later_bk.all (fun b => ax_chB 9 2 cX9_later Mo_later_cl b.1 b.2) = true := by decide +kernel
def Mo_later_cs : Ct := (2, 10, 1, (0, 0), fun as σ => (match as with
    | [.inr (.inr (.inl (k, 0, 9))), .inl a1] => Mo_later_pre k a1 σ
    | _ => False), fun as σ r σ' => (match as with
    | [.inr (.inr (.inl (k, 0, 9))), .inl a1] => Mo_later_post k a1 σ r σ'
    | _ => False))
theorem Mo_later_w : ∀ w ∈ ([.instanceMethod yX9_later, .selects yX9_later.cls yX9_later yX9_later, .initialized yX9_later.cls, .code yX9_later cX9_later 2 (some .int)] : List Cond), w ∈ ax_tb := ax_w4 (ax_m8 77 (by decide +kernel) rfl) (ax_m8 78 (by decide +kernel) rfl) (ax_m1 10 (by decide +kernel) rfl) (ax_m8 79 (by decide +kernel) rfl)
theorem Mo_later_ds : yX9_later.cls ≠ "java/lang/invoke/MethodHandle" ∧ yX9_later.cls ≠ "java/lang/invoke/VarHandle" ∧ (parseMethodDescriptor yX9_later.desc).map (fun d => d.parameters.length) = some 1 := by decide +kernel
def Mo_later_vc : Prop := ∀ (k : Nat) (a1 : Int) (σ : Hp), ax_H σ → Mo_later_pre k a1 σ →
  (a1 < 0 →
    Mo_later_post k a1 σ (-1) σ) ∧
  (¬ (a1 < 0) →
    (1000 < a1 →
      Mo_later_post k a1 σ (-1) σ) ∧
    (¬ (1000 < a1) →
      (wr ((σ k 65) + a1) ≤ 100000 →
        ∀ σ1 : Hp, σ1 = hp σ k 65 (wr ((σ k 65) + a1)) →
        Mo_later_post k a1 σ (σ1 k 65) σ1) ∧
      (¬ (wr ((σ k 65) + a1) ≤ 100000) →
        Mo_later_post k a1 σ (-1) σ)))
theorem Mo_later_p : Mo_later_vc := by
  intro k a σ hH hp0
  obtain ⟨rfl, hP⟩ := hp0
  have hX := hP.1
  obtain ⟨dW, hW⟩ := hP.2
  have hT : 0 ≤ σ 67 65 ∧ σ 67 65 ≤ 100000 := hW.2.2.2.2.2.2.2.2.2
  have no : (¬ ((0 ≤ a ∧ a ≤ 1000) ∧ σ 67 65 + a ≤ 100000)) → Mo_later_post 67 a σ (-1) σ := by
    intro h
    refine ⟨⟨hX, fun _ _ => rfl⟩, fun d => ?_⟩
    unfold s_later
    rw [if_neg (show ¬ ((0 ≤ a ∧ a ≤ 1000) ∧ aT (mA d σ) + a ≤ 100000) from h)]
    exact ⟨rfl, rfl⟩
  refine ⟨fun h => no (by omega), fun h => ⟨fun h2 => no (by omega), fun h2 => ?_⟩⟩
  rw [wr_id (by omega) (by omega)]
  refine ⟨fun h3 => ?_, fun h3 => no (by omega)⟩
  intro σ1 hs
  have qc : ∀ c, ¬ c = 67 → σ1 c = σ c := fun c hc => by rw [hs]; exact hp_ne hc
  have q67 : ∀ j, ¬ j = 65 → σ1 67 j = σ 67 j := fun j hj => by rw [hs, hp_r2 (fun z => hj z.2)]
  have q65 : σ1 67 65 = σ 67 65 + a := by rw [hs, hp_r1]
  have M := mA_gen (σ' := σ1) hX (q67 23 (by decide)) (q67 42 (by decide)) (q67 43 (by decide)) (fun c hc => qc c (by omega)) (by rw [q67 1 (by decide)]; exact hX.2.1) (by rw [qc 68 (by decide)]; exact hX.2.2.1) (by rw [q67 50 (by decide), q67 51 (by decide)]; exact hX.2.2.2.1) (by rw [q67 56 (by decide)]; exact hX.2.2.2.2.1) (by rw [q67 64 (by decide)]; exact hX.2.2.2.2.2)
  refine ⟨M.1, fun d => ?_⟩
  unfold s_later
  rw [if_pos (show (0 ≤ a ∧ a ≤ 1000) ∧ aT (mA d σ) + a ≤ 100000 from ⟨by omega, h3⟩)]
  refine ⟨q65, ?_⟩
  rw [M.2 d, tpM_eq (q67 1 (by decide)) (qc 68 (by decide)), q67 2 (by decide), q67 3 (by decide), nowM_eq (qc 90 (by decide)), hstM_eq (q67 50 (by decide)) (q67 51 (by decide)) (qc 93 (by decide)), bxM_eq (qc 106 (by decide)) (qc 107 (by decide)), lsM_eq (q67 56 (by decide)) (qc 97 (by decide)), sgM_eq (q67 64 (by decide)) (fun c hc => qc c (by omega)), q65]
  rfl
def Mo_later_I : List AV → Hp → Nat → Nat → List AV → List AV → Hp → Prop := fun as σ0 pc n st ls σ => (match as with
    | [.inr (.inr (.inl (k, 0, 9))), .inl a1] => False
    | _ => False)
def Mo_later_ct : Nat → Ct := fun n => match n with
  | _ => Mo_later_cs
set_option maxRecDepth 20000 in
set_option maxHeartbeats 4000000 in
theorem Mo_later_met {l : Launch} {D : va_G} {ad : Nat → Nat} {ca : Nat → ClassId} {L : Nat} {fx : Nat → Int} : ax_MC l D ad ca L fx yX9_later cX9_later 2 (some .int) 1 Mo_later_cs := by
  refine ax_met (oc := 9) (ct := Mo_later_ct) (calls := Mo_later_cl) (bs := Mo_later_bk) (cut := fun pc => false) (f := 4) (I := Mo_later_I) (by decide) rfl rfl Mo_later_ck (fun _ h => absurd h List.not_mem_nil) ?_ ?_
  · intro as σ0 hp hH
    match as, hp with
    | [.inr (.inr (.inl (k, 0, 9))), .inl a1], hp => exact ⟨rfl, Mo_later_p k a1 σ0 hH hp⟩
  · intro as σ0 hp n pc st ls σ hH hI
    match as, hp, hI with
    | [.inr (.inr (.inl (k, 0, 9))), .inl a1], hp, hI => exact False.elim hI
def Mo_isBox_pre (_a : Int) (_σ : Hp) : Prop := True
def Mo_isBox_post (a : Int) (σ : Hp) (r : Int) (σ' : Hp) : Prop := σ' = σ ∧ r = if 0 ≤ a ∧ a < 3 then 1 else 0
def Mo_isBox_bk : List (Nat × List Item) := [(0, [(.iload_n 0, 1, [], []), (.ifCond .lt 12, 3, [13], []), (.iload_n 0, 1, [], []), (.iconst 3, 1, [], []), (.if_icmp .ge 7, 3, [13], []), (.iconst 1, 1, [], []), (.goto 4, 3, [14], [])]),
  (13, [(.iconst 0, 1, [], [])]),
  (14, [(.ireturn, 1, [], [])])]
def Mo_isBox_cl : List (Instr × Nat) := []
set_option maxRecDepth 20000 in
theorem Mo_isBox_ck : Mo_isBox_bk.all (fun b => ax_chB 9 1 cX9_isBox Mo_isBox_cl b.1 b.2) = true := by decide +kernel
def Mo_isBox_cs : Ct := (1, 0, 2, (0, 0), fun as σ => (match as with
    | [.inl a1] => Mo_isBox_pre a1 σ
    | _ => False), fun as σ r σ' => (match as with
    | [.inl a1] => Mo_isBox_post a1 σ r σ'
    | _ => False))
theorem Mo_isBox_w : ∀ w ∈ ([.static yX9_isBox, .initialized yX9_isBox.cls, .code yX9_isBox cX9_isBox 1 (some .boolean)] : List Cond), w ∈ ax_tb := ax_w3 (ax_m8 110 (by decide +kernel) rfl) (ax_m1 10 (by decide +kernel) rfl) (ax_m8 111 (by decide +kernel) rfl)
theorem Mo_isBox_ds : yX9_isBox.cls ≠ "java/lang/invoke/MethodHandle" ∧ yX9_isBox.cls ≠ "java/lang/invoke/VarHandle" ∧ (parseMethodDescriptor yX9_isBox.desc).map (fun d => d.parameters.length) = some 1 := by decide +kernel
def Mo_isBox_vc : Prop := ∀ (a1 : Int) (σ : Hp), ax_H σ → Mo_isBox_pre a1 σ →
  (a1 < 0 →
    ((0 : Int) = 0 ∨ (0 : Int) = 1) ∧ Mo_isBox_post a1 σ 0 σ) ∧
  (¬ (a1 < 0) →
    (3 ≤ a1 →
      ((0 : Int) = 0 ∨ (0 : Int) = 1) ∧ Mo_isBox_post a1 σ 0 σ) ∧
    (¬ (3 ≤ a1) →
      ((1 : Int) = 0 ∨ (1 : Int) = 1) ∧ Mo_isBox_post a1 σ 1 σ))
theorem Mo_isBox_p : Mo_isBox_vc := by
  intro a σ hH _
  exact ⟨fun h => ⟨Or.inl rfl, rfl, by rw [if_neg (by omega)]⟩, fun h => ⟨fun h2 => ⟨Or.inl rfl, rfl, by rw [if_neg (by omega)]⟩, fun h2 => ⟨Or.inr rfl, rfl, by rw [if_pos (by omega)]⟩⟩⟩
def Mo_isBox_I : List AV → Hp → Nat → Nat → List AV → List AV → Hp → Prop := fun as σ0 pc n st ls σ => (match as with
    | [.inl a1] => False
    | _ => False)
def Mo_isBox_ct : Nat → Ct := fun n => match n with
  | _ => Mo_isBox_cs
set_option maxRecDepth 20000 in
set_option maxHeartbeats 4000000 in
theorem Mo_isBox_met {l : Launch} {D : va_G} {ad : Nat → Nat} {ca : Nat → ClassId} {L : Nat} {fx : Nat → Int} : ax_MC l D ad ca L fx yX9_isBox cX9_isBox 1 (some .boolean) 1 Mo_isBox_cs := by
  refine ax_met (oc := 9) (ct := Mo_isBox_ct) (calls := Mo_isBox_cl) (bs := Mo_isBox_bk) (cut := fun pc => false) (f := 4) (I := Mo_isBox_I) (by decide) rfl rfl Mo_isBox_ck (fun _ h => absurd h List.not_mem_nil) ?_ ?_
  · intro as σ0 hp hH
    match as, hp with
    | [.inl a1], hp => exact ⟨rfl, Mo_isBox_p a1 σ0 hH hp⟩
  · intro as σ0 hp n pc st ls σ hH hI
    match as, hp, hI with
    | [.inl a1], hp, hI => exact False.elim hI
def Mo_image_pre (k : Nat) (_a : Int) (σ : Hp) : Prop := k = 67 ∧ MP σ
def Mo_image_post (_k : Nat) (a : Int) (σ : Hp) (r : Int) (σ' : Hp) : Prop := MQo σ σ' ∧ ∀ d, s_image (mA d σ) a r (mA d σ')
def Mo_image_I18 (_k : Nat) (a : Int) (σ0 : Hp) (n : Nat) (v2 : Int) (σ : Hp) : Prop := ∃ i : Nat, v2 = i ∧ i ≤ 16 ∧ (0 ≤ a ∧ a < 3) ∧ n = 16 - i ∧ Fr [106, 107] σ0 σ ∧ (∀ j, σ 106 j = if j = a.toNat then 1 else σ0 106 j) ∧ (∀ j, j < i → σ 107 (16 * a.toNat + j) = σ0 90 j) ∧ ∀ j, j < 16 * a.toNat ∨ 16 * a.toNat + 16 ≤ j → σ 107 j = σ0 107 j
def Mo_image_bk : List (Nat × List Item) := [(0, [(.iload_n 1, 1, [], []), (.invokestatic 487, 3, [0], []), (.ifCond .ne 5, 3, [9], []), (.iconst (-1), 1, [], []), (.ireturn, 1, [], [])]),
  (9, [(.aload_n 0, 1, [], []), (.getfield 133, 3, [9, 68, 4, 39, 3, 3], []), (.iload_n 1, 1, [], []), (.iconst 1, 1, [], []), (.bastore, 1, [], []), (.iconst 0, 1, [], []), (.istore_n 2, 1, [], [])]),
  (18, [(.iload_n 2, 1, [], []), (.bipush 16, 2, [], []), (.if_icmp .ge 26, 3, [47], []), (.aload_n 0, 1, [], []), (.getfield 136, 3, [9, 69, 4, 40, 1, 48], []), (.bipush 16, 2, [], []), (.iload_n 1, 1, [], []), (.imul, 1, [], []), (.iload_n 2, 1, [], []), (.iadd, 1, [], []), (.aload_n 0, 1, [], []), (.getfield 85, 3, [9, 46, 4, 23, 1, 16], []), (.iload_n 2, 1, [], []), (.iaload, 1, [], []), (.iastore, 1, [], []), (.iinc 2 1, 3, [], []), (.goto (-26), 3, [18], [])]),
  (47, [(.aload_n 0, 1, [], []), (.getfield 85, 3, [9, 46, 4, 23, 1, 16], []), (.bipush 14, 2, [], []), (.iaload, 1, [], []), (.ireturn, 1, [], [])])]
def Mo_image_cl : List (Instr × Nat) := [(.invokestatic 487, 0)]
set_option maxRecDepth 20000 in
theorem Mo_image_ck : Mo_image_bk.all (fun b => ax_chB 9 3 cX9_image Mo_image_cl b.1 b.2) = true := by decide +kernel
def Mo_image_cs : Ct := (2, 10, 1, (0, 0), fun as σ => (match as with
    | [.inr (.inr (.inl (k, 0, 9))), .inl a1] => Mo_image_pre k a1 σ
    | _ => False), fun as σ r σ' => (match as with
    | [.inr (.inr (.inl (k, 0, 9))), .inl a1] => Mo_image_post k a1 σ r σ'
    | _ => False))
theorem Mo_image_w : ∀ w ∈ ([.instanceMethod yX9_image, .selects yX9_image.cls yX9_image yX9_image, .initialized yX9_image.cls, .code yX9_image cX9_image 3 (some .int)] : List Cond), w ∈ ax_tb := ax_w4 (ax_m8 106 (by decide +kernel) rfl) (ax_m8 107 (by decide +kernel) rfl) (ax_m1 10 (by decide +kernel) rfl) (ax_m8 108 (by decide +kernel) rfl)
theorem Mo_image_ds : yX9_image.cls ≠ "java/lang/invoke/MethodHandle" ∧ yX9_image.cls ≠ "java/lang/invoke/VarHandle" ∧ (parseMethodDescriptor yX9_image.desc).map (fun d => d.parameters.length) = some 1 := by decide +kernel
def Mo_image_vc : Prop := ∀ (k : Nat) (a1 : Int) (σ : Hp), ax_H σ → Mo_image_pre k a1 σ →
  Mo_isBox_pre a1 σ ∧
  ∀ (r2 : Int) (σ1 : Hp), Mo_isBox_post a1 σ r2 σ1 →
  (¬ r2 = 0 →
    (0 ≤ a1 ∧ a1 < 3) ∧
    ((1 : Int) = 0 ∨ (1 : Int) = 1) ∧ ∀ σ3 : Hp, σ3 = hp σ1 (k + 39) a1.toNat 1 →
    ∃ n' : Nat, k = k ∧ a1 = a1 ∧ Mo_image_I18 k a1 σ n' 0 σ3) ∧
  (¬ (¬ r2 = 0) →
    Mo_image_post k a1 σ (-1) σ1)
def Mo_image_vc18 : Prop := ∀ (k : Nat) (a1 : Int) (σ0 : Hp), Mo_image_pre k a1 σ0 → ∀ (n : Nat) (v2 : Int) (σ : Hp), ax_H σ → Mo_image_I18 k a1 σ0 n v2 σ →
  (16 ≤ v2 →
    (0 ≤ (14 : Int) ∧ (14 : Int) < 16) ∧
    Mo_image_post k a1 σ0 (σ (k + 23) 14) σ) ∧
  (¬ (16 ≤ v2) →
    (0 ≤ v2 ∧ v2 < 16) ∧
    (0 ≤ wr ((wr (16 * a1)) + v2) ∧ wr ((wr (16 * a1)) + v2) < 48) ∧
    ∀ σ1 : Hp, σ1 = hp σ (k + 40) (wr ((wr (16 * a1)) + v2)).toNat (σ (k + 23) v2.toNat) →
    ∃ n' : Nat, n' < n ∧ k = k ∧ a1 = a1 ∧ Mo_image_I18 k a1 σ0 n' (wr (v2 + 1)) σ1)
theorem Mo_image_p : Mo_image_vc := by
  intro k a σ hH hp0
  obtain ⟨rfl, hP⟩ := hp0
  refine ⟨trivial, ?_⟩
  rintro r2 σ1 ⟨rfl, rfl⟩
  refine ⟨fun h => ?_, fun h => ⟨⟨hP.1, fun _ _ => rfl⟩, fun d => ?_⟩⟩
  · have h1 := ite1 h
    refine ⟨⟨h1.1, by omega⟩, Or.inr rfl, ?_⟩
    intro σ3 hs
    refine ⟨16, rfl, rfl, 0, rfl, by omega, h1, rfl, by rw [hs]; exact Fr.hp Fr.rf (by simp), fun j => ?_, fun j hj => absurd hj (Nat.not_lt_zero j), fun j _ => by rw [hs, hp_ne (by decide)]⟩
    rw [hs]
    show hp σ1 106 a.toNat 1 106 j = _
    by_cases e : j = a.toNat
    · rw [e, hp_r1, if_pos rfl]
    · rw [hp_r2 (fun z => e z.2), if_neg e]
  · unfold s_image
    rw [if_neg (ite0' h)]
    exact ⟨rfl, rfl⟩
theorem Mo_image_p18 : Mo_image_vc18 := by
  intro k a σ0 hp0 n v2 σ hH hI
  obtain ⟨rfl, hP⟩ := hp0
  obtain ⟨i, rfl, hi, ha, rfl, hf, h106, h1, h2⟩ := hI
  have hX := hP.1
  refine ⟨fun h => ⟨by decide, ?_⟩, fun h => ?_⟩
  · have ei : i = 16 := by omega
    subst ei
    have qc : ∀ c, ¬ c = 106 → ¬ c = 107 → σ c = σ0 c := fun c a b => hf c (by simp; exact ⟨a, b⟩)
    have e67 := qc 67 (by decide) (by decide)
    have M := mA_gen (σ' := σ) hX (by rw [e67]) (by rw [e67]) (by rw [e67]) (fun c hc => qc c (by omega) (by omega)) (by rw [e67]; exact hX.2.1) (by rw [qc 68 (by decide) (by decide)]; exact hX.2.2.1) (by rw [e67]; exact hX.2.2.2.1) (by rw [e67]; exact hX.2.2.2.2.1) (by rw [e67]; exact hX.2.2.2.2.2)
    refine ⟨M.1, fun d => ?_⟩
    unfold s_image
    rw [if_pos ha]
    refine ⟨by show σ 90 14 = σ0 90 14; rw [qc 90 (by decide) (by decide)], ?_⟩
    rw [M.2 d, tpM_eq (by rw [e67]) (qc 68 (by decide) (by decide)), e67, nowM_eq (qc 90 (by decide) (by decide)), hstM_eq (by rw [e67]) (by rw [e67]) (qc 93 (by decide) (by decide)), lsM_eq (by rw [e67]) (qc 97 (by decide) (by decide)), sgM_eq (by rw [e67]) (fun c hc => qc c (by omega) (by omega))]
    have eX : bxM σ = fun i => if i = a.toNat then some (nowM σ0) else bxM σ0 i := by
      funext b
      unfold bxM
      rw [h106]
      by_cases e : b = a.toNat
      · rw [if_pos e, if_pos e, if_pos ⟨by omega, by decide⟩, e, stR_now h1]
      · rw [if_neg e, if_neg e]
        by_cases z : b < 3 ∧ ¬ σ0 106 b = 0
        · rw [if_pos z, if_pos z]
          congr 1
          exact stR_ext (fun j hj => h2 _ (by omega))
        · rw [if_neg z, if_neg z]
    rw [eX]
    rfl
  · rw [wr_id (x := 16 * a) (by omega) (by omega), wr_id (x := 16 * a + (i : Int)) (by omega) (by omega), wr1 (by omega) (by omega), Int.toNat_natCast, show (16 * a + (i : Int)).toNat = 16 * a.toNat + i by omega]
    refine ⟨⟨by omega, by omega⟩, ⟨by omega, by omega⟩, ?_⟩
    intro σ1 hs
    have q : ∀ j, σ1 107 j = if j = 16 * a.toNat + i then σ0 90 i else σ 107 j := fun j => by
      rw [hs]
      show hp σ 107 (16 * a.toNat + i) (σ 90 i) 107 j = _
      by_cases e : j = 16 * a.toNat + i
      · rw [e, hp_r1, if_pos rfl, hf 90 (by decide)]
      · rw [hp_r2 (fun z => e z.2), if_neg e]
    refine ⟨16 - (i + 1), by omega, rfl, rfl, i + 1, by simp, by omega, ha, rfl, by rw [hs]; exact Fr.hp hf (by simp), fun j => by rw [hs, hp_ne (by decide)]; exact h106 j, fun j hj => ?_, fun j hj => ?_⟩
    · rw [q]
      by_cases e : j = i
      · rw [if_pos (by omega), e]
      · rw [if_neg (by omega)]; exact h1 j (by omega)
    · rw [q, if_neg (by omega)]; exact h2 j hj
def Mo_image_I : List AV → Hp → Nat → Nat → List AV → List AV → Hp → Prop := fun as σ0 pc n st ls σ => (match as with
    | [.inr (.inr (.inl (k, 0, 9))), .inl a1] => (bif Nat.beq pc 18 then (match st, ls with
      | [], [.inr (.inr (.inl (k', 0, 9))), .inl a1', .inl v2] => k = k' ∧ a1 = a1' ∧ Mo_image_I18 k a1 σ0 n v2 σ
      | _, _ => False) else False)
    | _ => False)
def Mo_image_ct : Nat → Ct := fun n => match n with
  | 0 => Mo_isBox_cs
  | _ => Mo_image_cs
set_option maxRecDepth 20000 in
set_option maxHeartbeats 4000000 in
theorem Mo_image_met {l : Launch} {D : va_G} {ad : Nat → Nat} {ca : Nat → ClassId} {L : Nat} {fx : Nat → Int} : ax_MC l D ad ca L fx yX9_image cX9_image 3 (some .int) 2 Mo_image_cs := by
  refine ax_met (oc := 9) (ct := Mo_image_ct) (calls := Mo_image_cl) (bs := Mo_image_bk) (cut := fun pc => Nat.beq pc 18) (f := 5) (I := Mo_image_I) (by decide) rfl rfl Mo_image_ck (List.forall_mem_cons.mpr ⟨ax_cwS Mo_isBox_met (by decide) (by decide) (ax_m8 109 (by decide +kernel) rfl) Mo_isBox_w rfl Mo_isBox_ds, fun _ h => absurd h List.not_mem_nil⟩) ?_ ?_
  · intro as σ0 hp hH
    match as, hp with
    | [.inr (.inr (.inl (k, 0, 9))), .inl a1], hp => exact ⟨rfl, Mo_image_p k a1 σ0 hH hp⟩
  · intro as σ0 hp n pc st ls σ hH hI
    match as, hp, hI with
    | [.inr (.inr (.inl (k, 0, 9))), .inl a1], hp, hI =>
      rcases ax_bifE hI with ⟨hpc, hI⟩ | ⟨-, hI⟩
      · have := Nat.eq_of_beq_eq_true hpc
        subst this
        match st, ls, hI with
        | [], [.inr (.inr (.inl (k', 0, 9))), .inl a1', .inl v2], hI =>
          obtain ⟨rfl, rfl, hI⟩ := hI
          exact Mo_image_p18 k a1 σ0 hp n v2 σ hH hI
      exact False.elim hI
def Mo_back_pre (k : Nat) (_a : Int) (σ : Hp) : Prop := k = 67 ∧ MP σ
def Mo_back_post (_k : Nat) (a : Int) (σ : Hp) (r : Int) (σ' : Hp) : Prop := MQo σ σ' ∧ ∀ d, s_back (mA d σ) a r (mA d σ')
def Mo_back_I20 (_k : Nat) (a : Int) (σ0 : Hp) (n : Nat) (v2 : Int) (σ : Hp) : Prop := ∃ i : Nat, v2 = i ∧ i ≤ 16 ∧ ((0 ≤ a ∧ a < 3) ∧ ¬ σ0 106 a.toNat = 0) ∧ n = 16 - i ∧ Fr [90] σ0 σ ∧ ∀ j, j < i → σ 90 j = σ0 107 (16 * a.toNat + j)
def Mo_back_bk : List (Nat × List Item) := [(0, [(.iload_n 1, 1, [], []), (.invokestatic 487, 3, [0], []), (.ifCond .eq 12, 3, [16], []), (.aload_n 0, 1, [], []), (.getfield 133, 3, [9, 68, 4, 39, 3, 3], []), (.iload_n 1, 1, [], []), (.baload, 1, [], []), (.ifCond .ne 5, 3, [18], [])]),
  (16, [(.iconst (-1), 1, [], []), (.ireturn, 1, [], [])]),
  (18, [(.iconst 0, 1, [], []), (.istore_n 2, 1, [], [])]),
  (20, [(.iload_n 2, 1, [], []), (.bipush 16, 2, [], []), (.if_icmp .ge 26, 3, [49], []), (.aload_n 0, 1, [], []), (.getfield 85, 3, [9, 46, 4, 23, 1, 16], []), (.iload_n 2, 1, [], []), (.aload_n 0, 1, [], []), (.getfield 136, 3, [9, 69, 4, 40, 1, 48], []), (.bipush 16, 2, [], []), (.iload_n 1, 1, [], []), (.imul, 1, [], []), (.iload_n 2, 1, [], []), (.iadd, 1, [], []), (.iaload, 1, [], []), (.iastore, 1, [], []), (.iinc 2 1, 3, [], []), (.goto (-26), 3, [20], [])]),
  (49, [(.aload_n 0, 1, [], []), (.iconst 0, 1, [], []), (.putfield 367, 3, [9, 50, 0, 0, 0, 0], []), (.aload_n 0, 1, [], []), (.iconst 0, 1, [], []), (.putfield 370, 3, [9, 51, 0, 0, 0, 0], []), (.aload_n 0, 1, [], []), (.getfield 85, 3, [9, 46, 4, 23, 1, 16], []), (.bipush 14, 2, [], []), (.iaload, 1, [], []), (.ireturn, 1, [], [])])]
def Mo_back_cl : List (Instr × Nat) := [(.invokestatic 487, 0)]
set_option maxRecDepth 20000 in
theorem Mo_back_ck : Mo_back_bk.all (fun b => ax_chB 9 3 cX9_back Mo_back_cl b.1 b.2) = true := by decide +kernel
def Mo_back_cs : Ct := (2, 10, 1, (0, 0), fun as σ => (match as with
    | [.inr (.inr (.inl (k, 0, 9))), .inl a1] => Mo_back_pre k a1 σ
    | _ => False), fun as σ r σ' => (match as with
    | [.inr (.inr (.inl (k, 0, 9))), .inl a1] => Mo_back_post k a1 σ r σ'
    | _ => False))
theorem Mo_back_w : ∀ w ∈ ([.instanceMethod yX9_back, .selects yX9_back.cls yX9_back yX9_back, .initialized yX9_back.cls, .code yX9_back cX9_back 3 (some .int)] : List Cond), w ∈ ax_tb := ax_w4 (ax_m8 113 (by decide +kernel) rfl) (ax_m8 114 (by decide +kernel) rfl) (ax_m1 10 (by decide +kernel) rfl) (ax_m8 115 (by decide +kernel) rfl)
theorem Mo_back_ds : yX9_back.cls ≠ "java/lang/invoke/MethodHandle" ∧ yX9_back.cls ≠ "java/lang/invoke/VarHandle" ∧ (parseMethodDescriptor yX9_back.desc).map (fun d => d.parameters.length) = some 1 := by decide +kernel
def Mo_back_vc : Prop := ∀ (k : Nat) (a1 : Int) (σ : Hp), ax_H σ → Mo_back_pre k a1 σ →
  Mo_isBox_pre a1 σ ∧
  ∀ (r2 : Int) (σ1 : Hp), Mo_isBox_post a1 σ r2 σ1 →
  (r2 = 0 →
    Mo_back_post k a1 σ (-1) σ1) ∧
  (¬ (r2 = 0) →
    (0 ≤ a1 ∧ a1 < 3) ∧
    (¬ σ1 (k + 39) a1.toNat = 0 →
      ∃ n' : Nat, k = k ∧ a1 = a1 ∧ Mo_back_I20 k a1 σ n' 0 σ1) ∧
    (¬ (¬ σ1 (k + 39) a1.toNat = 0) →
      Mo_back_post k a1 σ (-1) σ1))
def Mo_back_vc20 : Prop := ∀ (k : Nat) (a1 : Int) (σ0 : Hp), Mo_back_pre k a1 σ0 → ∀ (n : Nat) (v2 : Int) (σ : Hp), ax_H σ → Mo_back_I20 k a1 σ0 n v2 σ →
  (16 ≤ v2 →
    ∀ σ1 : Hp, σ1 = hp σ k 50 0 →
    ∀ σ2 : Hp, σ2 = hp σ1 k 51 0 →
    (0 ≤ (14 : Int) ∧ (14 : Int) < 16) ∧
    Mo_back_post k a1 σ0 (σ2 (k + 23) 14) σ2) ∧
  (¬ (16 ≤ v2) →
    (0 ≤ wr ((wr (16 * a1)) + v2) ∧ wr ((wr (16 * a1)) + v2) < 48) ∧
    (0 ≤ v2 ∧ v2 < 16) ∧
    ∀ σ3 : Hp, σ3 = hp σ (k + 23) v2.toNat (σ (k + 40) (wr ((wr (16 * a1)) + v2)).toNat) →
    ∃ n' : Nat, n' < n ∧ k = k ∧ a1 = a1 ∧ Mo_back_I20 k a1 σ0 n' (wr (v2 + 1)) σ3)
theorem Mo_back_p : Mo_back_vc := by
  intro k a σ hH hp0
  obtain ⟨rfl, hP⟩ := hp0
  have no : ∀ σ1 : Hp, σ1 = σ → (¬ ((0 ≤ a ∧ a < 3) ∧ ¬ σ 106 a.toNat = 0)) → Mo_back_post 67 a σ (-1) σ1 := by
    rintro σ1 rfl h
    refine ⟨⟨hP.1, fun _ _ => rfl⟩, fun d => ?_⟩
    have e : (if 0 ≤ a ∧ a < 3 then aX (mA d σ1) a.toNat else none) = none := by
      by_cases z : 0 ≤ a ∧ a < 3
      · rw [if_pos z]
        show bxM σ1 a.toNat = none
        unfold bxM
        rw [if_neg (fun y => h ⟨z, y.2⟩)]
      · rw [if_neg z]
    unfold s_back
    rw [e]
    exact ⟨rfl, rfl⟩
  refine ⟨trivial, ?_⟩
  rintro r2 σ1 ⟨rfl, rfl⟩
  refine ⟨fun h => no σ1 rfl (fun z => ite0 h z.1), fun h => ?_⟩
  have h1 := ite1 h
  refine ⟨⟨h1.1, by omega⟩, fun h2 => ⟨16, rfl, rfl, 0, rfl, by omega, ⟨h1, h2⟩, rfl, Fr.rf, fun j hj => absurd hj (Nat.not_lt_zero j)⟩, fun h2 => no σ1 rfl (fun z => h2 z.2)⟩
theorem Mo_back_p20 : Mo_back_vc20 := by
  intro k a σ0 hp0 n v2 σ hH hI
  obtain ⟨rfl, hP⟩ := hp0
  obtain ⟨i, rfl, hi, ha, rfl, hf, h1⟩ := hI
  have hX := hP.1
  refine ⟨fun h => ?_, fun h => ?_⟩
  · have ei : i = 16 := by omega
    subst ei
    intro σ1 hs1 σ2 hs2
    refine ⟨by decide, ?_⟩
    have q50 : σ2 67 50 = 0 := by rw [hs2, hp_r2 (fun z => by omega), hs1, hp_r1]
    have q51 : σ2 67 51 = 0 := by rw [hs2, hp_r1]
    have q67 : ∀ j, ¬ j = 50 → ¬ j = 51 → σ2 67 j = σ0 67 j := fun j hj hj2 => by rw [hs2, hp_r2 (fun z => hj2 z.2), hs1, hp_r2 (fun z => hj z.2), hf 67 (by decide)]
    have qc : ∀ c, ¬ c = 67 → σ2 c = σ c := fun c hc => by rw [hs2, hp_ne hc, hs1, hp_ne hc]
    have M := mA_act (σ' := σ2) hX q67 (by rw [q50]; exact Int.le_refl 0) (by rw [q51]; exact Int.le_refl 0) (fun c z z1 z2 => by
      rw [qc c (fun y => by rw [y] at z; unfold shC at z; omega)]
      exact hf c (by simp; exact z1))
    refine ⟨M.1, fun d => ?_⟩
    have en : nowM σ2 = stR (σ0 107) (16 * a.toNat) := stR_ext (fun j hj => by rw [Nat.zero_add, qc 90 (by decide)]; exact h1 j hj)
    have eh : hstM σ2 = ([], []) := by unfold hstM; rw [q50, q51]; rfl
    have e : (if 0 ≤ a ∧ a < 3 then aX (mA d σ0) a.toNat else none) = some (stR (σ0 107) (16 * a.toNat)) := by
      rw [if_pos ha.1]
      show bxM σ0 a.toNat = _
      unfold bxM
      rw [if_pos ⟨by omega, ha.2⟩]
    unfold s_back
    rw [e]
    refine ⟨?_, by rw [M.2 d, en, eh]⟩
    rw [← en]; rfl
  · rw [wr_id (x := 16 * a) (by omega) (by omega), wr_id (x := 16 * a + (i : Int)) (by omega) (by omega), wr1 (by omega) (by omega), Int.toNat_natCast, show (16 * a + (i : Int)).toNat = 16 * a.toNat + i by omega]
    refine ⟨⟨by omega, by omega⟩, ⟨by omega, by omega⟩, ?_⟩
    intro σ3 hs
    refine ⟨16 - (i + 1), by omega, rfl, rfl, i + 1, by simp, by omega, ha, rfl, by rw [hs]; exact Fr.hp hf (by simp), fun j hj => ?_⟩
    rw [hs]
    show hp σ 90 i (σ 107 (16 * a.toNat + i)) 90 j = _
    by_cases e : j = i
    · rw [e, hp_r1, hf 107 (by decide)]
    · rw [hp_r2 (fun z => e z.2)]; exact h1 j (by omega)
def Mo_back_I : List AV → Hp → Nat → Nat → List AV → List AV → Hp → Prop := fun as σ0 pc n st ls σ => (match as with
    | [.inr (.inr (.inl (k, 0, 9))), .inl a1] => (bif Nat.beq pc 20 then (match st, ls with
      | [], [.inr (.inr (.inl (k', 0, 9))), .inl a1', .inl v2] => k = k' ∧ a1 = a1' ∧ Mo_back_I20 k a1 σ0 n v2 σ
      | _, _ => False) else False)
    | _ => False)
def Mo_back_ct : Nat → Ct := fun n => match n with
  | 0 => Mo_isBox_cs
  | _ => Mo_back_cs
set_option maxRecDepth 20000 in
set_option maxHeartbeats 4000000 in
theorem Mo_back_met {l : Launch} {D : va_G} {ad : Nat → Nat} {ca : Nat → ClassId} {L : Nat} {fx : Nat → Int} : ax_MC l D ad ca L fx yX9_back cX9_back 3 (some .int) 2 Mo_back_cs := by
  refine ax_met (oc := 9) (ct := Mo_back_ct) (calls := Mo_back_cl) (bs := Mo_back_bk) (cut := fun pc => Nat.beq pc 20) (f := 6) (I := Mo_back_I) (by decide) rfl rfl Mo_back_ck (List.forall_mem_cons.mpr ⟨ax_cwS Mo_isBox_met (by decide) (by decide) (ax_m8 109 (by decide +kernel) rfl) Mo_isBox_w rfl Mo_isBox_ds, fun _ h => absurd h List.not_mem_nil⟩) ?_ ?_
  · intro as σ0 hp hH
    match as, hp with
    | [.inr (.inr (.inl (k, 0, 9))), .inl a1], hp => exact ⟨rfl, Mo_back_p k a1 σ0 hH hp⟩
  · intro as σ0 hp n pc st ls σ hH hI
    match as, hp, hI with
    | [.inr (.inr (.inl (k, 0, 9))), .inl a1], hp, hI =>
      rcases ax_bifE hI with ⟨hpc, hI⟩ | ⟨-, hI⟩
      · have := Nat.eq_of_beq_eq_true hpc
        subst this
        match st, ls, hI with
        | [], [.inr (.inr (.inl (k', 0, 9))), .inl a1', .inl v2], hI =>
          obtain ⟨rfl, rfl, hI⟩ := hI
          exact Mo_back_p20 k a1 σ0 hp n v2 σ hH hI
      exact False.elim hI
def Mo_about_pre (k : Nat) (_a : Int) (σ : Hp) : Prop := k = 67 ∧ MP σ
def Mo_about_post (_k : Nat) (a : Int) (σ : Hp) (r : Int) (σ' : Hp) : Prop := MQo σ σ' ∧ ∀ d, s_about (mA d σ) a r (mA d σ')
def Mo_about_bk : List (Nat × List Item) := [(0, [(.iload_n 1, 1, [], []), (.tableswitch 141 0 12 #[67, 72, 77, 82, 90, 98, 106, 111, 116, 121, 126, 131, 136], 67, [], [(0, 68), (1, 73), (2, 78), (3, 83), (4, 91), (5, 99), (6, 107), (7, 112), (8, 117), (9, 122), (10, 127), (11, 132), (12, 137), (0, 142)])]),
  (68, [(.aload_n 0, 1, [], []), (.getfield 304, 3, [9, 42, 0, 0, 0, 0], []), (.ireturn, 1, [], [])]),
  (73, [(.aload_n 0, 1, [], []), (.invokevirtual 426, 3, [0], []), (.ireturn, 1, [], [])]),
  (78, [(.aload_n 0, 1, [], []), (.getfield 82, 3, [9, 43, 0, 0, 0, 0], []), (.ireturn, 1, [], [])]),
  (83, [(.aload_n 0, 1, [], []), (.getfield 85, 3, [9, 46, 4, 23, 1, 16], []), (.bipush 13, 2, [], []), (.iaload, 1, [], []), (.ireturn, 1, [], [])]),
  (91, [(.aload_n 0, 1, [], []), (.getfield 85, 3, [9, 46, 4, 23, 1, 16], []), (.bipush 14, 2, [], []), (.iaload, 1, [], []), (.ireturn, 1, [], [])]),
  (99, [(.aload_n 0, 1, [], []), (.getfield 85, 3, [9, 46, 4, 23, 1, 16], []), (.bipush 15, 2, [], []), (.iaload, 1, [], []), (.ireturn, 1, [], [])]),
  (107, [(.aload_n 0, 1, [], []), (.getfield 367, 3, [9, 50, 0, 0, 0, 0], []), (.ireturn, 1, [], [])]),
  (112, [(.aload_n 0, 1, [], []), (.getfield 370, 3, [9, 51, 0, 0, 0, 0], []), (.ireturn, 1, [], [])]),
  (117, [(.aload_n 0, 1, [], []), (.getfield 373, 3, [9, 64, 0, 0, 0, 0], []), (.ireturn, 1, [], [])]),
  (122, [(.aload_n 0, 1, [], []), (.getfield 474, 3, [9, 65, 0, 0, 0, 0], []), (.ireturn, 1, [], [])]),
  (127, [(.aload_n 0, 1, [], []), (.getfield 139, 3, [9, 1, 0, 0, 0, 0], []), (.ireturn, 1, [], [])]),
  (132, [(.aload_n 0, 1, [], []), (.getfield 355, 3, [9, 23, 0, 0, 0, 0], []), (.ireturn, 1, [], [])]),
  (137, [(.aload_n 0, 1, [], []), (.getfield 376, 3, [9, 56, 0, 0, 0, 0], []), (.ireturn, 1, [], [])]),
  (142, [(.iconst (-1), 1, [], []), (.ireturn, 1, [], [])])]
def Mo_about_cl : List (Instr × Nat) := [(.invokevirtual 426, 0)]
set_option maxRecDepth 20000 in
theorem Mo_about_ck : Mo_about_bk.all (fun b => ax_chB 9 2 cX9_about Mo_about_cl b.1 b.2) = true := by decide +kernel
def Mo_about_cs : Ct := (2, 10, 1, (0, 0), fun as σ => (match as with
    | [.inr (.inr (.inl (k, 0, 9))), .inl a1] => Mo_about_pre k a1 σ
    | _ => False), fun as σ r σ' => (match as with
    | [.inr (.inr (.inl (k, 0, 9))), .inl a1] => Mo_about_post k a1 σ r σ'
    | _ => False))
theorem Mo_about_w : ∀ w ∈ ([.instanceMethod yX9_about, .selects yX9_about.cls yX9_about yX9_about, .initialized yX9_about.cls, .code yX9_about cX9_about 2 (some .int)] : List Cond), w ∈ ax_tb := ax_w4 (ax_m8 117 (by decide +kernel) rfl) (ax_m8 118 (by decide +kernel) rfl) (ax_m1 10 (by decide +kernel) rfl) (ax_m8 119 (by decide +kernel) rfl)
theorem Mo_about_ds : yX9_about.cls ≠ "java/lang/invoke/MethodHandle" ∧ yX9_about.cls ≠ "java/lang/invoke/VarHandle" ∧ (parseMethodDescriptor yX9_about.desc).map (fun d => d.parameters.length) = some 1 := by decide +kernel
def Mo_about_vc : Prop := ∀ (k : Nat) (a1 : Int) (σ : Hp), ax_H σ → Mo_about_pre k a1 σ →
  (a1 = 0 →
    Mo_about_post k a1 σ (σ k 42) σ) ∧
  (¬ a1 = 0 →
    (a1 = 1 →
    Mo_allKnows_pre k σ ∧
    ∀ (r2 : Int) (σ1 : Hp), Mo_allKnows_post k σ r2 σ1 →
    Mo_about_post k a1 σ r2 σ1) ∧
  (¬ a1 = 1 →
    (a1 = 2 →
    Mo_about_post k a1 σ (σ k 43) σ) ∧
  (¬ a1 = 2 →
    (a1 = 3 →
    (0 ≤ (13 : Int) ∧ (13 : Int) < 16) ∧
    Mo_about_post k a1 σ (σ (k + 23) 13) σ) ∧
  (¬ a1 = 3 →
    (a1 = 4 →
    (0 ≤ (14 : Int) ∧ (14 : Int) < 16) ∧
    Mo_about_post k a1 σ (σ (k + 23) 14) σ) ∧
  (¬ a1 = 4 →
    (a1 = 5 →
    (0 ≤ (15 : Int) ∧ (15 : Int) < 16) ∧
    Mo_about_post k a1 σ (σ (k + 23) 15) σ) ∧
  (¬ a1 = 5 →
    (a1 = 6 →
    Mo_about_post k a1 σ (σ k 50) σ) ∧
  (¬ a1 = 6 →
    (a1 = 7 →
    Mo_about_post k a1 σ (σ k 51) σ) ∧
  (¬ a1 = 7 →
    (a1 = 8 →
    Mo_about_post k a1 σ (σ k 64) σ) ∧
  (¬ a1 = 8 →
    (a1 = 9 →
    Mo_about_post k a1 σ (σ k 65) σ) ∧
  (¬ a1 = 9 →
    (a1 = 10 →
    Mo_about_post k a1 σ (σ k 1) σ) ∧
  (¬ a1 = 10 →
    (a1 = 11 →
    Mo_about_post k a1 σ (σ k 23) σ) ∧
  (¬ a1 = 11 →
    (a1 = 12 →
    Mo_about_post k a1 σ (σ k 56) σ) ∧
  (¬ a1 = 12 →
    Mo_about_post k a1 σ (-1) σ)))))))))))))
theorem Mo_about_p : Mo_about_vc := by
  intro k a σ hH hp0
  obtain ⟨rfl, hP⟩ := hp0
  have hX := hP.1
  have hn := hP.n6
  have h1 := hX.2.1
  have h4 := hX.2.2.2.1
  have h5 := hX.2.2.2.2.1
  have h6 := hX.2.2.2.2.2
  have l1 : ∀ d, (aH (mA d σ)).1.length = (σ 67 50).toNat := fun d => hstM_l σ
  have l2 : ∀ d, (aH (mA d σ)).2.length = (σ 67 51).toNat := fun d => by
    show ((List.range (σ 67 51).toNat).map _).length = _
    rw [List.length_map, List.length_range]
  have q : ∀ d (r : Int), (r = if a = 0 then ((fN (aF (mA d σ)) : Nat) : Int) else if a = 1 then ((kn (aS (mA d σ)).2.1 6 : Nat) : Int) else if a = 2 then fEas (aF (mA d σ)) else if a = 3 then (aS (mA d σ)).2.2.2.2.2 else if a = 4 then (aS (mA d σ)).2.2.2.1 else if a = 5 then (aS (mA d σ)).2.2.2.2.1
  else if a = 6 then (((aH (mA d σ)).1.length : Nat) : Int) else if a = 7 then (((aH (mA d σ)).2.length : Nat) : Int) else if a = 8 then (((aG (mA d σ)).1 : Nat) : Int) else if a = 9 then aT (mA d σ) else if a = 10 then (((aB (mA d σ)).2 : Nat) : Int) else if a = 11 then fUni (aF (mA d σ)) else if a = 12 then (((aL (mA d σ)).1 : Nat) : Int) else -1) → s_about (mA d σ) a r (mA d σ) := fun d r h => ⟨rfl, h⟩
  have ok : ∀ r : Int, (∀ d, s_about (mA d σ) a r (mA d σ)) → Mo_about_post 67 a σ r σ := fun r h => ⟨⟨hX, fun _ _ => rfl⟩, h⟩
  refine ⟨fun h => ok _ (fun d => q d _ ?_), fun n0 => ⟨fun h => ⟨⟨rfl, hP.np⟩, ?_⟩, fun n1 => ⟨fun h => ok _ (fun d => q d _ ?_), fun n2 => ⟨fun h => ⟨by decide, ok _ (fun d => q d _ ?_)⟩, fun n3 => ⟨fun h => ⟨by decide, ok _ (fun d => q d _ ?_)⟩, fun n4 => ⟨fun h => ⟨by decide, ok _ (fun d => q d _ ?_)⟩, fun n5 => ⟨fun h => ok _ (fun d => q d _ ?_), fun n6 => ⟨fun h => ok _ (fun d => q d _ ?_), fun n7 => ⟨fun h => ok _ (fun d => q d _ ?_), fun n8 => ⟨fun h => ok _ (fun d => q d _ ?_), fun n9 => ⟨fun h => ok _ (fun d => q d _ ?_), fun n10 => ⟨fun h => ok _ (fun d => q d _ ?_), fun n11 => ⟨fun h => ok _ (fun d => q d _ ?_), fun n12 => ok _ (fun d => q d _ ?_)⟩⟩⟩⟩⟩⟩⟩⟩⟩⟩⟩⟩⟩
  · rw [if_pos h]; show _ = (((σ 67 42).toNat : Nat) : Int); omega
  · rintro r2 σ1 ⟨rfl, rfl⟩
    exact ok _ (fun d => q d _ (by rw [if_neg n0, if_pos h]; rfl))
  · rw [if_neg n0, if_neg n1, if_pos h]; rfl
  · rw [if_neg n0, if_neg n1, if_neg n2, if_pos h]; rfl
  · rw [if_neg n0, if_neg n1, if_neg n2, if_neg n3, if_pos h]; rfl
  · rw [if_neg n0, if_neg n1, if_neg n2, if_neg n3, if_neg n4, if_pos h]; rfl
  · rw [if_neg n0, if_neg n1, if_neg n2, if_neg n3, if_neg n4, if_neg n5, if_pos h, l1 d]; omega
  · rw [if_neg n0, if_neg n1, if_neg n2, if_neg n3, if_neg n4, if_neg n5, if_neg n6, if_pos h, l2 d]; omega
  · rw [if_neg n0, if_neg n1, if_neg n2, if_neg n3, if_neg n4, if_neg n5, if_neg n6, if_neg n7, if_pos h]; show _ = (((σ 67 64).toNat : Nat) : Int); omega
  · rw [if_neg n0, if_neg n1, if_neg n2, if_neg n3, if_neg n4, if_neg n5, if_neg n6, if_neg n7, if_neg n8, if_pos h]; rfl
  · rw [if_neg n0, if_neg n1, if_neg n2, if_neg n3, if_neg n4, if_neg n5, if_neg n6, if_neg n7, if_neg n8, if_neg n9, if_pos h]; show _ = (((σ 67 1).toNat : Nat) : Int); omega
  · rw [if_neg n0, if_neg n1, if_neg n2, if_neg n3, if_neg n4, if_neg n5, if_neg n6, if_neg n7, if_neg n8, if_neg n9, if_neg n10, if_pos h]; rfl
  · rw [if_neg n0, if_neg n1, if_neg n2, if_neg n3, if_neg n4, if_neg n5, if_neg n6, if_neg n7, if_neg n8, if_neg n9, if_neg n10, if_neg n11, if_pos h]; show _ = (((σ 67 56).toNat : Nat) : Int); omega
  · rw [if_neg n0, if_neg n1, if_neg n2, if_neg n3, if_neg n4, if_neg n5, if_neg n6, if_neg n7, if_neg n8, if_neg n9, if_neg n10, if_neg n11, if_neg n12]
def Mo_about_I : List AV → Hp → Nat → Nat → List AV → List AV → Hp → Prop := fun as σ0 pc n st ls σ => (match as with
    | [.inr (.inr (.inl (k, 0, 9))), .inl a1] => False
    | _ => False)
def Mo_about_ct : Nat → Ct := fun n => match n with
  | 0 => Mo_allKnows_cs
  | _ => Mo_about_cs
set_option maxRecDepth 20000 in
set_option maxHeartbeats 4000000 in
theorem Mo_about_met {l : Launch} {D : va_G} {ad : Nat → Nat} {ca : Nat → ClassId} {L : Nat} {fx : Nat → Int} : ax_MC l D ad ca L fx yX9_about cX9_about 2 (some .int) 3 Mo_about_cs := by
  refine ax_met (oc := 9) (ct := Mo_about_ct) (calls := Mo_about_cl) (bs := Mo_about_bk) (cut := fun pc => false) (f := 16) (I := Mo_about_I) (by decide) rfl rfl Mo_about_ck (List.forall_mem_cons.mpr ⟨ax_cwV Mo_allKnows_met (by decide) (by decide) rfl (by decide) rfl (ax_m7 142 (by decide +kernel) rfl) Mo_allKnows_w rfl Mo_allKnows_ds, fun _ h => absurd h List.not_mem_nil⟩) ?_ ?_
  · intro as σ0 hp hH
    match as, hp with
    | [.inr (.inr (.inl (k, 0, 9))), .inl a1], hp => exact ⟨rfl, Mo_about_p k a1 σ0 hH hp⟩
  · intro as σ0 hp n pc st ls σ hH hI
    match as, hp, hI with
    | [.inr (.inr (.inl (k, 0, 9))), .inl a1], hp, hI => exact False.elim hI
def Mo_four_pre (k : Nat) (_a : Int) (σ : Hp) : Prop := k = 67 ∧ 0 ≤ σ 67 1 ∧ σ 67 1 + 4 ≤ 1600
def Mo_four_post (_k : Nat) (a : Int) (σ σ' : Hp) : Prop := Fr [67, 68] σ σ' ∧ σ' 67 1 = σ 67 1 + 4 ∧ (∀ j, ¬ j = 1 → σ' 67 j = σ 67 j) ∧ ∀ j : Nat, σ' 68 j = if (j : Int) < σ 67 1 ∨ σ 67 1 + 4 ≤ (j : Int) then σ 68 j else iAnd (iShr a (24 - 8 * ((j : Int) - σ 67 1))) 255
def Mo_four_I3 (_k : Nat) (a : Int) (σ0 : Hp) (n : Nat) (v2 : Int) (σ : Hp) : Prop := ∃ i : Nat, i ≤ 4 ∧ v2 = 24 - 8 * (i : Int) ∧ n = 4 - i ∧ Fr [67, 68] σ0 σ ∧ σ 67 1 = σ0 67 1 + i ∧ (∀ j, ¬ j = 1 → σ 67 j = σ0 67 j) ∧ ∀ j : Nat, σ 68 j = if (j : Int) < σ0 67 1 ∨ σ0 67 1 + i ≤ (j : Int) then σ0 68 j else iAnd (iShr a (24 - 8 * ((j : Int) - σ0 67 1))) 255
def Mo_four_bk : List (Nat × List Item) := [(0, [(.bipush 24, 2, [], []), (.istore_n 2, 1, [], [])]),
  (3, [(.iload_n 2, 1, [], []), (.ifCond .lt 35, 3, [39], []), (.aload_n 0, 1, [], []), (.getfield 7, 3, [9, 0, 4, 1, 1, 1600], []), (.aload_n 0, 1, [], []), (.getfield 139, 3, [9, 1, 0, 0, 0, 0], []), (.iload_n 1, 1, [], []), (.iload_n 2, 1, [], []), (.ishr, 1, [], []), (.sipush 255, 3, [], []), (.iand, 1, [], []), (.iastore, 1, [], []), (.aload_n 0, 1, [], []), (.dup, 1, [], []), (.getfield 139, 3, [9, 1, 0, 0, 0, 0], []), (.iconst 1, 1, [], []), (.iadd, 1, [], []), (.putfield 139, 3, [9, 1, 0, 0, 0, 0], []), (.iinc 2 (-8), 3, [], []), (.goto (-33), 3, [3], [])]),
  (39, [(.return_, 1, [], [])])]
def Mo_four_cl : List (Instr × Nat) := []
set_option maxRecDepth 20000 in
theorem Mo_four_ck : Mo_four_bk.all (fun b => ax_chB 9 3 cX9_four Mo_four_cl b.1 b.2) = true := by decide +kernel
def Mo_four_cs : Ct := (2, 10, 0, (0, 0), fun as σ => (match as with
    | [.inr (.inr (.inl (k, 0, 9))), .inl a1] => Mo_four_pre k a1 σ
    | _ => False), fun as σ r σ' => (match as with
    | [.inr (.inr (.inl (k, 0, 9))), .inl a1] => Mo_four_post k a1 σ σ'
    | _ => False))
theorem Mo_four_w : ∀ w ∈ ([.instanceMethod yX9_four, .selects yX9_four.cls yX9_four yX9_four, .initialized yX9_four.cls, .code yX9_four cX9_four 3 none] : List Cond), w ∈ ax_tb := ax_w4 (ax_m6 131 (by decide +kernel) rfl) (ax_m0 6 (by decide +kernel) rfl) (ax_m1 10 (by decide +kernel) rfl) (ax_m6 132 (by decide +kernel) rfl)
theorem Mo_four_ds : yX9_four.cls ≠ "java/lang/invoke/MethodHandle" ∧ yX9_four.cls ≠ "java/lang/invoke/VarHandle" ∧ (parseMethodDescriptor yX9_four.desc).map (fun d => d.parameters.length) = some 1 := by decide +kernel
def Mo_four_vc : Prop := ∀ (k : Nat) (a1 : Int) (σ : Hp), ax_H σ → Mo_four_pre k a1 σ →
  ∃ n' : Nat, k = k ∧ a1 = a1 ∧ Mo_four_I3 k a1 σ n' 24 σ
def Mo_four_vc3 : Prop := ∀ (k : Nat) (a1 : Int) (σ0 : Hp), Mo_four_pre k a1 σ0 → ∀ (n : Nat) (v2 : Int) (σ : Hp), ax_H σ → Mo_four_I3 k a1 σ0 n v2 σ →
  (v2 < 0 →
    Mo_four_post k a1 σ0 σ) ∧
  (¬ (v2 < 0) →
    (0 ≤ σ k 1 ∧ σ k 1 < 1600) ∧
    ∀ σ1 : Hp, σ1 = hp σ (k + 1) (σ k 1).toNat (iAnd (iShr a1 v2) 255) →
    ∀ σ2 : Hp, σ2 = hp σ1 k 1 (wr ((σ1 k 1) + 1)) →
    ∃ n' : Nat, n' < n ∧ k = k ∧ a1 = a1 ∧ Mo_four_I3 k a1 σ0 n' (wr (v2 + (-8))) σ2)
theorem Mo_four_p : Mo_four_vc := by
  intro k a σ hH hp
  exact ⟨4, rfl, rfl, 0, by omega, by omega, rfl, Fr.rf, by simp, fun j _ => rfl, fun j => by rw [if_pos (by omega)]⟩
theorem Mo_four_p3 : Mo_four_vc3 := by
  intro k a σ0 hp0 n v2 σ hH hI
  obtain ⟨rfl, p1, p2⟩ := hp0
  obtain ⟨i, hi, rfl, rfl, hf, h1, hk, hr⟩ := hI
  refine ⟨fun h => ?_, fun h => ⟨⟨by omega, by omega⟩, ?_⟩⟩
  · have : i = 4 := by omega
    subst this
    exact ⟨hf, h1, hk, hr⟩
  · intro σ1 hs1 σ2 hs2
    have e67 : σ1 67 = σ 67 := by rw [hs1]; exact hp_ne (by decide)
    rw [e67, wr1 (by omega) (by omega)] at hs2
    rw [wr_id (by omega) (by omega)]
    refine ⟨4 - (i + 1), by omega, rfl, rfl, i + 1, by omega, by omega, rfl, by rw [hs2, hs1]; exact Fr.hp (Fr.hp hf (by simp)) (by simp), by rw [hs2, hp_r1, h1]; omega, fun j hj => ?_, fun j => ?_⟩
    · rw [hs2, hp_r2 (fun z => hj z.2), e67]; exact hk j hj
    · rw [hs2, hp_ne (show (68 : Nat) ≠ 67 by decide), hs1]
      show hp σ 68 (σ 67 1).toNat (iAnd (iShr a (24 - 8 * (i : Int))) 255) 68 j = _
      by_cases e : j = (σ 67 1).toNat
      · rw [e, hp_r1, if_neg (by omega)]
        refine congrArg (fun z => iAnd (iShr a z) 255) ?_
        omega
      · rw [hp_r2 (fun z => e z.2), hr j]
        by_cases z : (j : Int) < σ0 67 1 ∨ σ0 67 1 + i ≤ (j : Int)
        · rw [if_pos z, if_pos (by omega)]
        · rw [if_neg z, if_neg (by omega)]
def Mo_four_I : List AV → Hp → Nat → Nat → List AV → List AV → Hp → Prop := fun as σ0 pc n st ls σ => (match as with
    | [.inr (.inr (.inl (k, 0, 9))), .inl a1] => (bif Nat.beq pc 3 then (match st, ls with
      | [], [.inr (.inr (.inl (k', 0, 9))), .inl a1', .inl v2] => k = k' ∧ a1 = a1' ∧ Mo_four_I3 k a1 σ0 n v2 σ
      | _, _ => False) else False)
    | _ => False)
def Mo_four_ct : Nat → Ct := fun n => match n with
  | _ => Mo_four_cs
set_option maxRecDepth 20000 in
set_option maxHeartbeats 4000000 in
theorem Mo_four_met {l : Launch} {D : va_G} {ad : Nat → Nat} {ca : Nat → ClassId} {L : Nat} {fx : Nat → Int} : ax_MC l D ad ca L fx yX9_four cX9_four 3 none 1 Mo_four_cs := by
  refine ax_met (oc := 9) (ct := Mo_four_ct) (calls := Mo_four_cl) (bs := Mo_four_bk) (cut := fun pc => Nat.beq pc 3) (f := 4) (I := Mo_four_I) (by decide) rfl rfl Mo_four_ck (fun _ h => absurd h List.not_mem_nil) ?_ ?_
  · intro as σ0 hp hH
    match as, hp with
    | [.inr (.inr (.inl (k, 0, 9))), .inl a1], hp => exact ⟨rfl, Mo_four_p k a1 σ0 hH hp⟩
  · intro as σ0 hp n pc st ls σ hH hI
    match as, hp, hI with
    | [.inr (.inr (.inl (k, 0, 9))), .inl a1], hp, hI =>
      rcases ax_bifE hI with ⟨hpc, hI⟩ | ⟨-, hI⟩
      · have := Nat.eq_of_beq_eq_true hpc
        subst this
        match st, ls, hI with
        | [], [.inr (.inr (.inl (k', 0, 9))), .inl a1', .inl v2], hI =>
          obtain ⟨rfl, rfl, hI⟩ := hI
          exact Mo_four_p3 k a1 σ0 hp n v2 σ hH hI
      exact False.elim hI
