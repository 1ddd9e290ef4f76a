-- THE MODEL: odds
theorem FV.nw {F : Fam} (h : FV F) {i : Nat} (hi : i ≤ 6) : 100 ^ nwn (fAmt F) i ≤ 100000000 := by
  have h4 := h.2.2.2.1
  have hm := nwn_mono (fAmt F) hi
  have : 100 ^ nwn (fAmt F) i ≤ 100 ^ 4 := Nat.pow_le_pow_right (by decide) (by omega)
  exact Nat.le_trans this (by decide)
theorem FV.okO {F : Fam} (h : FV F) : okO F := fun j => (h.2.1 j).2.2.2.1
def mayM (F : Fam) (x : Nat) : Prop := ∀ j, x.testBit j = true → j < fN F ∧ 0 < fAmt F j
theorem wgt_no {F : Fam} {x : Nat} {j : Nat} (hb : x.testBit j = true) (hj : ¬ (j < fN F ∧ 0 < fAmt F j)) : ∀ i, j < i → wgt F x i = 0 := by
  intro i
  induction i with
  | zero => intro h; omega
  | succ i ih =>
    intro h
    rw [wgt_s]
    by_cases e : j = i
    · subst e
      have : wfc1 F x j = 0 := by unfold wfc1; rw [if_neg hj, hb]; rfl
      rw [this, Nat.mul_zero]
    · rw [ih (by omega), Nat.zero_mul]
theorem wgt_hi {F : Fam} {x n : Nat} (h : ∀ j, n ≤ j → ¬ x.testBit j = true) (hn : fN F ≤ n) : ∀ e, wgt F x (n + e) = wgt F x n := by
  intro e
  induction e with
  | zero => rfl
  | succ e ih =>
    rw [← Nat.add_assoc, wgt_s, ih]
    have : wfc1 F x (n + e) = 1 := by
      unfold wfc1
      rw [if_neg (by omega), Bool.eq_false_iff.mpr (h (n + e) (by omega))]
      rfl
    rw [this, Nat.mul_one]
def Mo_shareOf_pre (k : Nat) (a : Int) (σ : Hp) : Prop := k = 67 ∧ NP σ ∧ 0 ≤ a ∧ a < 64 ∧ ∀ d, mayM (famM d σ) a.toNat
def Mo_shareOf_post (_k : Nat) (a : Int) (σ : Hp) (r : Int) (σ' : Hp) : Prop := Fr af σ σ' ∧ (∀ d, r = (wgt (famM d σ) a.toNat 6 : Nat)) ∧ ∀ d, airM σ' = pss (famM d σ) (nowM σ) a (nowM σ).2.2.2.2.1
def Mo_shareOf_I12 (_k : Nat) (a : Int) (σ0 : Hp) (n : Nat) (v2 v3 : Int) (σ : Hp) : Prop := ∃ i : Nat, v3 = i ∧ i ≤ (σ0 67 42).toNat ∧ n = 6 - i ∧ Fr af σ0 σ ∧ (∀ d, v2 = (wgt (famM d σ0) a.toNat i : Nat)) ∧ (∀ d, ∀ j, j < 6 → σ 91 j = if j < i ∧ bt a j = true then wth (grA (famM d σ0) (nowM σ0) j + fAmt (famM d σ0) j) 99 else grA (famM d σ0) (nowM σ0) j) ∧ ∀ j, 6 ≤ j → j < 16 → σ 91 j = σ0 90 j
def Mo_shareOf_bk : List (Nat × List Item) := [(0, [(.iconst 1, 1, [], []), (.istore_n 2, 1, [], []), (.aload_n 0, 1, [], []), (.invokevirtual 401, 3, [0], []), (.aload_n 0, 1, [], []), (.invokevirtual 392, 3, [1], []), (.iconst 0, 1, [], []), (.istore_n 3, 1, [], [])]),
  (12, [(.iload_n 3, 1, [], []), (.aload_n 0, 1, [], []), (.getfield 304, 3, [9, 42, 0, 0, 0, 0], []), (.if_icmp .ge 92, 3, [109], []), (.aload_n 0, 1, [], []), (.getfield 76, 3, [9, 35, 4, 21, 1, 6], []), (.iload_n 3, 1, [], []), (.iaload, 1, [], []), (.ifCond .ne 6, 3, [32], []), (.goto 74, 3, [103], [])]),
  (32, [(.iload_n 1, 1, [], []), (.iload_n 3, 1, [], []), (.ishr, 1, [], []), (.iconst 1, 1, [], []), (.iand, 1, [], []), (.iconst 1, 1, [], []), (.if_icmp .ne 7, 3, [45], []), (.iconst 1, 1, [], []), (.goto 4, 3, [46], [])]),
  (45, [(.iconst 0, 1, [], [])]),
  (46, [(.istore 4, 2, [], []), (.iload_n 2, 1, [], []), (.iload 4, 2, [], []), (.ifCond .eq 12, 3, [63], []), (.aload_n 0, 1, [], []), (.getfield 73, 3, [9, 34, 4, 20, 1, 6], []), (.iload_n 3, 1, [], []), (.iaload, 1, [], []), (.goto 12, 3, [72], [])]),
  (63, [(.bipush 100, 2, [], []), (.aload_n 0, 1, [], []), (.getfield 73, 3, [9, 34, 4, 20, 1, 6], []), (.iload_n 3, 1, [], []), (.iaload, 1, [], []), (.isub, 1, [], [])]),
  (72, [(.imul, 1, [], []), (.istore_n 2, 1, [], []), (.iload 4, 2, [], []), (.ifCond .eq 27, 3, [103], []), (.aload_n 0, 1, [], []), (.getfield 88, 3, [9, 47, 4, 24, 1, 16], []), (.iload_n 3, 1, [], []), (.aload_n 0, 1, [], []), (.getfield 88, 3, [9, 47, 4, 24, 1, 16], []), (.iload_n 3, 1, [], []), (.iaload, 1, [], []), (.aload_n 0, 1, [], []), (.getfield 76, 3, [9, 35, 4, 21, 1, 6], []), (.iload_n 3, 1, [], []), (.iaload, 1, [], []), (.iadd, 1, [], []), (.bipush 99, 2, [], []), (.invokestatic 386, 3, [2], []), (.iastore, 1, [], [])]),
  (103, [(.iinc 3 1, 3, [], []), (.goto (-94), 3, [12], [])]),
  (109, [(.aload_n 0, 1, [], []), (.invokevirtual 395, 3, [3], []), (.iload_n 2, 1, [], []), (.ireturn, 1, [], [])])]
def Mo_shareOf_cl : List (Instr × Nat) := [(.invokevirtual 401, 0), (.invokevirtual 392, 1), (.invokestatic 386, 2), (.invokevirtual 395, 3)]
set_option maxRecDepth 20000 in
theorem Mo_shareOf_ck : Mo_shareOf_bk.all (fun b => ax_chB 9 5 cX9_shareOf Mo_shareOf_cl b.1 b.2) = true := by decide +kernel
def Mo_shareOf_cs : Ct := (2, 10, 1, (0, 0), fun as σ => (match as with
    | [.inr (.inr (.inl (k, 0, 9))), .inl a1] => Mo_shareOf_pre k a1 σ
    | _ => False), fun as σ r σ' => (match as with
    | [.inr (.inr (.inl (k, 0, 9))), .inl a1] => Mo_shareOf_post k a1 σ r σ'
    | _ => False))
theorem Mo_shareOf_w : ∀ w ∈ ([.instanceMethod yX9_shareOf, .selects yX9_shareOf.cls yX9_shareOf yX9_shareOf, .initialized yX9_shareOf.cls, .code yX9_shareOf cX9_shareOf 5 (some .int)] : List Cond), w ∈ ax_tb := ax_w4 (ax_m8 32 (by decide +kernel) rfl) (ax_m0 58 (by decide +kernel) rfl) (ax_m1 10 (by decide +kernel) rfl) (ax_m8 33 (by decide +kernel) rfl)
theorem Mo_shareOf_ds : yX9_shareOf.cls ≠ "java/lang/invoke/MethodHandle" ∧ yX9_shareOf.cls ≠ "java/lang/invoke/VarHandle" ∧ (parseMethodDescriptor yX9_shareOf.desc).map (fun d => d.parameters.length) = some 1 := by decide +kernel
def Mo_shareOf_vc : Prop := ∀ (k : Nat) (a1 : Int) (σ : Hp), ax_H σ → Mo_shareOf_pre k a1 σ →
  Mo_load_pre k σ ∧
  ∀ σ1 : Hp, Mo_load_post k σ σ1 →
  Mo_growAll_pre k σ1 ∧
  ∀ σ2 : Hp, Mo_growAll_post k σ1 σ2 →
  ∃ n' : Nat, k = k ∧ a1 = a1 ∧ Mo_shareOf_I12 k a1 σ n' 1 0 σ2
def Mo_shareOf_vc12 : Prop := ∀ (k : Nat) (a1 : Int) (σ0 : Hp), Mo_shareOf_pre k a1 σ0 → ∀ (n : Nat) (v2 : Int) (v3 : Int) (σ : Hp), ax_H σ → Mo_shareOf_I12 k a1 σ0 n v2 v3 σ →
  (σ k 42 ≤ v3 →
    Mo_endDay_pre k σ ∧
    ∀ σ1 : Hp, Mo_endDay_post k σ σ1 →
    Mo_shareOf_post k a1 σ0 v2 σ1) ∧
  (¬ (σ k 42 ≤ v3) →
    (0 ≤ v3 ∧ v3 < 6) ∧
    (¬ σ (k + 21) v3.toNat = 0 →
      (¬ iAnd (iShr a1 v3) 1 = 1 →
        ((0 : Int) = (0 : Int) →
          (0 ≤ v3 ∧ v3 < 6) ∧
          ((0 : Int) = (0 : Int) →
            ∃ n' : Nat, n' < n ∧ k = k ∧ a1 = a1 ∧ Mo_shareOf_I12 k a1 σ0 n' (wr (v2 * (wr (100 - (σ (k + 20) v3.toNat))))) (wr (v3 + 1)) σ) ∧
          (¬ ((0 : Int) = (0 : Int)) →
            (0 ≤ v3 ∧ v3 < 16) ∧
            (0 ≤ v3 ∧ v3 < 6) ∧
            Mo_within_pre (wr ((σ (k + 24) v3.toNat) + (σ (k + 21) v3.toNat))) 99 σ ∧
            ∀ (r3 : Int) (σ2 : Hp), Mo_within_post (wr ((σ (k + 24) v3.toNat) + (σ (k + 21) v3.toNat))) 99 σ r3 σ2 →
            (0 ≤ v3 ∧ v3 < 16) ∧
            ∀ σ4 : Hp, σ4 = hp σ2 (k + 24) v3.toNat r3 →
            ∃ n' : Nat, n' < n ∧ k = k ∧ a1 = a1 ∧ Mo_shareOf_I12 k a1 σ0 n' (wr (v2 * (wr (100 - (σ (k + 20) v3.toNat))))) (wr (v3 + 1)) σ4)) ∧
        (¬ ((0 : Int) = (0 : Int)) →
          (0 ≤ v3 ∧ v3 < 6) ∧
          ((0 : Int) = (0 : Int) →
            ∃ n' : Nat, n' < n ∧ k = k ∧ a1 = a1 ∧ Mo_shareOf_I12 k a1 σ0 n' (wr (v2 * (σ (k + 20) v3.toNat))) (wr (v3 + 1)) σ) ∧
          (¬ ((0 : Int) = (0 : Int)) →
            (0 ≤ v3 ∧ v3 < 16) ∧
            (0 ≤ v3 ∧ v3 < 6) ∧
            Mo_within_pre (wr ((σ (k + 24) v3.toNat) + (σ (k + 21) v3.toNat))) 99 σ ∧
            ∀ (r6 : Int) (σ5 : Hp), Mo_within_post (wr ((σ (k + 24) v3.toNat) + (σ (k + 21) v3.toNat))) 99 σ r6 σ5 →
            (0 ≤ v3 ∧ v3 < 16) ∧
            ∀ σ7 : Hp, σ7 = hp σ5 (k + 24) v3.toNat r6 →
            ∃ n' : Nat, n' < n ∧ k = k ∧ a1 = a1 ∧ Mo_shareOf_I12 k a1 σ0 n' (wr (v2 * (σ (k + 20) v3.toNat))) (wr (v3 + 1)) σ7))) ∧
      (¬ (¬ iAnd (iShr a1 v3) 1 = 1) →
        ((1 : Int) = (0 : Int) →
          (0 ≤ v3 ∧ v3 < 6) ∧
          ((1 : Int) = (0 : Int) →
            ∃ n' : Nat, n' < n ∧ k = k ∧ a1 = a1 ∧ Mo_shareOf_I12 k a1 σ0 n' (wr (v2 * (wr (100 - (σ (k + 20) v3.toNat))))) (wr (v3 + 1)) σ) ∧
          (¬ ((1 : Int) = (0 : Int)) →
            (0 ≤ v3 ∧ v3 < 16) ∧
            (0 ≤ v3 ∧ v3 < 6) ∧
            Mo_within_pre (wr ((σ (k + 24) v3.toNat) + (σ (k + 21) v3.toNat))) 99 σ ∧
            ∀ (r9 : Int) (σ8 : Hp), Mo_within_post (wr ((σ (k + 24) v3.toNat) + (σ (k + 21) v3.toNat))) 99 σ r9 σ8 →
            (0 ≤ v3 ∧ v3 < 16) ∧
            ∀ σ10 : Hp, σ10 = hp σ8 (k + 24) v3.toNat r9 →
            ∃ n' : Nat, n' < n ∧ k = k ∧ a1 = a1 ∧ Mo_shareOf_I12 k a1 σ0 n' (wr (v2 * (wr (100 - (σ (k + 20) v3.toNat))))) (wr (v3 + 1)) σ10)) ∧
        (¬ ((1 : Int) = (0 : Int)) →
          (0 ≤ v3 ∧ v3 < 6) ∧
          ((1 : Int) = (0 : Int) →
            ∃ n' : Nat, n' < n ∧ k = k ∧ a1 = a1 ∧ Mo_shareOf_I12 k a1 σ0 n' (wr (v2 * (σ (k + 20) v3.toNat))) (wr (v3 + 1)) σ) ∧
          (¬ ((1 : Int) = (0 : Int)) →
            (0 ≤ v3 ∧ v3 < 16) ∧
            (0 ≤ v3 ∧ v3 < 6) ∧
            Mo_within_pre (wr ((σ (k + 24) v3.toNat) + (σ (k + 21) v3.toNat))) 99 σ ∧
            ∀ (r12 : Int) (σ11 : Hp), Mo_within_post (wr ((σ (k + 24) v3.toNat) + (σ (k + 21) v3.toNat))) 99 σ r12 σ11 →
            (0 ≤ v3 ∧ v3 < 16) ∧
            ∀ σ13 : Hp, σ13 = hp σ11 (k + 24) v3.toNat r12 →
            ∃ n' : Nat, n' < n ∧ k = k ∧ a1 = a1 ∧ Mo_shareOf_I12 k a1 σ0 n' (wr (v2 * (σ (k + 20) v3.toNat))) (wr (v3 + 1)) σ13)))) ∧
    (¬ (¬ σ (k + 21) v3.toNat = 0) →
      ∃ n' : Nat, n' < n ∧ k = k ∧ a1 = a1 ∧ Mo_shareOf_I12 k a1 σ0 n' v2 (wr (v3 + 1)) σ))
theorem Mo_shareOf_p : Mo_shareOf_vc := by
  intro k a σ hH hp
  obtain ⟨rfl, hN, a0, a6, hm⟩ := hp
  refine ⟨rfl, fun σ1 g => ?_⟩
  have L := hN.load g
  refine ⟨⟨rfl, L.1⟩, ?_⟩
  rintro σ2 ⟨g1, g2, g3⟩
  refine ⟨6, rfl, rfl, 0, rfl, Nat.zero_le _, rfl, (g.1.mono (by simp [af])).tr g1, fun d => rfl, fun d j hj => ?_, fun j h1 h2 => by rw [g2 j h1, g.2 j h2]⟩
  rw [if_neg (by omega), g3 d j hj, L.2.1 d, L.2.2]
theorem Mo_shareOf_p12 : Mo_shareOf_vc12 := by
  intro k a σ0 hp0 n v2 v3 σ hH hI
  obtain ⟨rfl, hN, a0, a6, hm⟩ := hp0
  obtain ⟨i, rfl, hi, rfl, hf, hv, hc, ho⟩ := hI
  have hn := hN.1.1
  obtain ⟨dF, hFV⟩ := hN.1.2.2.2
  have e67 : σ 67 = σ0 67 := hf 67 (by decide)
  have NF := hN.fr hf (by simp [af])
  have eN : ∀ d, fN (famM d σ0) = (σ0 67 42).toNat := fun d => rfl
  have wl := wgt_le hFV.okO a.toNat i
  have wl1 := wgt_le hFV.okO a.toNat (i + 1)
  have hv0 := hv dF
  rw [e67]
  refine ⟨fun h => ?_, fun h => ⟨⟨by omega, by omega⟩, ?_⟩⟩
  · have ei : i = (σ0 67 42).toNat := by omega
    have ga : ∀ d, airM σ = (pssC (famM d σ0) (nowM σ0) a, (nowM σ0).2.1, (nowM σ0).2.2.1, (nowM σ0).2.2.2.1, (nowM σ0).2.2.2.2.1, (nowM σ0).2.2.2.2.2) := by
      intro d
      show stR (σ 91) 0 = _
      unfold stR
      refine Prod.ext ?_ (Prod.ext (tr_ext fun j hj => ho _ (by omega) (by omega)) ?_)
      · funext j
        show tr 6 (fun j => σ 91 (0 + j)) j = pssC (famM d σ0) (nowM σ0) a j
        unfold pssC
        rw [eN d, ← ei]
        by_cases hj : j < 6
        · rw [tr_in hj, Nat.zero_add, hc d j hj]
        · rw [tr_out (by omega), if_neg (by omega)]
          unfold grA
          rw [if_neg (show ¬ j < fN (famM d σ0) from (by rw [eN]; omega))]
          show 0 = tr 6 (fun j => σ0 90 (0 + j)) j
          rw [tr_out (by omega)]
      · show (σ 91 12, σ 91 14, σ 91 15, σ 91 13) = (σ0 90 12, σ0 90 14, σ0 90 15, σ0 90 13)
        rw [ho 12 (by decide) (by decide), ho 13 (by decide) (by decide), ho 14 (by decide) (by decide), ho 15 (by decide) (by decide)]
    have hA : AP σ := by
      refine ⟨NF.1.1, ?_, ?_⟩
      · rw [ga dF]
        exact ⟨fun j => pssC_R hN.2.1.1 j, hN.2.1.2.1, ⟨hN.2.1.2.2.1.1, Int.le_trans hN.2.1.2.2.1.2 (by decide)⟩, hN.2.1.2.2.2⟩
      · rw [ga dF, e67]
        refine ⟨hN.2.2.1, hN.2.2.2.1, fun j hj => ?_⟩
        show pssC (famM dF σ0) (nowM σ0) a j = 0
        unfold pssC grA
        rw [if_neg (by rw [eN]; omega), if_neg (by rw [eN]; omega)]
        exact hN.2.2.2.2 j hj
    have hd : σ 91 14 < 100000 := by
      have : σ 91 14 = (nowM σ0).2.2.2.1 := ho 14 (by decide) (by decide)
      have := hN.2.1.2.2.1
      omega
    refine ⟨⟨rfl, hA, hd⟩, ?_⟩
    rintro σ1 ⟨g1, g2⟩
    refine ⟨hf.tr g1, fun d => ?_, fun d => ?_⟩
    · have := wgt_hi (F := famM d σ0) (x := a.toNat) (n := i) (fun j hj z => by have := (hm d j z).1; rw [eN] at this; omega) (by rw [eN]; omega) (6 - i)
      rw [show i + (6 - i) = 6 by omega] at this
      rw [this]; exact hv d
    · rw [g2 d, NF.2.1 d, ga d, pss_eday]
  · have hiN : i < (σ0 67 42).toNat := by omega
    have eA : ∀ d, fAmt (famM d σ0) i = σ0 88 i := fun d => tr_in hiN
    have eO : ∀ d, fOdd (famM d σ0) i = σ0 87 i := fun d => tr_in hiN
    have hAm := (hFV.2.1 i).2.2.2.2
    have hOd := (hFV.2.1 i).2.2.2.1
    rw [eA dF] at hAm
    rw [eO dF] at hOd
    have e88 : σ (67 + 21) = σ0 88 := hf 88 (by decide)
    have e87 : σ (67 + 20) = σ0 87 := hf 87 (by decide)
    have hw6 : 100 ^ nwn (fAmt (famM dF σ0)) (i + 1) ≤ 100000000 := hFV.nw (by omega)
    rw [e88, e87, Int.toNat_natCast, wr1 (i := (i : Int)) (by omega) (by omega), bit_01 a0 (by omega) (by omega) (by omega), Int.toNat_natCast, show wr (100 - σ0 87 i) = 100 - σ0 87 i from wr_id (by omega) (by omega)]
    have R6 : (0 ≤ (i : Int) ∧ (i : Int) < 6) := ⟨by omega, by omega⟩
    have wf : ∀ d, wgt (famM d σ0) a.toNat (i + 1) = wgt (famM d σ0) a.toNat i * wfc1 (famM d σ0) a.toNat i := fun d => wgt_s _ _ _
    refine ⟨fun h2 => ⟨fun h3 => ⟨fun _ => ⟨R6, fun _ => ?_, fun z => absurd rfl z⟩, fun z => absurd rfl z⟩, fun h3 => ⟨fun z => absurd z (by decide), fun _ => ⟨R6, fun z => absurd z (by decide), fun _ => ⟨⟨by omega, by omega⟩, R6, by show (0 : Int) ≤ 99; decide, ?_⟩⟩⟩⟩, fun h2 => ?_⟩
    · have hbf : a.toNat.testBit i = false := Bool.eq_false_iff.mpr h3
      have f1 : ∀ d, wfc1 (famM d σ0) a.toNat i = 100 - (σ0 87 i).toNat := fun d => by
        unfold wfc1; rw [eA, eO, if_pos ⟨hiN, by omega⟩, hbf]; rfl
      have hw := wl1
      rw [wf dF, f1 dF] at hw
      have e : wr (v2 * (100 - σ0 87 i)) = ((wgt (famM dF σ0) a.toNat i * (100 - (σ0 87 i).toNat) : Nat) : Int) := by
        rw [hv0, show (100 : Int) - σ0 87 i = ((100 - (σ0 87 i).toNat : Nat) : Int) by omega, ← Int.natCast_mul, wr_id (by omega) (by omega)]
      refine ⟨6 - (i + 1), by omega, rfl, rfl, i + 1, by simp, by omega, rfl, hf, fun d => ?_, fun d j hj => ?_, ho⟩
      · have hvd : wgt (famM d σ0) a.toNat i = wgt (famM dF σ0) a.toNat i := by have := hv d; omega
        rw [e, wf d, f1 d, hvd]
      · rw [hc d j hj]
        by_cases z : j < i ∧ bt a j = true
        · rw [if_pos z, if_pos ⟨by omega, z.2⟩]
        · rw [if_neg z, if_neg (fun y => by
            by_cases e : j = i
            · rw [e] at y; exact h3 y.2
            · exact z ⟨by omega, y.2⟩)]
    · have hbt : a.toNat.testBit i = true := Classical.not_not.mp h3
      rintro r3 σ2 ⟨rfl, rfl⟩
      refine ⟨⟨by omega, by omega⟩, ?_⟩
      have eg : σ2 (67 + 24) i = grA (famM 0 σ0) (nowM σ0) i := by
        show σ2 91 i = _
        rw [hc 0 i (by omega), if_neg (by omega)]
      have hg := grA_R (F := famM 0 σ0) hN.2.1.1 i
      rw [eg, show wr (grA (famM 0 σ0) (nowM σ0) i + σ0 88 i) = grA (famM 0 σ0) (nowM σ0) i + σ0 88 i from wr_id (by omega) (by omega)]
      intro σ4 hs
      have f1 : ∀ d, wfc1 (famM d σ0) a.toNat i = (σ0 87 i).toNat := fun d => by
        unfold wfc1; rw [eA, eO, if_pos ⟨hiN, by omega⟩, hbt]; rfl
      have hw := wl1
      rw [wf dF, f1 dF] at hw
      have e : wr (v2 * σ0 87 i) = ((wgt (famM dF σ0) a.toNat i * (σ0 87 i).toNat : Nat) : Int) := by
        rw [hv0]
        conv => lhs; rw [show σ0 87 i = (((σ0 87 i).toNat : Nat) : Int) by omega]
        rw [← Int.natCast_mul, wr_id (by omega) (by omega)]
      have q : ∀ j, σ4 91 j = if j = i then wth (grA (famM 0 σ0) (nowM σ0) i + σ0 88 i) 99 else σ2 91 j := fun j => by
        rw [hs]
        show hp σ2 91 i _ 91 j = _
        by_cases e : j = i
        · rw [e, hp_r1, if_pos rfl]
        · rw [hp_r2 (fun z => e z.2), if_neg e]
      refine ⟨6 - (i + 1), by omega, rfl, rfl, i + 1, by simp, by omega, rfl, by rw [hs]; exact Fr.hp hf (by simp [af]), fun d => ?_, fun d j hj => ?_, fun j h1 h2 => by rw [q, if_neg (by omega)]; exact ho j h1 h2⟩
      · have hvd : wgt (famM d σ0) a.toNat i = wgt (famM dF σ0) a.toNat i := by have := hv d; omega
        rw [e, wf d, f1 d, hvd]
      · rw [q]
        by_cases e : j = i
        · rw [if_pos e, if_pos ⟨by omega, by rw [e]; exact hbt⟩, e, eA d]; rfl
        · rw [if_neg e, hc d j hj]
          by_cases z : j < i ∧ bt a j = true
          · rw [if_pos z, if_pos ⟨by omega, z.2⟩]
          · rw [if_neg z, if_neg (fun y => z ⟨by omega, y.2⟩)]
    · have h20 : σ0 88 i = 0 := Classical.not_not.mp h2
      have hbf : ∀ d, a.toNat.testBit i = false := fun d => Bool.eq_false_iff.mpr (fun z => by have := (hm d i z).2; rw [eA] at this; omega)
      have f1 : ∀ d, wfc1 (famM d σ0) a.toNat i = 1 := fun d => by
        unfold wfc1; rw [eA, if_neg (by omega), hbf d]; rfl
      refine ⟨6 - (i + 1), by omega, rfl, rfl, i + 1, by simp, by omega, rfl, hf, fun d => by rw [wf d, f1 d, Nat.mul_one]; exact hv d, fun d j hj => ?_, ho⟩
      rw [hc d j hj]
      by_cases z : j < i ∧ bt a j = true
      · rw [if_pos z, if_pos ⟨by omega, z.2⟩]
      · rw [if_neg z, if_neg (fun y => by
          by_cases e : j = i
          · rw [e] at y
            have y2 : a.toNat.testBit i = true := y.2
            rw [hbf d] at y2; cases y2
          · exact z ⟨by omega, y.2⟩)]
def Mo_shareOf_I : List AV → Hp → Nat → Nat → List AV → List AV → Hp → Prop := fun as σ0 pc n st ls σ => (match as with
    | [.inr (.inr (.inl (k, 0, 9))), .inl a1] => (bif Nat.beq pc 12 then (match st, ls with
      | [], [.inr (.inr (.inl (k', 0, 9))), .inl a1', .inl v2, .inl v3, _] => k = k' ∧ a1 = a1' ∧ Mo_shareOf_I12 k a1 σ0 n v2 v3 σ
      | _, _ => False) else False)
    | _ => False)
def Mo_shareOf_ct : Nat → Ct := fun n => match n with
  | 0 => Mo_load_cs
  | 1 => Mo_growAll_cs
  | 2 => Mo_within_cs
  | 3 => Mo_endDay_cs
  | _ => Mo_shareOf_cs
set_option maxRecDepth 20000 in
set_option maxHeartbeats 4000000 in
theorem Mo_shareOf_met {l : Launch} {D : va_G} {ad : Nat → Nat} {ca : Nat → ClassId} {L : Nat} {fx : Nat → Int} : ax_MC l D ad ca L fx yX9_shareOf cX9_shareOf 5 (some .int) 7 Mo_shareOf_cs := by
  refine ax_met (oc := 9) (ct := Mo_shareOf_ct) (calls := Mo_shareOf_cl) (bs := Mo_shareOf_bk) (cut := fun pc => Nat.beq pc 12) (f := 10) (I := Mo_shareOf_I) (by decide) rfl rfl Mo_shareOf_ck (List.forall_mem_cons.mpr ⟨ax_cwV Mo_load_met (by decide) (by decide) rfl (by decide) rfl (ax_m7 86 (by decide +kernel) rfl) Mo_load_w rfl Mo_load_ds, List.forall_mem_cons.mpr ⟨ax_cwV Mo_growAll_met (by decide) (by decide) rfl (by decide) rfl (ax_m7 110 (by decide +kernel) rfl) Mo_growAll_w rfl Mo_growAll_ds, List.forall_mem_cons.mpr ⟨ax_cwS Mo_within_met (by decide) (by decide) (ax_m7 64 (by decide +kernel) rfl) Mo_within_w rfl Mo_within_ds, List.forall_mem_cons.mpr ⟨ax_cwV Mo_endDay_met (by decide) (by decide) rfl (by decide) rfl (ax_m7 114 (by decide +kernel) rfl) Mo_endDay_w rfl Mo_endDay_ds, fun _ h => absurd h List.not_mem_nil⟩⟩⟩⟩) ?_ ?_
  · intro as σ0 hp hH
    match as, hp with
    | [.inr (.inr (.inl (k, 0, 9))), .inl a1], hp => exact ⟨rfl, Mo_shareOf_p k a1 σ0 hH hp⟩
  · intro as σ0 hp n pc st ls σ hH hI
    match as, hp, hI with
    | [.inr (.inr (.inl (k, 0, 9))), .inl a1], hp, hI =>
      rcases ax_bifE hI with ⟨hpc, hI⟩ | ⟨-, hI⟩
      · have := Nat.eq_of_beq_eq_true hpc
        subst this
        match st, ls, hI with
        | [], [.inr (.inr (.inl (k', 0, 9))), .inl a1', .inl v2, .inl v3, _], hI =>
          obtain ⟨rfl, rfl, hI⟩ := hI
          exact Mo_shareOf_p12 k a1 σ0 hp n v2 v3 σ hH hI
      exact False.elim hI
def mayN (F : Fam) : Nat → Nat
  | 0 => 0
  | i + 1 => mayN F i ||| (if 0 < fAmt F i then 2 ^ i else 0)
theorem mayN_s (F : Fam) (i : Nat) : mayN F (i + 1) = mayN F i ||| (if 0 < fAmt F i then 2 ^ i else 0) := rfl
theorem mayN_lt (F : Fam) (i : Nat) : mayN F i < 2 ^ i := by
  induction i with
  | zero => exact Nat.one_pos
  | succ i ih =>
    rw [mayN_s]
    apply Nat.or_lt_two_pow
    · exact Nat.lt_of_lt_of_le ih (Nat.pow_le_pow_right (by decide) (by omega))
    · split
      · exact Nat.pow_lt_pow_right (by decide) (by omega)
      · exact Nat.two_pow_pos _
theorem mayN_t (F : Fam) : ∀ i j, (mayN F i).testBit j = true ↔ j < i ∧ 0 < fAmt F j := by
  intro i
  induction i with
  | zero => intro j; rw [show mayN F 0 = 0 from rfl, Nat.zero_testBit]; simp
  | succ i ih =>
    intro j
    rw [mayN_s, Nat.testBit_or, Bool.or_eq_true, ih]
    by_cases h : 0 < fAmt F i
    · rw [if_pos h, Nat.testBit_two_pow, decide_eq_true_eq]
      constructor
      · rintro (z | z)
        · exact ⟨by omega, z.2⟩
        · rw [← z]; exact ⟨by omega, h⟩
      · rintro ⟨z1, z2⟩
        by_cases e : i = j
        · exact Or.inr e
        · exact Or.inl ⟨by omega, z2⟩
    · rw [if_neg h, Nat.zero_testBit]
      constructor
      · rintro (z | z)
        · exact ⟨by omega, z.2⟩
        · cases z
      · rintro ⟨z1, z2⟩
        by_cases e : i = j
        · rw [← e] at z2; exact absurd z2 h
        · exact Or.inl ⟨by omega, z2⟩
theorem may_sub {F : Fam} {x : Nat} : ndf x (mayN F (fN F)) = 0 ↔ mayM F x := by
  constructor
  · intro h j hj
    have h2 := congrArg (fun z => z.testBit j) h
    simp only [ndf_t, Nat.zero_testBit, hj, Bool.true_and, Bool.not_eq_false'] at h2
    exact (mayN_t F _ j).mp h2
  · intro h
    apply Nat.eq_of_testBit_eq
    intro j
    rw [ndf_t, Nat.zero_testBit]
    cases hx : x.testBit j with
    | false => rfl
    | true => rw [(mayN_t F _ j).mpr (h j hx)]; rfl
theorem wgt_may {F : Fam} {x : Nat} (hx : x < 64) (h : ¬ mayM F x) : wgt F x 6 = 0 := by
  by_cases z : ∃ j, x.testBit j = true ∧ ¬ (j < fN F ∧ 0 < fAmt F j)
  · obtain ⟨j, h1, h2⟩ := z
    refine wgt_no h1 h2 6 ?_
    by_cases e : j < 6
    · exact e
    · rw [Nat.testBit_lt_two_pow (Nat.lt_of_lt_of_le (show x < 2 ^ 6 by omega) (Nat.pow_le_pow_right (by decide) (by omega)))] at h1
      cases h1
  · exact absurd (fun j hj => Classical.byContradiction fun y => z ⟨j, hj, y⟩) h
theorem own_far {F : Fam} {s : Sta} {p : Int} {n : Nat} (h : ∀ x, n ≤ x → x < 64 → wgt F x 6 = 0) : ∀ e, n + e ≤ 64 → own F s p (n + e) = own F s p n := by
  intro e
  induction e with
  | zero => intro _; rfl
  | succ e ih =>
    intro he
    rw [← Nat.add_assoc, own_s, ih (by omega), h (n + e) (by omega) (by omega)]
    split <;> rfl
def Mo_odds_pre (k : Nat) (_a _b : Int) (σ : Hp) : Prop := k = 67 ∧ MP σ
def Mo_odds_post (_k : Nat) (a b : Int) (σ : Hp) (r : Int) (σ' : Hp) : Prop := MQo σ σ' ∧ ∀ d, s_odds (mA d σ) a b r (mA d σ')
def odA (σ0 : Hp) (a b : Int) : Prop := (a = -1 ∨ (0 ≤ a ∧ a < (((σ0 67 42).toNat : Nat) : Int))) ∧ o01 b
def Mo_odds_I35 (_k : Nat) (a b : Int) (σ0 : Hp) (n : Nat) (v3 v4 v5 v6 : Int) (σ : Hp) : Prop := ∃ i : Nat, v6 = i ∧ i ≤ (σ0 67 42).toNat ∧ n = 200 - i ∧ odA σ0 a b ∧ σ = σ0 ∧ v3 = 0 ∧ (∀ d, v4 = (lwr (famM d σ0) i : Nat)) ∧ ∀ d, v5 = (mayN (famM d σ0) i : Nat)
def Mo_odds_I82 (_k : Nat) (a b : Int) (σ0 : Hp) (n : Nat) (v3 v4 v5 v6 : Int) (σ : Hp) : Prop := ∃ x : Nat, v6 = x ∧ x ≤ 64 ∧ n = 64 - x ∧ odA σ0 a b ∧ Fr af σ0 σ ∧ (∀ d, v3 = (own (famM d σ0) (nowM σ0) a x : Nat)) ∧ (∀ d, v4 = (lwr (famM d σ0) (fN (famM d σ0)) : Nat)) ∧ ∀ d, v5 = (mayN (famM d σ0) (fN (famM d σ0)) : Nat)
def Mo_odds_bk : List (Nat × List Item) := [(0, [(.iload_n 1, 1, [], []), (.iconst (-1), 1, [], []), (.if_icmp .eq 11, 3, [13], []), (.aload_n 0, 1, [], []), (.iload_n 1, 1, [], []), (.invokevirtual 398, 3, [0], []), (.ifCond .eq 12, 3, [22], [])]),
  (13, [(.iload_n 2, 1, [], []), (.iconst 0, 1, [], []), (.iconst 1, 1, [], []), (.invokestatic 379, 3, [1], []), (.ifCond .ne 5, 3, [24], [])]),
  (22, [(.iconst (-1), 1, [], []), (.ireturn, 1, [], [])]),
  (24, [(.iconst 0, 1, [], []), (.istore_n 3, 1, [], []), (.iconst 1, 1, [], []), (.istore 4, 2, [], []), (.iconst 0, 1, [], []), (.istore 5, 2, [], []), (.iconst 0, 1, [], []), (.istore 6, 2, [], [])]),
  (35, [(.iload 6, 2, [], []), (.aload_n 0, 1, [], []), (.getfield 304, 3, [9, 42, 0, 0, 0, 0], []), (.if_icmp .ge 38, 3, [79], []), (.aload_n 0, 1, [], []), (.getfield 76, 3, [9, 35, 4, 21, 1, 6], []), (.iload 6, 2, [], []), (.iaload, 1, [], []), (.ifCond .ne 6, 3, [57], []), (.goto 19, 3, [73], [])]),
  (57, [(.iload 5, 2, [], []), (.iconst 1, 1, [], []), (.iload 6, 2, [], []), (.ishl, 1, [], []), (.ior, 1, [], []), (.istore 5, 2, [], []), (.iload 4, 2, [], []), (.bipush 100, 2, [], []), (.imul, 1, [], []), (.istore 4, 2, [], [])]),
  (73, [(.iinc 6 1, 3, [], []), (.goto (-41), 3, [35], [])]),
  (79, [(.iconst 0, 1, [], []), (.istore 6, 2, [], [])]),
  (82, [(.iload 6, 2, [], []), (.iload 5, 2, [], []), (.if_icmp .gt 50, 3, [136], []), (.iload 6, 2, [], []), (.iload 5, 2, [], []), (.iconst (-1), 1, [], []), (.ixor, 1, [], []), (.iand, 1, [], []), (.ifCond .eq 6, 3, [102], []), (.goto 31, 3, [130], [])]),
  (102, [(.aload_n 0, 1, [], []), (.iload 6, 2, [], []), (.invokevirtual 460, 3, [2], []), (.istore 7, 2, [], []), (.iload_n 3, 1, [], []), (.aload_n 0, 1, [], []), (.getfield 88, 3, [9, 47, 4, 24, 1, 16], []), (.bipush 12, 2, [], []), (.iaload, 1, [], []), (.iload_n 1, 1, [], []), (.if_icmp .ne 8, 3, [127], []), (.iload 7, 2, [], []), (.goto 4, 3, [128], [])]),
  (127, [(.iconst 0, 1, [], [])]),
  (128, [(.iadd, 1, [], []), (.istore_n 3, 1, [], [])]),
  (130, [(.iinc 6 1, 3, [], []), (.goto (-51), 3, [82], [])]),
  (136, [(.iload 4, 2, [], []), (.iload_n 3, 1, [], []), (.invokestatic 463, 3, [3], []), (.istore 6, 2, [], []), (.iload_n 2, 1, [], []), (.ifCond .ne 10, 3, [155], []), (.iload_n 3, 1, [], []), (.iload 6, 2, [], []), (.idiv, 1, [], []), (.goto 8, 3, [160], [])]),
  (155, [(.iload 4, 2, [], []), (.iload 6, 2, [], []), (.idiv, 1, [], [])]),
  (160, [(.ireturn, 1, [], [])])]
def Mo_odds_cl : List (Instr × Nat) := [(.invokevirtual 398, 0), (.invokestatic 379, 1), (.invokevirtual 460, 2), (.invokestatic 463, 3)]
set_option maxRecDepth 20000 in
theorem Mo_odds_ck : Mo_odds_bk.all (fun b => ax_chB 9 8 cX9_odds Mo_odds_cl b.1 b.2) = true := by decide +kernel
def Mo_odds_cs : Ct := (3, 10, 1, (0, 0), fun as σ => (match as with
    | [.inr (.inr (.inl (k, 0, 9))), .inl a1, .inl a2] => Mo_odds_pre k a1 a2 σ
    | _ => False), fun as σ r σ' => (match as with
    | [.inr (.inr (.inl (k, 0, 9))), .inl a1, .inl a2] => Mo_odds_post k a1 a2 σ r σ'
    | _ => False))
theorem Mo_odds_w : ∀ w ∈ ([.instanceMethod yX9_odds, .selects yX9_odds.cls yX9_odds yX9_odds, .initialized yX9_odds.cls, .code yX9_odds cX9_odds 8 (some .int)] : List Cond), w ∈ ax_tb := ax_w4 (ax_m8 27 (by decide +kernel) rfl) (ax_m8 28 (by decide +kernel) rfl) (ax_m1 10 (by decide +kernel) rfl) (ax_m8 29 (by decide +kernel) rfl)
theorem Mo_odds_ds : yX9_odds.cls ≠ "java/lang/invoke/MethodHandle" ∧ yX9_odds.cls ≠ "java/lang/invoke/VarHandle" ∧ (parseMethodDescriptor yX9_odds.desc).map (fun d => d.parameters.length) = some 2 := by decide +kernel
def Mo_odds_vc : Prop := ∀ (k : Nat) (a1 : Int) (a2 : Int) (σ : Hp), ax_H σ → Mo_odds_pre k a1 a2 σ →
  (a1 = (-1) →
    Mo_isIn_pre a2 0 1 σ ∧
    ∀ (r2 : Int) (σ1 : Hp), Mo_isIn_post a2 0 1 σ r2 σ1 →
    (¬ r2 = 0 →
      ∃ n' : Nat, k = k ∧ a1 = a1 ∧ a2 = a2 ∧ Mo_odds_I35 k a1 a2 σ n' 0 1 0 0 σ1) ∧
    (¬ (¬ r2 = 0) →
      Mo_odds_post k a1 a2 σ (-1) σ1)) ∧
  (¬ (a1 = (-1)) →
    Mo_isPerson_pre k a1 σ ∧
    ∀ (r4 : Int) (σ3 : Hp), Mo_isPerson_post k a1 σ r4 σ3 →
    (r4 = 0 →
      Mo_odds_post k a1 a2 σ (-1) σ3) ∧
    (¬ (r4 = 0) →
      Mo_isIn_pre a2 0 1 σ3 ∧
      ∀ (r6 : Int) (σ5 : Hp), Mo_isIn_post a2 0 1 σ3 r6 σ5 →
      (¬ r6 = 0 →
        ∃ n' : Nat, k = k ∧ a1 = a1 ∧ a2 = a2 ∧ Mo_odds_I35 k a1 a2 σ n' 0 1 0 0 σ5) ∧
      (¬ (¬ r6 = 0) →
        Mo_odds_post k a1 a2 σ (-1) σ5)))
def Mo_odds_vc35 : Prop := ∀ (k : Nat) (a1 : Int) (a2 : Int) (σ0 : Hp), Mo_odds_pre k a1 a2 σ0 → ∀ (n : Nat) (v3 : Int) (v4 : Int) (v5 : Int) (v6 : Int) (σ : Hp), ax_H σ → Mo_odds_I35 k a1 a2 σ0 n v3 v4 v5 v6 σ →
  (σ k 42 ≤ v6 →
    ∃ n' : Nat, n' < n ∧ k = k ∧ a1 = a1 ∧ a2 = a2 ∧ Mo_odds_I82 k a1 a2 σ0 n' v3 v4 v5 0 σ) ∧
  (¬ (σ k 42 ≤ v6) →
    (0 ≤ v6 ∧ v6 < 6) ∧
    (¬ σ (k + 21) v6.toNat = 0 →
      ∃ n' : Nat, n' < n ∧ k = k ∧ a1 = a1 ∧ a2 = a2 ∧ Mo_odds_I35 k a1 a2 σ0 n' v3 (wr (v4 * 100)) (iOr v5 (iShl 1 v6)) (wr (v6 + 1)) σ) ∧
    (¬ (¬ σ (k + 21) v6.toNat = 0) →
      ∃ n' : Nat, n' < n ∧ k = k ∧ a1 = a1 ∧ a2 = a2 ∧ Mo_odds_I35 k a1 a2 σ0 n' v3 v4 v5 (wr (v6 + 1)) σ))
def Mo_odds_vc82 : Prop := ∀ (k : Nat) (a1 : Int) (a2 : Int) (σ0 : Hp), Mo_odds_pre k a1 a2 σ0 → ∀ (n : Nat) (v3 : Int) (v4 : Int) (v5 : Int) (v6 : Int) (σ : Hp), ax_H σ → Mo_odds_I82 k a1 a2 σ0 n v3 v4 v5 v6 σ →
  (v5 < v6 →
    Mo_divisor_pre v4 v3 σ ∧
    ∀ (r2 : Int) (σ1 : Hp), Mo_divisor_post v4 v3 σ r2 σ1 →
    (¬ a2 = 0 →
      ¬ r2 = 0 ∧
      Mo_odds_post k a1 a2 σ0 (iDiv v4 r2) σ1) ∧
    (¬ (¬ a2 = 0) →
      ¬ r2 = 0 ∧
      Mo_odds_post k a1 a2 σ0 (iDiv v3 r2) σ1)) ∧
  (¬ (v5 < v6) →
    (iAnd v6 (iXor v5 (-1)) = 0 →
      Mo_shareOf_pre k v6 σ ∧
      ∀ (r4 : Int) (σ3 : Hp), Mo_shareOf_post k v6 σ r4 σ3 →
      (0 ≤ (12 : Int) ∧ (12 : Int) < 16) ∧
      (¬ σ3 (k + 24) 12 = a1 →
        ∃ n' : Nat, n' < n ∧ k = k ∧ a1 = a1 ∧ a2 = a2 ∧ Mo_odds_I82 k a1 a2 σ0 n' (wr (v3 + 0)) v4 v5 (wr (v6 + 1)) σ3) ∧
      (¬ (¬ σ3 (k + 24) 12 = a1) →
        ∃ n' : Nat, n' < n ∧ k = k ∧ a1 = a1 ∧ a2 = a2 ∧ Mo_odds_I82 k a1 a2 σ0 n' (wr (v3 + r4)) v4 v5 (wr (v6 + 1)) σ3)) ∧
    (¬ (iAnd v6 (iXor v5 (-1)) = 0) →
      ∃ n' : Nat, n' < n ∧ k = k ∧ a1 = a1 ∧ a2 = a2 ∧ Mo_odds_I82 k a1 a2 σ0 n' v3 v4 v5 (wr (v6 + 1)) σ))
theorem Mo_odds_p : Mo_odds_vc := by
  intro k a b σ hH hp
  obtain ⟨rfl, hP⟩ := hp
  have no : ∀ σ1 : Hp, σ1 = σ → ¬ odA σ a b → Mo_odds_post 67 a b σ (-1) σ1 := by
    rintro σ1 rfl h
    refine om0 hP.1 (fun d => ?_)
    show _ = _
    rw [if_neg (show ¬ ((a = -1 ∨ isP (mA d σ1) a) ∧ o01 b) from h)]
  refine ⟨fun h => ⟨trivial, ?_⟩, fun h => ⟨⟨rfl, hP.n6⟩, ?_⟩⟩
  · rintro r2 σ1 ⟨rfl, rfl⟩
    refine ⟨fun h2 => ?_, fun h2 => no σ1 rfl (fun z => ite0' h2 (by have := z.2; omega))⟩
    have h2' := ite1 h2
    exact ⟨200, rfl, rfl, rfl, 0, rfl, Nat.zero_le _, rfl, ⟨Or.inl h, by omega⟩, rfl, rfl, fun d => rfl, fun d => rfl⟩
  · rintro r4 σ3 ⟨rfl, rfl⟩
    refine ⟨fun h2 => no σ3 rfl (fun z => ?_), fun h2 => ⟨trivial, ?_⟩⟩
    · rcases z.1 with y | y
      · exact h y
      · exact ite0 h2 y
    · have h2' := ite1 h2
      rintro r6 σ5 ⟨rfl, rfl⟩
      refine ⟨fun h3 => ?_, fun h3 => no σ5 rfl (fun z => ite0' h3 (by have := z.2; omega))⟩
      have h3' := ite1 h3
      exact ⟨200, rfl, rfl, rfl, 0, rfl, Nat.zero_le _, rfl, ⟨Or.inr h2', by omega⟩, rfl, rfl, fun d => rfl, fun d => rfl⟩
theorem Mo_odds_p35 : Mo_odds_vc35 := by
  intro k a b σ0 hp n v3 v4 v5 v6 σ hH hI
  obtain ⟨rfl, hP⟩ := hp
  obtain ⟨i, rfl, hi, rfl, hab, rfl, rfl, h4, h5⟩ := hI
  have hn := hP.n6
  obtain ⟨dF, hFV⟩ := hP.1.1.2.2.2
  have eN : ∀ d, fN (famM d σ) = (σ 67 42).toNat := fun d => rfl
  refine ⟨fun h => ⟨64, by omega, rfl, rfl, rfl, 0, rfl, by omega, rfl, hab, Fr.rf, fun d => rfl, fun d => by rw [eN, show (σ 67 42).toNat = i by omega]; exact h4 d, fun d => by rw [eN, show (σ 67 42).toNat = i by omega]; exact h5 d⟩, fun h => ⟨⟨by omega, by omega⟩, ?_⟩⟩
  have hiN : i < (σ 67 42).toNat := by omega
  have eA : ∀ d, fAmt (famM d σ) i = σ 88 i := fun d => tr_in hiN
  have hAm := (hFV.2.1 i).2.2.2.2
  rw [eA dF] at hAm
  have l1 : lwr (famM dF σ) (i + 1) ≤ 100000000 := by rw [lwr_pow]; exact hFV.nw (by omega)
  have m1 := mayN_lt (famM dF σ) i
  have h26 : 2 ^ i < 2 ^ 6 := Nat.pow_lt_pow_right (by decide) (by omega)
  have h40 := h4 dF
  have h50 := h5 dF
  rw [Int.toNat_natCast, wr1 (i := (i : Int)) (by omega) (by omega), show (67 + 21 : Nat) = 88 from rfl]
  refine ⟨fun h2 => ⟨200 - (i + 1), by omega, rfl, rfl, rfl, i + 1, by simp, by omega, rfl, hab, rfl, rfl, fun d => ?_, fun d => ?_⟩, fun h2 => ⟨200 - (i + 1), by omega, rfl, rfl, rfl, i + 1, by simp, by omega, rfl, hab, rfl, rfl, fun d => ?_, fun d => ?_⟩⟩
  · have h4d := h4 d
    rw [lwr_s, eA, if_pos (by omega)] at l1 ⊢
    rw [wr_id (by omega) (by omega)]
    omega
  · have h5d := h5 d
    rw [mayN_s, eA, if_pos (by omega), shl_1 (by omega) (by omega), Int.toNat_natCast, h5d, iOr_n (by omega) (by omega)]
  · rw [lwr_s, eA, if_neg (by omega), Nat.mul_one]; exact h4 d
  · rw [mayN_s, eA, if_neg (by omega), Nat.or_zero]; exact h5 d
theorem Mo_odds_p82 : Mo_odds_vc82 := by
  intro k a b σ0 hp n v3 v4 v5 v6 σ hH hI
  obtain ⟨rfl, hP⟩ := hp
  obtain ⟨x, rfl, hx, rfl, hab, hf, h3, h4, h5⟩ := hI
  have hn := hP.n6
  have hN := hP.np
  obtain ⟨dF, hFV⟩ := hP.1.1.2.2.2
  have eN : ∀ d, fN (famM d σ0) = (σ0 67 42).toNat := fun d => rfl
  have l0 : ∀ d, 0 < lwr (famM d σ0) (fN (famM d σ0)) := fun d => by rw [lwr_pow]; exact Nat.pow_pos (by decide)
  have l1 : lwr (famM dF σ0) (fN (famM dF σ0)) ≤ 100000000 := by rw [lwr_pow]; exact hFV.nw hFV.1
  have hown : ∀ j, j ≤ 64 → own (famM dF σ0) (nowM σ0) a j ≤ 100000000 := fun j hj =>
    Nat.le_trans (own_le _ _ _ _) (Nat.le_trans (sW_mono _ _ hj) (Nat.le_trans (sW_tot hFV.okO 6) (hFV.nw (Nat.le_refl 6))))
  have ho := hown x hx
  have m1 : mayN (famM dF σ0) (fN (famM dF σ0)) < 64 := Nat.lt_of_lt_of_le (mayN_lt _ _) (Nat.le_trans (Nat.pow_le_pow_right (by decide) hFV.1) (by decide))
  have h30 := h3 dF
  have h40 := h4 dF
  have h50 := h5 dF
  refine ⟨fun h => ⟨⟨by omega, by omega, by omega, by omega⟩, ?_⟩, fun h => ?_⟩
  · rintro r2 σ1 ⟨rfl, rfl⟩
    have far : ∀ d, own (famM d σ0) (nowM σ0) a 64 = own (famM d σ0) (nowM σ0) a x := fun d => by
      have := own_far (F := famM d σ0) (s := nowM σ0) (p := a) (n := x) (fun y hy hy2 => wgt_may hy2 (fun z => by
        have h6 := ndf_le (may_sub.mpr z)
        have := h5 d
        omega)) (64 - x) (by omega)
      rw [show x + (64 - x) = 64 by omega] at this
      exact this
    have key : ∀ d, Nat.gcd v4.toNat v3.toNat = Nat.gcd (lwr (famM d σ0) (fN (famM d σ0))) (own (famM d σ0) (nowM σ0) a 64) := fun d => by
      have := h3 d
      have := h4 d
      rw [far d, show v4.toNat = lwr (famM d σ0) (fN (famM d σ0)) by omega, show v3.toNat = own (famM d σ0) (nowM σ0) a x by omega]
    have hg0 : 0 < Nat.gcd v4.toNat v3.toNat := Nat.gcd_pos_of_pos_left _ (by have := l0 dF; omega)
    have hgl : Nat.gcd v4.toNat v3.toNat ≤ v4.toNat := Nat.gcd_le_left _ (by have := l0 dF; omega)
    refine ⟨fun h2 => ⟨by omega, om1 hP.1 hf scm_af (fun d => ?_)⟩, fun h2 => ⟨by omega, om1 hP.1 hf scm_af (fun d => ?_)⟩⟩
    · show _ = _
      rw [if_pos (show (a = -1 ∨ isP (mA d σ0) a) ∧ o01 b from hab)]
      show _ = odd (famM d σ0) (nowM σ0) a b
      unfold odd
      rw [if_neg h2, ← key d]
      generalize Nat.gcd v4.toNat v3.toNat = g at hg0 hgl ⊢
      have h4d := h4 d
      rw [h4d, iDiv_n (by omega) hg0 (by omega)]
    · show _ = _
      rw [if_pos (show (a = -1 ∨ isP (mA d σ0) a) ∧ o01 b from hab)]
      show _ = odd (famM d σ0) (nowM σ0) a b
      unfold odd
      rw [if_pos (Classical.not_not.mp h2), ← key d, far d]
      generalize Nat.gcd v4.toNat v3.toNat = g at hg0 hgl ⊢
      have h3d := h3 d
      rw [h3d, iDiv_n (by omega) hg0 (by omega)]
  · rw [wr1 (i := (x : Int)) (by omega) (by omega), h50, iAndN_n (by omega) (by omega)]
    have NF := hN.fr hf (by simp [af])
    refine ⟨fun h2 => ?_, fun h2 => ⟨64 - (x + 1), by omega, rfl, rfl, rfl, x + 1, by simp, by omega, rfl, hab, hf, fun d => ?_, h4, fun d => by rw [← h50]; exact h5 d⟩⟩
    · have mm : ∀ d, mayM (famM d σ0) x := fun d => may_sub.mp (by
        have : mayN (famM d σ0) (fN (famM d σ0)) = mayN (famM dF σ0) (fN (famM dF σ0)) := by have := h5 d; omega
        rw [this]; omega)
      refine ⟨⟨rfl, NF.1, by omega, by omega, fun d => by rw [NF.2.1 d, Int.toNat_natCast]; exact mm d⟩, ?_⟩
      rintro r4 σ3 ⟨g1, g2, g3⟩
      have eh : ∀ d, σ3 91 12 = (pss (famM d σ0) (nowM σ0) x (nowM σ0).2.2.2.2.1).2.2.1 := fun d => by
        have := congrArg (fun s : Sta => s.2.2.1) (g3 d)
        rw [NF.2.1 d, NF.2.2] at this
        exact this
      have ho1 := hown (x + 1) (by omega)
      rw [own_s] at ho1
      refine ⟨by decide, fun h6 => ⟨64 - (x + 1), by omega, rfl, rfl, rfl, x + 1, by simp, by omega, rfl, hab, hf.tr g1, fun d => ?_, h4, fun d => by rw [← h50]; exact h5 d⟩, fun h6 => ⟨64 - (x + 1), by omega, rfl, rfl, rfl, x + 1, by simp, by omega, rfl, hab, hf.tr g1, fun d => ?_, h4, fun d => by rw [← h50]; exact h5 d⟩⟩
      · have h6' : ¬ (pss (famM d σ0) (nowM σ0) x (nowM σ0).2.2.2.2.1).2.2.1 = a := fun z => h6 ((eh d).trans z)
        rw [own_s, if_neg h6', Nat.add_zero, Int.add_zero, wr_id (by omega) (by omega)]; exact h3 d
      · have h6' : ∀ d, (pss (famM d σ0) (nowM σ0) x (nowM σ0).2.2.2.2.1).2.2.1 = a := fun d => (eh d).symm.trans (Classical.not_not.mp h6)
        rw [if_pos (h6' dF)] at ho1
        have w4 : ∀ d, r4 = ((wgt (famM d σ0) x 6 : Nat) : Int) := fun d => by have := g2 d; rw [NF.2.1 d, Int.toNat_natCast] at this; exact this
        have w0 := w4 dF
        rw [own_s, if_pos (h6' d), wr_id (by omega) (by omega)]
        have := h3 d
        have := w4 d
        omega
    · have mm : ¬ mayM (famM d σ0) x := fun z => h2 (by
        have e1 := may_sub.mpr z
        have : mayN (famM d σ0) (fN (famM d σ0)) = mayN (famM dF σ0) (fN (famM dF σ0)) := by have := h5 d; omega
        rw [this] at e1
        omega)
      rw [own_s, wgt_may (by omega) mm]
      have := h3 d
      split <;> omega
def Mo_odds_I : List AV → Hp → Nat → Nat → List AV → List AV → Hp → Prop := fun as σ0 pc n st ls σ => (match as with
    | [.inr (.inr (.inl (k, 0, 9))), .inl a1, .inl a2] => (bif Nat.beq pc 35 then (match st, ls with
      | [], [.inr (.inr (.inl (k', 0, 9))), .inl a1', .inl a2', .inl v3, .inl v4, .inl v5, .inl v6, _] => k = k' ∧ a1 = a1' ∧ a2 = a2' ∧ Mo_odds_I35 k a1 a2 σ0 n v3 v4 v5 v6 σ
      | _, _ => False) else (bif Nat.beq pc 82 then (match st, ls with
      | [], [.inr (.inr (.inl (k', 0, 9))), .inl a1', .inl a2', .inl v3, .inl v4, .inl v5, .inl v6, _] => k = k' ∧ a1 = a1' ∧ a2 = a2' ∧ Mo_odds_I82 k a1 a2 σ0 n v3 v4 v5 v6 σ
      | _, _ => False) else False))
    | _ => False)
def Mo_odds_ct : Nat → Ct := fun n => match n with
  | 0 => Mo_isPerson_cs
  | 1 => Mo_isIn_cs
  | 2 => Mo_shareOf_cs
  | 3 => Mo_divisor_cs
  | _ => Mo_odds_cs
set_option maxRecDepth 20000 in
set_option maxHeartbeats 4000000 in
theorem Mo_odds_met {l : Launch} {D : va_G} {ad : Nat → Nat} {ca : Nat → ClassId} {L : Nat} {fx : Nat → Int} : ax_MC l D ad ca L fx yX9_odds cX9_odds 8 (some .int) 8 Mo_odds_cs := by
  refine ax_met (oc := 9) (ct := Mo_odds_ct) (calls := Mo_odds_cl) (bs := Mo_odds_bk) (cut := fun pc => Nat.beq pc 35 || Nat.beq pc 82) (f := 17) (I := Mo_odds_I) (by decide) rfl rfl Mo_odds_ck (List.forall_mem_cons.mpr ⟨ax_cwV Mo_isPerson_met (by decide) (by decide) rfl (by decide) rfl (ax_m7 79 (by decide +kernel) rfl) Mo_isPerson_w rfl Mo_isPerson_ds, List.forall_mem_cons.mpr ⟨ax_cwS Mo_isIn_met (by decide) (by decide) (ax_m7 83 (by decide +kernel) rfl) Mo_isIn_w rfl Mo_isIn_ds, List.forall_mem_cons.mpr ⟨ax_cwV Mo_shareOf_met (by decide) (by decide) rfl (by decide) rfl (ax_m8 30 (by decide +kernel) rfl) Mo_shareOf_w rfl Mo_shareOf_ds, List.forall_mem_cons.mpr ⟨ax_cwS Mo_divisor_met (by decide) (by decide) (ax_m8 34 (by decide +kernel) rfl) Mo_divisor_w rfl Mo_divisor_ds, fun _ h => absurd h List.not_mem_nil⟩⟩⟩⟩) ?_ ?_
  · intro as σ0 hp hH
    match as, hp with
    | [.inr (.inr (.inl (k, 0, 9))), .inl a1, .inl a2], hp => exact ⟨rfl, Mo_odds_p k a1 a2 σ0 hH hp⟩
  · intro as σ0 hp n pc st ls σ hH hI
    match as, hp, hI with
    | [.inr (.inr (.inl (k, 0, 9))), .inl a1, .inl a2], hp, hI =>
      rcases ax_bifE hI with ⟨hpc, hI⟩ | ⟨-, hI⟩
      · have := Nat.eq_of_beq_eq_true hpc
        subst this
        match st, ls, hI with
        | [], [.inr (.inr (.inl (k', 0, 9))), .inl a1', .inl a2', .inl v3, .inl v4, .inl v5, .inl v6, _], hI =>
          obtain ⟨rfl, rfl, rfl, hI⟩ := hI
          exact Mo_odds_p35 k a1 a2 σ0 hp n v3 v4 v5 v6 σ hH hI
      rcases ax_bifE hI with ⟨hpc, hI⟩ | ⟨-, hI⟩
      · have := Nat.eq_of_beq_eq_true hpc
        subst this
        match st, ls, hI with
        | [], [.inr (.inr (.inl (k', 0, 9))), .inl a1', .inl a2', .inl v3, .inl v4, .inl v5, .inl v6, _], hI =>
          obtain ⟨rfl, rfl, rfl, hI⟩ := hI
          exact Mo_odds_p82 k a1 a2 σ0 hp n v3 v4 v5 v6 σ hH hI
      exact False.elim hI
