-- THE MODEL'S READER: the family is told
def fq (w : Nat) (q : PS) : Fml := if w = 0 then pWo q else pGr q
def drw (q : PS) : Int := (pDr q).getD 0
def FB (σ0 σ : Hp) (x : PS × Nat) : Prop := RdA (tpM σ0) (.inr x) ∧ ∃ σ1, RFr σ0 σ1 ∧ (σ1 67 1 = 0 ∧ σ1 67 2 = 0 ∧ σ1 67 3 = -1) ∧ PM σ1 x.1 ∧ (∀ c, (c < 67 ∨ (68 ≤ c ∧ c ≤ 72) ∨ c = 78 ∨ (80 ≤ c ∧ c ≤ 84)) → σ c = σ1 c) ∧ (∀ j, ¬ j = 23 → ¬ j = 42 → ¬ j = 43 → ¬ j = 50 → ¬ j = 51 → ¬ j = 56 → ¬ j = 64 → σ 67 j = σ1 67 j) ∧ σ 67 42 = (pN x.1 : Int) ∧ σ 67 43 = (pEa x.1).getD 1 ∧ σ 67 23 = (uO (pWo x.1) + uO (pGr x.1) : Nat)
theorem FB.wr {σ0 σ : Hp} {x : PS × Nat} {c j : Nat} {v : Int} (h : FB σ0 σ x) (hc : (73 ≤ c ∧ c ≤ 77) ∨ c = 79 ∨ 85 ≤ c) : FB σ0 (hp σ c j v) x := by
  obtain ⟨h0, σ1, h1, h2, h3, h4, h5, h6, h7, h8⟩ := h
  have e : hp σ c j v 67 = σ 67 := hp_ne (by omega)
  exact ⟨h0, σ1, h1, h2, h3, fun d hd => by rw [hp_ne (by omega)]; exact h4 d hd, by rw [e]; exact h5, by rw [e]; exact h6, by rw [e]; exact h7, by rw [e]; exact h8⟩
theorem FB.fr {σ0 σ σ' : Hp} {x : PS × Nat} {cs : List Nat} (h : FB σ0 σ x) (hf : Fr cs σ σ') (hc : ∀ c ∈ cs, (73 ≤ c ∧ c ≤ 77) ∨ c = 79 ∨ 85 ≤ c) : FB σ0 σ' x := by
  obtain ⟨h0, σ1, h1, h2, h3, h4, h5, h6, h7, h8⟩ := h
  have e : σ' 67 = σ 67 := hf 67 (fun z => by have := hc 67 z; omega)
  exact ⟨h0, σ1, h1, h2, h3, fun d hd => by rw [hf d (fun z => by have := hc d z; omega)]; exact h4 d hd, by rw [e]; exact h5, by rw [e]; exact h6, by rw [e]; exact h7, by rw [e]; exact h8⟩
/-- a formula has been taken over -/
def CPd (σ : Hp) (w : Nat) (q : PS) : Prop := VCm σ w ∧ frM σ w = frO (fq w q)
theorem CPd.eq {σ σ' : Hp} {w : Nat} {q : PS} (h : CPd σ w q) (h75 : σ' 75 w = σ 75 w) (h73 : ∀ i, i < 280 → σ' 73 (320 * w + i) = σ 73 (320 * w + i) ∧ σ' 74 (320 * w + i) = σ 74 (320 * w + i)) : CPd σ' w q := by
  obtain ⟨⟨h1, h2⟩, h3⟩ := h
  refine ⟨⟨by rw [h75]; exact h1, fun i hi => ?_⟩, ?_⟩
  · rw [h75] at hi
    rw [(h73 i (by omega)).1, (h73 i (by omega)).2]
    exact h2 i hi
  · rw [← h3]
    unfold frM
    rw [h75]
    refine Prod.ext rfl (Prod.ext rfl (tr_ext fun j hj => ?_))
    unfold codM
    rw [(h73 j (by omega)).1, (h73 j (by omega)).2]
def Mo_family_pre (k : Nat) (σ : Hp) : Prop := k = 67 ∧ MP σ ∧ ∀ x, RdA (tpM σ) (.inr x) → FV (famO x.1)
def Mo_family_post (_k : Nat) (σ : Hp) (r : Int) (σ' : Hp) : Prop := MQo σ σ' ∧ ∀ d, ∃ d', s_family (mA d σ) r (mA d' σ')
def Mo_family_I39 (_k : Nat) (σ0 : Hp) (n : Nat) (v1 : Int) (σ : Hp) : Prop := ∃ f : Nat, v1 = f ∧ f ≤ 2 ∧ n = 3000 - 700 * f ∧ ∃ x, FB σ0 σ x ∧ ∀ w, w < f → CPd σ w x.1
def Mo_family_I75 (_k : Nat) (σ0 : Hp) (n : Nat) (v1 v2 : Int) (σ : Hp) : Prop := ∃ f i : Nat, v1 = f ∧ v2 = (320 * f + i : Nat) ∧ f < 2 ∧ n = 2999 - 700 * f - i ∧ ∃ x, FB σ0 σ x ∧ (∀ w, w < f → CPd σ w x.1) ∧ i ≤ (frO (fq f x.1)).2.1 ∧ (σ 75 f = ((frO (fq f x.1)).2.1 : Int)) ∧ (∀ j, j < i → σ 73 (320 * f + j) = σ 70 (320 * f + j) ∧ σ 74 (320 * f + j) = σ 71 (320 * f + j))
def cpH (σ : Hp) (i : Nat) : Prop := ∀ j, j < i → σ 85 j = σ 80 j ∧ σ 86 j = σ 81 j ∧ σ 87 j = σ 82 j ∧ σ 88 j = σ 83 j ∧ σ 89 j = σ 84 j
def Mo_family_I129 (_k : Nat) (σ0 : Hp) (n : Nat) (v1 : Int) (σ : Hp) : Prop := ∃ i : Nat, v1 = i ∧ n = 100 - i ∧ ∃ x, FB σ0 σ x ∧ CPd σ 0 x.1 ∧ CPd σ 1 x.1 ∧ i ≤ pN x.1 ∧ cpH σ i
def Mo_family_I249 (_k : Nat) (σ0 : Hp) (n : Nat) (v1 : Int) (σ : Hp) : Prop := ∃ b : Nat, v1 = b ∧ b ≤ 3 ∧ n = 3 - b ∧ ∃ x, FB σ0 σ x ∧ MF σ ∧ famM (drw x.1) σ = famO x.1 ∧ nowM σ = bgn (famO x.1) (-1) 0 ∧ (σ 67 50 = 0 ∧ σ 67 51 = 0 ∧ σ 67 64 = 0 ∧ σ 67 56 = 0) ∧ ∀ i, i < b → σ 106 i = 0
def Mo_family_bk : List (Nat × List Item) := [(0, [(.aload_n 0, 1, [], []), (.invokevirtual 352, 3, [0], []), (.aload_n 0, 1, [], []), (.getfield 179, 3, [9, 2, 0, 0, 0, 0], []), (.ifCond .le 5, 3, [13], []), (.iconst (-1), 1, [], []), (.ireturn, 1, [], [])]),
  (13, [(.aload_n 0, 1, [], []), (.aload_n 0, 1, [], []), (.getfield 238, 3, [9, 37, 0, 0, 0, 0], []), (.putfield 304, 3, [9, 42, 0, 0, 0, 0], []), (.aload_n 0, 1, [], []), (.aload_n 0, 1, [], []), (.getfield 340, 3, [9, 39, 0, 0, 0, 0], []), (.putfield 82, 3, [9, 43, 0, 0, 0, 0], []), (.aload_n 0, 1, [], []), (.aload_n 0, 1, [], []), (.getfield 264, 3, [9, 22, 0, 0, 0, 0], []), (.putfield 355, 3, [9, 23, 0, 0, 0, 0], []), (.iconst 0, 1, [], []), (.istore_n 1, 1, [], [])]),
  (39, [(.iload_n 1, 1, [], []), (.iconst 2, 1, [], []), (.if_icmp .ge 86, 3, [127], []), (.aload_n 0, 1, [], []), (.getfield 36, 3, [9, 16, 4, 8, 1, 2], []), (.iload_n 1, 1, [], []), (.aload_n 0, 1, [], []), (.getfield 45, 3, [9, 19, 4, 11, 3, 2], []), (.iload_n 1, 1, [], []), (.baload, 1, [], []), (.ifCond .eq 12, 3, [67], []), (.aload_n 0, 1, [], []), (.getfield 27, 3, [9, 13, 4, 5, 1, 2], []), (.iload_n 1, 1, [], []), (.iaload, 1, [], []), (.goto 4, 3, [68], [])]),
  (67, [(.iconst 0, 1, [], [])]),
  (68, [(.iastore, 1, [], []), (.sipush 320, 3, [], []), (.iload_n 1, 1, [], []), (.imul, 1, [], []), (.istore_n 2, 1, [], [])]),
  (75, [(.iload_n 2, 1, [], []), (.sipush 320, 3, [], []), (.iload_n 1, 1, [], []), (.imul, 1, [], []), (.aload_n 0, 1, [], []), (.getfield 36, 3, [9, 16, 4, 8, 1, 2], []), (.iload_n 1, 1, [], []), (.iaload, 1, [], []), (.iadd, 1, [], []), (.if_icmp .ge 33, 3, [121], []), (.aload_n 0, 1, [], []), (.getfield 30, 3, [9, 14, 4, 6, 1, 640], []), (.iload_n 2, 1, [], []), (.aload_n 0, 1, [], []), (.getfield 21, 3, [9, 11, 4, 3, 1, 640], []), (.iload_n 2, 1, [], []), (.iaload, 1, [], []), (.iastore, 1, [], []), (.aload_n 0, 1, [], []), (.getfield 33, 3, [9, 15, 4, 7, 1, 640], []), (.iload_n 2, 1, [], []), (.aload_n 0, 1, [], []), (.getfield 24, 3, [9, 12, 4, 4, 1, 640], []), (.iload_n 2, 1, [], []), (.iaload, 1, [], []), (.iastore, 1, [], []), (.iinc 2 1, 3, [], []), (.goto (-43), 3, [75], [])]),
  (121, [(.iinc 1 1, 3, [], []), (.goto (-85), 3, [39], [])]),
  (127, [(.iconst 0, 1, [], []), (.istore_n 1, 1, [], [])]),
  (129, [(.iload_n 1, 1, [], []), (.aload_n 0, 1, [], []), (.getfield 304, 3, [9, 42, 0, 0, 0, 0], []), (.if_icmp .ge 69, 3, [203], []), (.aload_n 0, 1, [], []), (.getfield 67, 3, [9, 32, 4, 18, 1, 6], []), (.iload_n 1, 1, [], []), (.aload_n 0, 1, [], []), (.getfield 52, 3, [9, 27, 4, 13, 1, 6], []), (.iload_n 1, 1, [], []), (.iaload, 1, [], []), (.iastore, 1, [], []), (.aload_n 0, 1, [], []), (.getfield 70, 3, [9, 33, 4, 19, 1, 6], []), (.iload_n 1, 1, [], []), (.aload_n 0, 1, [], []), (.getfield 55, 3, [9, 28, 4, 14, 1, 6], []), (.iload_n 1, 1, [], []), (.iaload, 1, [], []), (.iastore, 1, [], []), (.aload_n 0, 1, [], []), (.getfield 73, 3, [9, 34, 4, 20, 1, 6], []), (.iload_n 1, 1, [], []), (.aload_n 0, 1, [], []), (.getfield 58, 3, [9, 29, 4, 15, 1, 6], []), (.iload_n 1, 1, [], []), (.iaload, 1, [], []), (.iastore, 1, [], []), (.aload_n 0, 1, [], []), (.getfield 76, 3, [9, 35, 4, 21, 1, 6], []), (.iload_n 1, 1, [], []), (.aload_n 0, 1, [], []), (.getfield 61, 3, [9, 30, 4, 16, 1, 6], []), (.iload_n 1, 1, [], []), (.iaload, 1, [], []), (.iastore, 1, [], []), (.aload_n 0, 1, [], []), (.getfield 79, 3, [9, 36, 4, 22, 1, 6], []), (.iload_n 1, 1, [], []), (.aload_n 0, 1, [], []), (.getfield 64, 3, [9, 31, 4, 17, 1, 6], []), (.iload_n 1, 1, [], []), (.iaload, 1, [], []), (.iastore, 1, [], []), (.iinc 1 1, 3, [], []), (.goto (-71), 3, [129], [])]),
  (203, [(.aload_n 0, 1, [], []), (.invokevirtual 358, 3, [1], []), (.aload_n 0, 1, [], []), (.getfield 88, 3, [9, 47, 4, 24, 1, 16], []), (.bipush 15, 2, [], []), (.aload_n 0, 1, [], []), (.getfield 346, 3, [9, 40, 0, 0, 0, 0], []), (.iastore, 1, [], []), (.aload_n 0, 1, [], []), (.iconst (-1), 1, [], []), (.invokevirtual 361, 3, [2], []), (.aload_n 0, 1, [], []), (.invokevirtual 364, 3, [3], []), (.aload_n 0, 1, [], []), (.iconst 0, 1, [], []), (.putfield 367, 3, [9, 50, 0, 0, 0, 0], []), (.aload_n 0, 1, [], []), (.iconst 0, 1, [], []), (.putfield 370, 3, [9, 51, 0, 0, 0, 0], []), (.aload_n 0, 1, [], []), (.iconst 0, 1, [], []), (.putfield 373, 3, [9, 64, 0, 0, 0, 0], []), (.aload_n 0, 1, [], []), (.iconst 0, 1, [], []), (.putfield 376, 3, [9, 56, 0, 0, 0, 0], []), (.iconst 0, 1, [], []), (.istore_n 1, 1, [], [])]),
  (249, [(.iload_n 1, 1, [], []), (.iconst 3, 1, [], []), (.if_icmp .ge 16, 3, [267], []), (.aload_n 0, 1, [], []), (.getfield 133, 3, [9, 68, 4, 39, 3, 3], []), (.iload_n 1, 1, [], []), (.iconst 0, 1, [], []), (.bastore, 1, [], []), (.iinc 1 1, 3, [], []), (.goto (-15), 3, [249], [])]),
  (267, [(.aload_n 0, 1, [], []), (.getfield 304, 3, [9, 42, 0, 0, 0, 0], []), (.ireturn, 1, [], [])])]
def Mo_family_cl : List (Instr × Nat) := [(.invokevirtual 352, 0), (.invokevirtual 358, 1), (.invokevirtual 361, 2), (.invokevirtual 364, 3)]
set_option maxRecDepth 20000 in
theorem Mo_family_ck : Mo_family_bk.all (fun b => ax_chB 9 3 cX9_family Mo_family_cl b.1 b.2) = true := by decide +kernel
def Mo_family_cs : Ct := (1, 10, 1, (0, 0), fun as σ => (match as with
    | [.inr (.inr (.inl (k, 0, 9)))] => Mo_family_pre k σ
    | _ => False), fun as σ r σ' => (match as with
    | [.inr (.inr (.inl (k, 0, 9)))] => Mo_family_post k σ r σ'
    | _ => False))
theorem Mo_family_w : ∀ w ∈ ([.instanceMethod yX9_family, .selects yX9_family.cls yX9_family yX9_family, .initialized yX9_family.cls, .code yX9_family cX9_family 3 (some .int)] : List Cond), w ∈ ax_tb := ax_w4 (ax_m6 138 (by decide +kernel) rfl) (ax_m6 139 (by decide +kernel) rfl) (ax_m1 10 (by decide +kernel) rfl) (ax_m6 140 (by decide +kernel) rfl)
theorem Mo_family_ds : yX9_family.cls ≠ "java/lang/invoke/MethodHandle" ∧ yX9_family.cls ≠ "java/lang/invoke/VarHandle" ∧ (parseMethodDescriptor yX9_family.desc).map (fun d => d.parameters.length) = some 0 := by decide +kernel
def Mo_family_vc : Prop := ∀ (k : Nat) (σ : Hp), ax_H σ → Mo_family_pre k σ →
  Mo_readAll_pre k σ ∧
  ∀ σ1 : Hp, Mo_readAll_post k σ σ1 →
  (σ1 k 2 ≤ 0 →
    ∀ σ2 : Hp, σ2 = hp σ1 k 42 (σ1 k 37) →
    ∀ σ3 : Hp, σ3 = hp σ2 k 43 (σ2 k 39) →
    ∀ σ4 : Hp, σ4 = hp σ3 k 23 (σ3 k 22) →
    ∃ n' : Nat, k = k ∧ Mo_family_I39 k σ n' 0 σ4) ∧
  (¬ (σ1 k 2 ≤ 0) →
    Mo_family_post k σ (-1) σ1)
def Mo_family_vc39 : Prop := ∀ (k : Nat) (σ0 : Hp), Mo_family_pre k σ0 → ∀ (n : Nat) (v1 : Int) (σ : Hp), ax_H σ → Mo_family_I39 k σ0 n v1 σ →
  (2 ≤ v1 →
    ∃ n' : Nat, n' < n ∧ k = k ∧ Mo_family_I129 k σ0 n' 0 σ) ∧
  (¬ (2 ≤ v1) →
    (0 ≤ v1 ∧ v1 < 2) ∧
    (σ (k + 11) v1.toNat = 0 →
      (0 ≤ v1 ∧ v1 < 2) ∧
      ∀ σ1 : Hp, σ1 = hp σ (k + 8) v1.toNat 0 →
      ∃ n' : Nat, n' < n ∧ k = k ∧ Mo_family_I75 k σ0 n' v1 (wr (320 * v1)) σ1) ∧
    (¬ (σ (k + 11) v1.toNat = 0) →
      (0 ≤ v1 ∧ v1 < 2) ∧
      (0 ≤ v1 ∧ v1 < 2) ∧
      ∀ σ2 : Hp, σ2 = hp σ (k + 8) v1.toNat (σ (k + 5) v1.toNat) →
      ∃ n' : Nat, n' < n ∧ k = k ∧ Mo_family_I75 k σ0 n' v1 (wr (320 * v1)) σ2))
def Mo_family_vc75 : Prop := ∀ (k : Nat) (σ0 : Hp), Mo_family_pre k σ0 → ∀ (n : Nat) (v1 : Int) (v2 : Int) (σ : Hp), ax_H σ → Mo_family_I75 k σ0 n v1 v2 σ →
  (0 ≤ v1 ∧ v1 < 2) ∧
  (wr ((wr (320 * v1)) + (σ (k + 8) v1.toNat)) ≤ v2 →
    ∃ n' : Nat, n' < n ∧ k = k ∧ Mo_family_I39 k σ0 n' (wr (v1 + 1)) σ) ∧
  (¬ (wr ((wr (320 * v1)) + (σ (k + 8) v1.toNat)) ≤ v2) →
    (0 ≤ v2 ∧ v2 < 640) ∧
    (0 ≤ v2 ∧ v2 < 640) ∧
    ∀ σ1 : Hp, σ1 = hp σ (k + 6) v2.toNat (σ (k + 3) v2.toNat) →
    (0 ≤ v2 ∧ v2 < 640) ∧
    (0 ≤ v2 ∧ v2 < 640) ∧
    ∀ σ2 : Hp, σ2 = hp σ1 (k + 7) v2.toNat (σ1 (k + 4) v2.toNat) →
    ∃ n' : Nat, n' < n ∧ k = k ∧ Mo_family_I75 k σ0 n' v1 (wr (v2 + 1)) σ2)
def Mo_family_vc129 : Prop := ∀ (k : Nat) (σ0 : Hp), Mo_family_pre k σ0 → ∀ (n : Nat) (v1 : Int) (σ : Hp), ax_H σ → Mo_family_I129 k σ0 n v1 σ →
  (σ k 42 ≤ v1 →
    Mo_begin_pre k σ ∧
    ∀ σ1 : Hp, Mo_begin_post k σ σ1 →
    (0 ≤ (15 : Int) ∧ (15 : Int) < 16) ∧
    ∀ σ2 : Hp, σ2 = hp σ1 (k + 24) 15 (σ1 k 40) →
    Mo_goHair_pre k (-1) σ2 ∧
    ∀ σ3 : Hp, Mo_goHair_post k (-1) σ2 σ3 →
    Mo_keepAir_pre k σ3 ∧
    ∀ σ4 : Hp, Mo_keepAir_post k σ3 σ4 →
    ∀ σ5 : Hp, σ5 = hp σ4 k 50 0 →
    ∀ σ6 : Hp, σ6 = hp σ5 k 51 0 →
    ∀ σ7 : Hp, σ7 = hp σ6 k 64 0 →
    ∀ σ8 : Hp, σ8 = hp σ7 k 56 0 →
    ∃ n' : Nat, n' < n ∧ k = k ∧ Mo_family_I249 k σ0 n' 0 σ8) ∧
  (¬ (σ k 42 ≤ v1) →
    (0 ≤ v1 ∧ v1 < 6) ∧
    (0 ≤ v1 ∧ v1 < 6) ∧
    ∀ σ9 : Hp, σ9 = hp σ (k + 18) v1.toNat (σ (k + 13) v1.toNat) →
    (0 ≤ v1 ∧ v1 < 6) ∧
    (0 ≤ v1 ∧ v1 < 6) ∧
    ∀ σ10 : Hp, σ10 = hp σ9 (k + 19) v1.toNat (σ9 (k + 14) v1.toNat) →
    (0 ≤ v1 ∧ v1 < 6) ∧
    (0 ≤ v1 ∧ v1 < 6) ∧
    ∀ σ11 : Hp, σ11 = hp σ10 (k + 20) v1.toNat (σ10 (k + 15) v1.toNat) →
    (0 ≤ v1 ∧ v1 < 6) ∧
    (0 ≤ v1 ∧ v1 < 6) ∧
    ∀ σ12 : Hp, σ12 = hp σ11 (k + 21) v1.toNat (σ11 (k + 16) v1.toNat) →
    (0 ≤ v1 ∧ v1 < 6) ∧
    (0 ≤ v1 ∧ v1 < 6) ∧
    ∀ σ13 : Hp, σ13 = hp σ12 (k + 22) v1.toNat (σ12 (k + 17) v1.toNat) →
    ∃ n' : Nat, n' < n ∧ k = k ∧ Mo_family_I129 k σ0 n' (wr (v1 + 1)) σ13)
def Mo_family_vc249 : Prop := ∀ (k : Nat) (σ0 : Hp), Mo_family_pre k σ0 → ∀ (n : Nat) (v1 : Int) (σ : Hp), ax_H σ → Mo_family_I249 k σ0 n v1 σ →
  (3 ≤ v1 →
    Mo_family_post k σ0 (σ k 42) σ) ∧
  (¬ (3 ≤ v1) →
    (0 ≤ v1 ∧ v1 < 3) ∧
    ((0 : Int) = 0 ∨ (0 : Int) = 1) ∧ ∀ σ1 : Hp, σ1 = hp σ (k + 39) v1.toNat 0 →
    ∃ n' : Nat, n' < n ∧ k = k ∧ Mo_family_I249 k σ0 n' (wr (v1 + 1)) σ1)
theorem fr_len {σ : Hp} {w : Nat} {f : Fml} (h : FRs σ w f) : (frO f).2.1 ≤ 270 ∧ (σ 78 w = 0 → (frO f).2.1 = 0) ∧ (¬ σ 78 w = 0 → σ 72 w = ((frO f).2.1 : Int) ∧ 1 ≤ (frO f).2.1) := by
  cases f with
  | none => exact ⟨Nat.zero_le _, fun _ => rfl, fun z => absurd h z⟩
  | some v => exact ⟨h.2.2.1.2, fun z => (by rw [h.1] at z; cases z), fun _ => ⟨h.2.1, h.2.2.1.1⟩⟩
theorem PM.f {σ : Hp} {q : PS} (h : PM σ q) {w : Nat} (hw : w < 2) : FRs σ w (fq w q) := by
  rcases (show w = 0 ∨ w = 1 by omega) with rfl | rfl
  · exact h.2.2.2.1
  · exact h.2.2.2.2.1
/-- what was copied is the formula -/
theorem cp_done {σ σ1 : Hp} {w : Nat} {q : PS} (hP : PM σ1 q) (hw : w < 2) (h75 : σ 75 w = ((frO (fq w q)).2.1 : Int)) (hc : ∀ j, j < (frO (fq w q)).2.1 → σ 73 (320 * w + j) = σ1 70 (320 * w + j) ∧ σ 74 (320 * w + j) = σ1 71 (320 * w + j)) : CPd σ w q := by
  have hF := hP.f hw
  generalize hf : fq w q = f at *
  cases f with
  | none =>
    have e : σ 75 w = 0 := h75
    refine ⟨⟨by rw [e]; exact ⟨by decide, by decide⟩, fun i hi => by rw [e] at hi; omega⟩, ?_⟩
    rw [hf]
    unfold frM
    rw [e]
    refine Prod.ext rfl (Prod.ext rfl ?_)
    funext j
    rfl
  | some v =>
    obtain ⟨f1, f2, f3, f4, f5, f6⟩ := hF
    have e : σ 75 w = (v.2.length : Int) := h75
    have hc' : ∀ j, j < v.2.length → σ 73 (320 * w + j) = σ1 70 (320 * w + j) ∧ σ 74 (320 * w + j) = σ1 71 (320 * w + j) := hc
    refine ⟨⟨by rw [e]; omega, fun i hi => ?_⟩, ?_⟩
    · rw [e] at hi
      rw [(hc' i (by omega)).1, (hc' i (by omega)).2]
      exact f5 i (by omega)
    · rw [hf]
      unfold frM
      rw [e, Int.toNat_natCast, if_neg (by omega)]
      refine Prod.ext rfl (Prod.ext rfl ?_)
      funext j
      show tr v.2.length (codM σ w) j = v.2.getD j 0
      by_cases hj : j < v.2.length
      · rw [tr_in hj]
        unfold codM
        rw [(hc' j hj).1, (hc' j hj).2, f4, ems_at _ _ _ _ _ hj]
      · rw [tr_out (by omega), List.getD_eq_getElem?_getD, List.getElem?_eq_none (by omega)]
        rfl
theorem Mo_family_p : Mo_family_vc := by
  intro k σ hH hp0
  obtain ⟨rfl, hP, hF⟩ := hp0
  have hX := hP.1
  refine ⟨⟨rfl, hX.2.1, hX.2.2.1⟩, fun σ1 g => ?_⟩
  obtain ⟨g1, g2, o, g3, g4⟩ := g
  cases o with
  | inl x =>
    obtain ⟨f1, f2, f3⟩ := g4
    refine ⟨fun h => by omega, fun h => ?_⟩
    have q67 : ∀ j, j = 23 ∨ (42 ≤ j ∧ ¬ j = 44 ∧ ¬ j = 45) → σ1 67 j = σ 67 j := g1.2
    have qc : ∀ c, (c < 67 ∨ c = 68 ∨ (73 ≤ c ∧ c ≤ 75) ∨ 85 ≤ c) → σ1 c = σ c := fun c hc => g1.1 c (by simp [rcs]; omega)
    have M := mA_gen (σ' := σ1) hX (q67 23 (by omega)) (q67 42 (by omega)) (q67 43 (by omega)) (fun c hc => qc c (by omega)) (by rw [g2]; exact ⟨by decide, by decide⟩) (by rw [qc 68 (by omega)]; exact hX.2.2.1) (by rw [q67 50 (by omega), q67 51 (by omega)]; exact hX.2.2.2.1) (by rw [q67 56 (by omega)]; exact hX.2.2.2.2.1) (by rw [q67 64 (by omega)]; exact hX.2.2.2.2.2)
    refine ⟨M.1, fun d => ⟨d, .inl x, g3, rfl, ?_⟩⟩
    rw [M.2 d]
    have eB : tpM σ1 = (zr, 0) := by
      unfold tpM
      rw [g2]
      exact Prod.ext (by funext j; rfl) rfl
    have eX : bxM σ1 = bxM σ := by funext i; unfold bxM; rw [qc 106 (by omega), qc 107 (by omega)]
    rw [eB, f2, f3, eX]
    have e1 : nowM σ1 = nowM σ := by show stR (σ1 90) 0 = stR (σ 90) 0; rw [qc 90 (by omega)]
    have e2 : hstM σ1 = hstM σ := by unfold hstM; rw [q67 50 (by omega), q67 51 (by omega), qc 93 (by omega)]
    have e3 : sgM σ1 = sgM σ := by unfold sgM; rw [q67 64 (by omega), qc 99 (by omega), qc 100 (by omega), qc 101 (by omega), qc 102 (by omega), qc 103 (by omega)]
    have e4 : lsM σ1 = lsM σ := by unfold lsM; rw [q67 56 (by omega), qc 97 (by omega)]
    rw [e1, e2, e3, e4, q67 65 (by omega)]
    rfl
  | inr x =>
    obtain ⟨f1, f2, f3⟩ := g4
    refine ⟨fun h => ?_, fun h => by omega⟩
    intro σ2 hs2 σ3 hs3 σ4 hs4
    have e39 : σ2 67 39 = σ1 67 39 := by rw [hs2, hp_r2 (by decide)]
    have e22 : σ3 67 22 = σ1 67 22 := by rw [hs3, hp_r2 (by decide), hs2, hp_r2 (by decide)]
    rw [e39] at hs3
    rw [e22] at hs4
    have E : σ4 = hp (hp (hp σ1 67 42 (σ1 67 37)) 67 43 (σ1 67 39)) 67 23 (σ1 67 22) := by rw [hs4, hs3, hs2]
    refine ⟨3000, rfl, 0, rfl, by decide, rfl, x, ⟨g3, σ1, g1, ⟨g2, f1, f2⟩, f3, fun c hc => by rw [E, hp_ne (by omega), hp_ne (by omega), hp_ne (by omega)], fun j a b c _ _ _ _ => by rw [E, hp_r2 (fun z => a z.2), hp_r2 (fun z => c z.2), hp_r2 (fun z => b z.2)], ?_, ?_, ?_⟩, fun w hw => absurd hw (Nat.not_lt_zero w)⟩
    · rw [E, hp_r2 (by decide), hp_r2 (by decide), hp_r1]; exact f3.2.1.1
    · rw [E, hp_r2 (by decide), hp_r1]; exact f3.2.2.1.2.1
    · rw [E, hp_r1]; exact f3.2.2.2.2.2
theorem Mo_family_p39 : Mo_family_vc39 := by
  intro k σ0 hp0 n v1 σ hH hI
  obtain ⟨rfl, hP, hF⟩ := hp0
  obtain ⟨f, rfl, hf, rfl, x, hB, hc⟩ := hI
  refine ⟨fun h => ⟨100, by omega, rfl, 0, rfl, rfl, x, hB, hc 0 (by omega), hc 1 (by omega), Nat.zero_le _, fun j hj => absurd hj (Nat.not_lt_zero j)⟩, fun h => ⟨⟨by omega, by omega⟩, ?_⟩⟩
  have ew : wr (320 * (f : Int)) = ((320 * f + 0 : Nat) : Int) := by rw [wr_id (by omega) (by omega)]; omega
  rw [ew, Int.toNat_natCast]
  obtain ⟨g0, σ1, g1, g2, hPM, h4, g5⟩ := hB
  have hB : FB σ0 σ x := ⟨g0, σ1, g1, g2, hPM, h4, g5⟩
  have hFl := fr_len (hPM.f (w := f) (by omega))
  have e78 : σ (67 + 11) f = σ1 78 f := by show σ 78 f = _; rw [h4 78 (by omega)]
  have e72 : σ (67 + 5) f = σ1 72 f := by show σ 72 f = _; rw [h4 72 (by omega)]
  have go : ∀ (v : Int) (σ2 : Hp), σ2 = hp σ (67 + 8) f v → v = ((frO (fq f x.1)).2.1 : Int) → ∃ n' : Nat, n' < 3000 - 700 * f ∧ (67 : Nat) = 67 ∧ Mo_family_I75 67 σ0 n' (f : Int) ((320 * f + 0 : Nat) : Int) σ2 := by
    intro v σ2 hs hv
    have hs : σ2 = hp σ 75 f v := hs
    refine ⟨2999 - 700 * f - 0, by omega, rfl, f, 0, rfl, rfl, by omega, rfl, x, by rw [hs]; exact hB.wr (by omega), fun w hw => ?_, Nat.zero_le _, by rw [hs, hp_r1]; exact hv, fun j hj => absurd hj (Nat.not_lt_zero j)⟩
    exact (hc w hw).eq (by rw [hs, hp_r2 (fun z => by omega)]) (fun i _ => by rw [hs, hp_ne (by decide), hp_ne (by decide)]; exact ⟨rfl, rfl⟩)
  rw [e78, e72]
  exact ⟨fun h2 => ⟨⟨by omega, by omega⟩, fun σ2 hs => go 0 σ2 hs (by rw [hFl.2.1 h2]; rfl)⟩, fun h2 => ⟨⟨by omega, by omega⟩, ⟨by omega, by omega⟩, fun σ2 hs => go _ σ2 hs (hFl.2.2 h2).1⟩⟩
theorem Mo_family_p75 : Mo_family_vc75 := by
  intro k σ0 hp0 n v1 v2 σ hH hI
  obtain ⟨rfl, hP, hF⟩ := hp0
  obtain ⟨f, i, rfl, rfl, hf, rfl, x, hB, hc, hi, h75, hcp⟩ := hI
  obtain ⟨g0, σ1, g1, g2, hPM, h4, g5⟩ := hB
  have hB : FB σ0 σ x := ⟨g0, σ1, g1, g2, hPM, h4, g5⟩
  have hFl := fr_len (hPM.f (w := f) hf)
  have e75 : σ (67 + 8) f = ((frO (fq f x.1)).2.1 : Int) := h75
  rw [Int.toNat_natCast, e75, wr_id (x := 320 * (f : Int)) (by omega) (by omega), wr_id (by omega) (by omega), wr1 (i := (f : Int)) (by omega) (by omega), wr1 (by omega) (by omega), Int.toNat_natCast]
  refine ⟨⟨by omega, by omega⟩, fun h => ⟨3000 - 700 * (f + 1), by omega, rfl, f + 1, by simp, by omega, rfl, x, hB, fun w hw => ?_⟩, fun h => ⟨⟨by omega, by omega⟩, ⟨by omega, by omega⟩, ?_⟩⟩
  · by_cases e : w = f
    · subst e
      refine cp_done hPM hf h75 (fun j hj => ?_)
      obtain ⟨a, b⟩ := hcp j (by omega)
      rw [a, b, h4 70 (by omega), h4 71 (by omega)]
      exact ⟨rfl, rfl⟩
    · exact hc w (by omega)
  · intro σ2 hs2
    have hs2 : σ2 = hp σ 73 (320 * f + i) (σ 70 (320 * f + i)) := hs2
    refine ⟨⟨by omega, by omega⟩, ⟨by omega, by omega⟩, ?_⟩
    intro σ3 hs3
    have e71 : σ2 (67 + 4) = σ 71 := by rw [hs2]; exact hp_ne (by decide)
    rw [e71] at hs3
    have hs3 : σ3 = hp σ2 74 (320 * f + i) (σ 71 (320 * f + i)) := hs3
    have c73 : ∀ j, σ3 73 j = if j = 320 * f + i then σ 70 (320 * f + i) else σ 73 j := fun j => by
      rw [hs3, hp_ne (by decide), hs2]
      by_cases e : j = 320 * f + i
      · rw [if_pos e, e, hp_r1]
      · rw [if_neg e, hp_r2 (fun z => e z.2)]
    have c74 : ∀ j, σ3 74 j = if j = 320 * f + i then σ 71 (320 * f + i) else σ 74 j := fun j => by
      rw [hs3]
      by_cases e : j = 320 * f + i
      · rw [if_pos e, e, hp_r1]
      · rw [if_neg e, hp_r2 (fun z => e z.2), hs2, hp_ne (by decide)]
    have cc : ∀ c, ¬ c = 73 → ¬ c = 74 → σ3 c = σ c := fun c a b => by rw [hs3, hp_ne b, hs2, hp_ne a]
    refine ⟨2999 - 700 * f - (i + 1), by omega, rfl, f, i + 1, rfl, by simp; omega, hf, rfl, x, by rw [hs3, hs2]; exact (hB.wr (by omega)).wr (by omega), fun w hw => ?_, by omega, by rw [cc 75 (by decide) (by decide)]; exact h75, fun j hj => ?_⟩
    · exact (hc w hw).eq (by rw [cc 75 (by decide) (by decide)]) (fun l hl => by rw [c73, if_neg (by omega), c74, if_neg (by omega)]; exact ⟨rfl, rfl⟩)
    · rw [c73, c74, cc 70 (by decide) (by decide), cc 71 (by decide) (by decide)]
      by_cases e : j = i
      · rw [e, if_pos rfl, if_pos rfl]; exact ⟨rfl, rfl⟩
      · rw [if_neg (by omega), if_neg (by omega)]; exact hcp j (by omega)
theorem Mo_family_p129 : Mo_family_vc129 := by
  intro k σ0 hp0 n v1 σ hH hI
  obtain ⟨rfl, hP, hF⟩ := hp0
  obtain ⟨i, rfl, rfl, x, hB, c0, c1, hi, hc⟩ := hI
  obtain ⟨g0, σ1, g1, g2, hPM, h4, h5, h42, h43, h23⟩ := hB
  have hB : FB σ0 σ x := ⟨g0, σ1, g1, g2, hPM, h4, h5, h42, h43, h23⟩
  have h6 := hPM.1.1.1
  rw [h42]
  refine ⟨fun h => ?_, fun h => ?_⟩
  · have ei : i = pN x.1 := by omega
    have hFV := hF x g0
    have e42 : (σ 67 42).toNat = pN x.1 := by rw [h42]; simp
    have row : ∀ (c c' : Nat) (f : Nat → Int), (∀ j, j < pN x.1 → σ c j = f j) → (∀ j, pN x.1 ≤ j → f j = 0) → tr (σ 67 42).toNat (σ c) = f := by
      intro c c' f h1 h2
      funext j
      rw [e42]
      by_cases hj : j < pN x.1
      · rw [tr_in hj]; exact h1 j hj
      · rw [tr_out (by omega)]; exact (h2 j (by omega)).symm
    have vals : ∀ j, j < pN x.1 → σ 85 j = pHo x.1 j ∧ σ 86 j = pCa x.1 j ∧ σ 87 j = pOd x.1 j ∧ σ 88 j = pAm x.1 j ∧ σ 89 j = pKn x.1 j := fun j hj => by
      obtain ⟨a1, a2, a3, a4, a5⟩ := hc j (by omega)
      obtain ⟨b1, b2, b3, b4, b5, b6⟩ := hPM.2.1.2.1 j hj
      rw [a1, a2, a3, a4, a5, h4 80 (by omega), h4 81 (by omega), h4 82 (by omega), h4 83 (by omega), h4 84 (by omega)]
      exact ⟨b2, b3, b4, b5, b6⟩
    have hz := hPM.1.2.2.2.2.1
    have eF : famM (drw x.1) σ = famO x.1 := by
      unfold famM famO
      rw [row 85 0 (pHo x.1) (fun j hj => (vals j hj).1) (fun j hj => (hz j hj).2.1), row 86 0 (pCa x.1) (fun j hj => (vals j hj).2.1) (fun j hj => (hz j hj).2.2.1), row 89 0 (pKn x.1) (fun j hj => (vals j hj).2.2.2.2) (fun j hj => (hz j hj).2.2.2.1), row 87 0 (pOd x.1) (fun j hj => (vals j hj).2.2.1) (fun j hj => (hz j hj).2.2.2.2.1), row 88 0 (pAm x.1) (fun j hj => (vals j hj).2.2.2.1) (fun j hj => (hz j hj).2.2.2.2.2), e42, h43, h23, c0.2, c1.2]
      rfl
    have hM : MF σ := ⟨by rw [h42]; omega, c0.1, c1.1, drw x.1, by rw [eF]; exact hFV⟩
    refine ⟨⟨rfl, by rw [h42]; omega, by rw [h42]; omega⟩, fun σb gb => ⟨⟨by decide, by decide⟩, ?_⟩⟩
    obtain ⟨b1, b2⟩ := gb
    intro σ2 hs2
    have hs2 : σ2 = hp σb 91 15 (σb 67 40) := hs2
    have f2 : Fr [91] σ σ2 := by rw [hs2]; exact Fr.hp b1 (by simp)
    have eb : σb 67 40 = drw x.1 := by
      rw [b1 67 (by decide), h5 40 (by decide) (by decide) (by decide) (by decide) (by decide) (by decide) (by decide)]
      exact hPM.2.2.1.2.2.2
    have a2 : ∀ j, j < 16 → σ2 91 j = if j = 15 then drw x.1 else if j < pN x.1 then σ 86 j else if 6 ≤ j ∧ j < 6 + pN x.1 then σ 89 (j - 6) else if j = 12 then -1 else 0 := fun j hj => by
      rw [hs2]
      by_cases e : j = 15
      · rw [e, hp_r1, if_pos rfl]; exact eb
      · rw [hp_r2 (fun z => e z.2), if_neg e, b2 j hj, e42]
    have K2 := hM.keep (σ' := σ2) (by rw [f2 67 (by decide)]) (by rw [f2 67 (by decide)]) (by rw [f2 67 (by decide)]) (fun c hc' => f2 c (by simp; omega))
    have e67 : σ2 67 = σ 67 := f2 67 (by decide)
    have eA : airM σ2 = bgn0 (famO x.1) (-1) 0 := by
      show stR (σ2 91) 0 = _
      unfold stR bgn0
      refine Prod.ext ?_ (Prod.ext ?_ ?_)
      · refine tr_ext (fun j hj => ?_)
        show σ2 91 (0 + j) = if ((j : Nat) : Int) = -1 then 0 else pCa x.1 j
        rw [Nat.zero_add, if_neg (by omega), a2 j (by omega), if_neg (by omega)]
        by_cases z : j < pN x.1
        · rw [if_pos z]; exact (vals j z).2.1
        · rw [if_neg z, if_neg (by omega), if_neg (by omega)]; exact (hz j (by omega)).2.2.1.symm
      · funext j
        show tr 6 (fun j => σ2 91 (0 + 6 + j)) j = pKn x.1 j
        by_cases hj : j < 6
        · rw [tr_in hj, a2 (0 + 6 + j) (by omega), if_neg (by omega), if_neg (by omega)]
          by_cases z : j < pN x.1
          · rw [if_pos (by omega), show 0 + 6 + j - 6 = j by omega]; exact (vals j z).2.2.2.2
          · rw [if_neg (by omega), if_neg (by omega)]; exact (hz j (by omega)).2.2.2.1.symm
        · rw [tr_out (by omega)]; exact (hz j (by omega)).2.2.2.1.symm
      · show (σ2 91 (0 + 12), σ2 91 (0 + 14), σ2 91 (0 + 15), σ2 91 (0 + 13)) = (-1, 0, fDra (famO x.1), 0)
        rw [a2 (0 + 12) (by decide), a2 (0 + 14) (by decide), a2 (0 + 15) (by decide), a2 (0 + 13) (by decide), if_neg (by decide), if_neg (by omega), if_neg (by omega), if_pos rfl, if_neg (by decide), if_neg (by omega), if_neg (by omega), if_neg (by decide), if_pos rfl, if_neg (by decide), if_neg (by omega), if_neg (by omega), if_neg (by decide)]
        rfl
    have OK := bgn_OKS hFV
    have hAP : AP σ2 := by
      refine ⟨K2.1, ?_, ?_⟩
      · rw [eA]
        exact ⟨OK.1.1, OK.1.2.1, ⟨Int.le_refl 0, by show (0 : Int) ≤ 100000; decide⟩, OK.1.2.2.2⟩
      · rw [eA, e67, e42]
        exact ⟨⟨Int.le_refl (-1), by show (-1 : Int) < _; omega⟩, OK.2.1.2.1, OK.2.1.2.2⟩
    refine ⟨⟨rfl, hAP⟩, fun σ3 g3 => ⟨rfl, fun σ4 g4 => ?_⟩⟩
    obtain ⟨d1, d2, d3⟩ := g3
    obtain ⟨t1, t2⟩ := g4
    have eF2 : famM (drw x.1) σ2 = famO x.1 := by rw [K2.2]; exact eF
    have eN : nowM σ4 = bgn (famO x.1) (-1) 0 := by
      have h12 : σ3 91 12 = goes (famO x.1) (bgn0 (famO x.1) (-1) 0) (-1) := by rw [d3 (drw x.1), eF2, eA]
      have e1 : nowM σ4 = airM σ3 := by
        show stR (σ4 90) 0 = stR (σ3 91) 0
        unfold stR
        refine Prod.ext (tr_ext fun j hj => t2 _ (by omega)) (Prod.ext (tr_ext fun j hj => t2 _ (by omega)) ?_)
        show (σ4 90 12, σ4 90 14, σ4 90 15, σ4 90 13) = (σ3 91 12, σ3 91 14, σ3 91 15, σ3 91 13)
        rw [t2 12 (by decide), t2 14 (by decide), t2 15 (by decide), t2 13 (by decide)]
      have e2 : airM σ3 = ((airM σ2).1, (airM σ2).2.1, σ3 91 12, (airM σ2).2.2.2.1, (airM σ2).2.2.2.2.1, (airM σ2).2.2.2.2.2) := by
        show stR (σ3 91) 0 = _
        unfold stR
        refine Prod.ext (tr_ext fun j hj => d2 _ (by omega)) (Prod.ext (tr_ext fun j hj => d2 _ (by omega)) ?_)
        show (σ3 91 12, σ3 91 14, σ3 91 15, σ3 91 13) = (σ3 91 12, σ2 91 14, σ2 91 15, σ2 91 13)
        rw [d2 14 (by decide), d2 15 (by decide), d2 13 (by decide)]
      rw [e1, e2, eA, h12]
      rfl
    intro σ5 hs5 σ6 hs6 σ7 hs7 σ8 hs8
    have E : σ8 = hp (hp (hp (hp σ4 67 50 0) 67 51 0) 67 64 0) 67 56 0 := by rw [hs8, hs7, hs6, hs5]
    have f4 : Fr [77, 79, 90, 91] σ σ4 := ((f2.mono (by simp)).tr (d1.mono (by simp))).tr (t1.mono (by simp))
    have q67 : ∀ j, ¬ j = 50 → ¬ j = 51 → ¬ j = 64 → ¬ j = 56 → σ8 67 j = σ 67 j := fun j a b c d => by rw [E, hp_r2 (fun z => d z.2), hp_r2 (fun z => c z.2), hp_r2 (fun z => b z.2), hp_r2 (fun z => a z.2), f4 67 (by decide)]
    have qc : ∀ c, ¬ c = 67 → σ8 c = σ4 c := fun c a => by rw [E, hp_ne a, hp_ne a, hp_ne a, hp_ne a]
    have qs : ∀ c, ¬ c = 67 → ¬ c = 77 → ¬ c = 79 → ¬ c = 90 → ¬ c = 91 → σ8 c = σ c := fun c a b d e f => by rw [qc c a]; exact f4 c (by simp; exact ⟨b, d, e, f⟩)
    have K8 := hM.keep (σ' := σ8) (q67 42 (by decide) (by decide) (by decide) (by decide)) (q67 43 (by decide) (by decide) (by decide) (by decide)) (q67 23 (by decide) (by decide) (by decide) (by decide)) (fun c hc' => qs c (by omega) (by omega) (by omega) (by omega) (by omega))
    refine ⟨3, by omega, rfl, 0, rfl, by decide, rfl, x, ⟨g0, σ1, g1, g2, hPM, fun c hc' => by rw [qs c (by omega) (by omega) (by omega) (by omega) (by omega)]; exact h4 c hc', fun j a b c d e f g => by rw [q67 j d e g f]; exact h5 j a b c d e f g, by rw [q67 42 (by decide) (by decide) (by decide) (by decide)]; exact h42, by rw [q67 43 (by decide) (by decide) (by decide) (by decide)]; exact h43, by rw [q67 23 (by decide) (by decide) (by decide) (by decide)]; exact h23⟩, K8.1, by rw [K8.2]; exact eF, ?_, ⟨?_, ?_, ?_, ?_⟩, fun b hb => absurd hb (Nat.not_lt_zero b)⟩
    · rw [← eN]; show stR (σ8 90) 0 = stR (σ4 90) 0; rw [qc 90 (by decide)]
    · rw [E, hp_r2 (by decide), hp_r2 (by decide), hp_r2 (by decide), hp_r1]
    · rw [E, hp_r2 (by decide), hp_r2 (by decide), hp_r1]
    · rw [E, hp_r2 (by decide), hp_r1]
    · rw [E, hp_r1]
  · have hi' : i < pN x.1 := by omega
    rw [Int.toNat_natCast, wr1 (by omega) (by omega)]
    have rng : (0 : Int) ≤ (i : Int) ∧ (i : Int) < 6 := ⟨by omega, by omega⟩
    refine ⟨rng, rng, ?_⟩
    intro σ9 hs9
    have hs9 : σ9 = hp σ 85 i (σ 80 i) := hs9
    refine ⟨rng, rng, ?_⟩
    intro σ10 hs10
    have hs10 : σ10 = hp σ9 86 i (σ9 81 i) := hs10
    refine ⟨rng, rng, ?_⟩
    intro σ11 hs11
    have hs11 : σ11 = hp σ10 87 i (σ10 82 i) := hs11
    refine ⟨rng, rng, ?_⟩
    intro σ12 hs12
    have hs12 : σ12 = hp σ11 88 i (σ11 83 i) := hs12
    refine ⟨rng, rng, ?_⟩
    intro σ13 hs13
    have hs13 : σ13 = hp σ12 89 i (σ12 84 i) := hs13
    have E : σ13 = hp (hp (hp (hp (hp σ 85 i (σ 80 i)) 86 i (σ 81 i)) 87 i (σ 82 i)) 88 i (σ 83 i)) 89 i (σ 84 i) := by
      rw [hs13, hs12, hs11, hs10, hs9]
      simp only [hp_rd]
      rfl
    have cc : ∀ c, c < 85 → σ13 c = σ c := fun c h => by rw [E, hp_ne (by omega), hp_ne (by omega), hp_ne (by omega), hp_ne (by omega), hp_ne (by omega)]
    refine ⟨100 - (i + 1), by omega, rfl, i + 1, by simp, rfl, x, by rw [E]; exact ((((hB.wr (by omega)).wr (by omega)).wr (by omega)).wr (by omega)).wr (by omega), c0.eq (by rw [cc 75 (by decide)]) (fun l _ => by rw [cc 73 (by decide), cc 74 (by decide)]; exact ⟨rfl, rfl⟩), c1.eq (by rw [cc 75 (by decide)]) (fun l _ => by rw [cc 73 (by decide), cc 74 (by decide)]; exact ⟨rfl, rfl⟩), by omega, fun j hj => ?_⟩
    rw [cc 80 (by decide), cc 81 (by decide), cc 82 (by decide), cc 83 (by decide), cc 84 (by decide), E]
    by_cases e : j = i
    · rw [e]
      simp only [hp_rd]
      simp
    · have := hc j (by omega)
      simp only [hp_rd, e, and_false, if_false]
      exact this
theorem Mo_family_p249 : Mo_family_vc249 := by
  intro k σ0 hp0 n v1 σ hH hI
  obtain ⟨rfl, hP, hF⟩ := hp0
  obtain ⟨b, rfl, hb, rfl, x, hB, hM, eF, eN, ⟨z50, z51, z64, z56⟩, hbx⟩ := hI
  refine ⟨fun h => ?_, fun h => ⟨⟨by omega, by omega⟩, Or.inl rfl, ?_⟩⟩
  · obtain ⟨g0, σ1, g1, g2, hPM, h4, h5, h42, h43, h23⟩ := hB
    have f1 : σ 67 1 = 0 := by rw [h5 1 (by decide) (by decide) (by decide) (by decide) (by decide) (by decide) (by decide)]; exact g2.1
    have f2 : σ 67 2 = 0 := by rw [h5 2 (by decide) (by decide) (by decide) (by decide) (by decide) (by decide) (by decide)]; exact g2.2.1
    have f3 : σ 67 3 = -1 := by rw [h5 3 (by decide) (by decide) (by decide) (by decide) (by decide) (by decide) (by decide)]; exact g2.2.2
    have f65 : σ 67 65 = σ0 67 65 := by rw [h5 65 (by decide) (by decide) (by decide) (by decide) (by decide) (by decide) (by decide)]; exact g1.2 65 (by omega)
    have c68 : σ 68 = σ0 68 := by rw [h4 68 (by omega)]; exact g1.1 68 (by decide)
    refine ⟨⟨⟨hM, by rw [f1]; exact ⟨by decide, by decide⟩, by rw [c68]; exact hP.1.2.2.1, by rw [z50, z51]; exact ⟨by decide, by decide⟩, by rw [z56]; exact ⟨by decide, by decide⟩, by rw [z64]; exact ⟨by decide, by decide⟩⟩, fun c hc => by rw [h4 c (by omega)]; exact g1.1 c (by simp [rcs]; omega)⟩, fun d => ⟨drw x.1, .inr x, g0, ?_, ?_⟩⟩
    · rw [h42]; rfl
    · unfold mA fam1
      rw [eF, eN, f2, f3, f65]
      have e1 : tpM σ = (zr, 0) := by
        unfold tpM
        rw [f1]
        exact Prod.ext (by funext j; rfl) rfl
      have e2 : hstM σ = ([], []) := by unfold hstM; rw [z50, z51]; rfl
      have e3 : bxM σ = fun _ => none := by
        funext i
        unfold bxM
        exact if_neg (fun z => z.2 (hbx i (by omega)))
      have e4 : sgM σ = sg0 := by unfold sgM; rw [z64]; rfl
      have e5 : lsM σ = (0, zr) := by unfold lsM; rw [z56]; rfl
      rw [e1, e2, e3, e4, e5]
  · intro σ1 hs1
    rw [Int.toNat_natCast] at hs1
    have hs1 : σ1 = hp σ 106 b 0 := hs1
    rw [wr1 (by omega) (by omega)]
    have cc : ∀ c, ¬ c = 106 → σ1 c = σ c := fun c h => by rw [hs1, hp_ne h]
    have K := hM.keep (σ' := σ1) (by rw [cc 67 (by decide)]) (by rw [cc 67 (by decide)]) (by rw [cc 67 (by decide)]) (fun c hc => cc c (by omega))
    refine ⟨3 - (b + 1), by omega, rfl, b + 1, by simp, by omega, rfl, x, by rw [hs1]; exact hB.wr (by omega), K.1, by rw [K.2]; exact eF, by rw [← eN]; show stR (σ1 90) 0 = stR (σ 90) 0; rw [cc 90 (by decide)], by rw [cc 67 (by decide)]; exact ⟨z50, z51, z64, z56⟩, fun i hi => ?_⟩
    rw [hs1]
    by_cases e : i = b
    · rw [e, hp_r1]
    · rw [hp_r2 (fun z => e z.2)]; exact hbx i (by omega)
def Mo_family_I : List AV → Hp → Nat → Nat → List AV → List AV → Hp → Prop := fun as σ0 pc n st ls σ => (match as with
    | [.inr (.inr (.inl (k, 0, 9)))] => (bif Nat.beq pc 39 then (match st, ls with
      | [], [.inr (.inr (.inl (k', 0, 9))), .inl v1, _] => k = k' ∧ Mo_family_I39 k σ0 n v1 σ
      | _, _ => False) else (bif Nat.beq pc 75 then (match st, ls with
      | [], [.inr (.inr (.inl (k', 0, 9))), .inl v1, .inl v2] => k = k' ∧ Mo_family_I75 k σ0 n v1 v2 σ
      | _, _ => False) else (bif Nat.beq pc 129 then (match st, ls with
      | [], [.inr (.inr (.inl (k', 0, 9))), .inl v1, _] => k = k' ∧ Mo_family_I129 k σ0 n v1 σ
      | _, _ => False) else (bif Nat.beq pc 249 then (match st, ls with
      | [], [.inr (.inr (.inl (k', 0, 9))), .inl v1, _] => k = k' ∧ Mo_family_I249 k σ0 n v1 σ
      | _, _ => False) else False))))
    | _ => False)
def Mo_family_ct : Nat → Ct := fun n => match n with
  | 0 => Mo_readAll_cs
  | 1 => Mo_begin_cs
  | 2 => Mo_goHair_cs
  | 3 => Mo_keepAir_cs
  | _ => Mo_family_cs
set_option maxRecDepth 20000 in
set_option maxHeartbeats 4000000 in
theorem Mo_family_met {l : Launch} {D : va_G} {ad : Nat → Nat} {ca : Nat → ClassId} {L : Nat} {fx : Nat → Int} : ax_MC l D ad ca L fx yX9_family cX9_family 3 (some .int) 8 Mo_family_cs := by
  refine ax_met (oc := 9) (ct := Mo_family_ct) (calls := Mo_family_cl) (bs := Mo_family_bk) (cut := fun pc => Nat.beq pc 39 || Nat.beq pc 75 || Nat.beq pc 129 || Nat.beq pc 249) (f := 13) (I := Mo_family_I) (by decide) rfl rfl Mo_family_ck (List.forall_mem_cons.mpr ⟨ax_cwV Mo_readAll_met (by decide) (by decide) rfl (by decide) rfl (ax_m6 141 (by decide +kernel) rfl) Mo_readAll_w rfl Mo_readAll_ds, List.forall_mem_cons.mpr ⟨ax_cwV Mo_begin_met (by decide) (by decide) rfl (by decide) rfl (ax_m7 38 (by decide +kernel) rfl) Mo_begin_w rfl Mo_begin_ds, List.forall_mem_cons.mpr ⟨ax_cwV Mo_goHair_met (by decide) (by decide) rfl (by decide) rfl (ax_m7 42 (by decide +kernel) rfl) Mo_goHair_w rfl Mo_goHair_ds, List.forall_mem_cons.mpr ⟨ax_cwV Mo_keepAir_met (by decide) (by decide) rfl (by decide) rfl (ax_m7 67 (by decide +kernel) rfl) Mo_keepAir_w rfl Mo_keepAir_ds, fun _ h => absurd h List.not_mem_nil⟩⟩⟩⟩) ?_ ?_
  · intro as σ0 hp hH
    match as, hp with
    | [.inr (.inr (.inl (k, 0, 9)))], hp => exact ⟨rfl, Mo_family_p k σ0 hH hp⟩
  · intro as σ0 hp n pc st ls σ hH hI
    match as, hp, hI with
    | [.inr (.inr (.inl (k, 0, 9)))], hp, hI =>
      rcases ax_bifE hI with ⟨hpc, hI⟩ | ⟨-, hI⟩
      · have := Nat.eq_of_beq_eq_true hpc
        subst this
        match st, ls, hI with
        | [], [.inr (.inr (.inl (k', 0, 9))), .inl v1, _], hI =>
          obtain ⟨rfl, hI⟩ := hI
          exact Mo_family_p39 k σ0 hp n v1 σ hH hI
      rcases ax_bifE hI with ⟨hpc, hI⟩ | ⟨-, hI⟩
      · have := Nat.eq_of_beq_eq_true hpc
        subst this
        match st, ls, hI with
        | [], [.inr (.inr (.inl (k', 0, 9))), .inl v1, .inl v2], hI =>
          obtain ⟨rfl, hI⟩ := hI
          exact Mo_family_p75 k σ0 hp n v1 v2 σ hH hI
      rcases ax_bifE hI with ⟨hpc, hI⟩ | ⟨-, hI⟩
      · have := Nat.eq_of_beq_eq_true hpc
        subst this
        match st, ls, hI with
        | [], [.inr (.inr (.inl (k', 0, 9))), .inl v1, _], hI =>
          obtain ⟨rfl, hI⟩ := hI
          exact Mo_family_p129 k σ0 hp n v1 σ hH hI
      rcases ax_bifE hI with ⟨hpc, hI⟩ | ⟨-, hI⟩
      · have := Nat.eq_of_beq_eq_true hpc
        subst this
        match st, ls, hI with
        | [], [.inr (.inr (.inl (k', 0, 9))), .inl v1, _], hI =>
          obtain ⟨rfl, hI⟩ := hI
          exact Mo_family_p249 k σ0 hp n v1 σ hH hI
      exact False.elim hI
