-- THE STATE (class GreyHair$State): cares, knows, hair, day, seed, dyed
def tr (n : Nat) (f : Nat → Int) : Nat → Int := fun j => if j < n then f j else 0
theorem tr_in {n j : Nat} {f : Nat → Int} (h : j < n) : tr n f j = f j := if_pos h
theorem tr_out {n j : Nat} {f : Nat → Int} (h : n ≤ j) : tr n f j = 0 := if_neg (by omega)
theorem tr_ext {n : Nat} {f g : Nat → Int} (h : ∀ j, j < n → f j = g j) : tr n f = tr n g := by
  funext j
  unfold tr
  by_cases hj : j < n
  · simp [hj, h j hj]
  · simp [hj]
abbrev Sta : Type := (Nat → Int) × (Nat → Int) × Int × Int × Int × Int
def stX (σ : Hp) (k : Nat) : Sta := (tr 6 (σ (k + 1)), tr 6 (σ (k + 2)), σ k 2, σ k 3, σ k 4, σ k 5)
def SO (k : Nat) : Prop := k = 4 ∨ k = 25 ∨ k = 31
/-- nothing has changed but in these cells -/
def Fr (cs : List Nat) (σ σ' : Hp) : Prop := ∀ c : Nat, c ∉ cs → σ' c = σ c
theorem Fr.rf {cs : List Nat} {σ : Hp} : Fr cs σ σ := fun _ _ => rfl
theorem Fr.tr {cs : List Nat} {σ σ' σ'' : Hp} (h : Fr cs σ σ') (h2 : Fr cs σ' σ'') : Fr cs σ σ'' := fun c hc => (h2 c hc).trans (h c hc)
theorem Fr.mono {cs ds : List Nat} {σ σ' : Hp} (h : Fr cs σ σ') (hs : ∀ c ∈ cs, c ∈ ds) : Fr ds σ σ' := fun c hc => h c (fun z => hc (hs c z))
theorem Fr.hp {cs : List Nat} {σ σ' : Hp} {k j : Nat} {v : Int} (h : Fr cs σ σ') (hk : k ∈ cs) : Fr cs σ (hp σ' k j v) := fun c hc => (hp_ne (fun z => hc (by rw [z]; exact hk))).trans (h c hc)
/-- cares and knows are what they can be -/
def SS (σ : Hp) (k : Nat) : Prop := ∀ j, j < 6 → (0 ≤ σ (k + 1) j ∧ σ (k + 1) j ≤ 99) ∧ (0 ≤ σ (k + 2) j ∧ σ (k + 2) j < 64)
theorem SS_st {σ σ' : Hp} {k k' : Nat} (h : SS σ k) (e : stX σ' k' = stX σ k) : SS σ' k' := by
  intro j hj
  have h1 : tr 6 (σ' (k' + 1)) j = tr 6 (σ (k + 1)) j := congrFun (congrArg Prod.fst e) j
  have h2 : tr 6 (σ' (k' + 2)) j = tr 6 (σ (k + 2)) j := congrFun (congrArg (fun x => x.2.1) e) j
  rw [tr_in hj, tr_in hj] at h1 h2
  rw [h1, h2]
  exact h j hj
theorem wr1 {i : Int} (h : 0 ≤ i) (h2 : i < 2147483647) : wr (i + 1) = i + 1 := wr_id (by omega) (by omega)
-- how many members
def pcn (x : Nat) : Nat → Nat
  | 0 => 0
  | n + 1 => pcn x n + (if x.testBit n then 1 else 0)
def bc1 (a : Int) : Int := wr (a - (iAnd (iUsh a 1) 1431655765))
def bc2 (a : Int) : Int := wr ((iAnd a 858993459) + (iAnd (iUsh a 2) 858993459))
def bc3 (a : Int) : Int := iAnd (wr (a + (iUsh a 4))) 252645135
def bc4 (a : Int) : Int := wr (a + (iUsh a 8))
def bc5 (a : Int) : Int := iAnd (wr (a + (iUsh a 16))) 63
def Ji_bitCount_pre (a : Int) (_ : Hp) : Prop := 0 ≤ a ∧ a < 4096
def Ji_bitCount_post (a : Int) (σ : Hp) (r : Int) (σ' : Hp) : Prop := σ' = σ ∧ r = (pcn a.toNat 12 : Nat)
def Ji_bitCount_bk : List (Nat × List Item) := [(0, [(.iload_n 0, 1, [], []), (.iload_n 0, 1, [], []), (.iconst 1, 1, [], []), (.iushr, 1, [], []), (.ldc_w 265, 3, [], [(1431655765, 0)]), (.iand, 1, [], []), (.isub, 1, [], []), (.istore_n 0, 1, [], []), (.iload_n 0, 1, [], []), (.ldc_w 266, 3, [], [(858993459, 0)]), (.iand, 1, [], []), (.iload_n 0, 1, [], []), (.iconst 2, 1, [], []), (.iushr, 1, [], []), (.ldc_w 266, 3, [], [(858993459, 0)]), (.iand, 1, [], []), (.iadd, 1, [], []), (.istore_n 0, 1, [], []), (.iload_n 0, 1, [], []), (.iload_n 0, 1, [], []), (.iconst 4, 1, [], []), (.iushr, 1, [], []), (.iadd, 1, [], []), (.ldc_w 267, 3, [], [(252645135, 0)]), (.iand, 1, [], []), (.istore_n 0, 1, [], []), (.iload_n 0, 1, [], []), (.iload_n 0, 1, [], []), (.bipush 8, 2, [], []), (.iushr, 1, [], []), (.iadd, 1, [], []), (.istore_n 0, 1, [], []), (.iload_n 0, 1, [], []), (.iload_n 0, 1, [], []), (.bipush 16, 2, [], []), (.iushr, 1, [], []), (.iadd, 1, [], []), (.istore_n 0, 1, [], []), (.iload_n 0, 1, [], []), (.bipush 63, 2, [], []), (.iand, 1, [], []), (.ireturn, 1, [], [])])]
def Ji_bitCount_cl : List (Instr × Nat) := []
set_option maxRecDepth 20000 in
theorem Ji_bitCount_ck : Ji_bitCount_bk.all (fun b => ax_chB 12 1 cJ6_bitCount_0f7a4 Ji_bitCount_cl b.1 b.2) = true := by decide +kernel
def Ji_bitCount_cs : Ct := (1, 0, 1, (0, 0), fun as σ => (match as with
    | [.inl a1] => Ji_bitCount_pre a1 σ
    | _ => False), fun as σ r σ' => (match as with
    | [.inl a1] => Ji_bitCount_post a1 σ r σ'
    | _ => False))
theorem Ji_bitCount_w : ∀ w ∈ ([.static yJ6_bitCount_0f7a4, .initialized yJ6_bitCount_0f7a4.cls, .code yJ6_bitCount_0f7a4 cJ6_bitCount_0f7a4 1 (some .int)] : List Cond), w ∈ ax_tb := ax_w3 (ax_m4 36 (by decide +kernel) rfl) (ax_m1 17 (by decide +kernel) rfl) (ax_m4 37 (by decide +kernel) rfl)
theorem Ji_bitCount_ds : yJ6_bitCount_0f7a4.cls ≠ "java/lang/invoke/MethodHandle" ∧ yJ6_bitCount_0f7a4.cls ≠ "java/lang/invoke/VarHandle" ∧ (parseMethodDescriptor yJ6_bitCount_0f7a4.desc).map (fun d => d.parameters.length) = some 1 := by decide +kernel
def Ji_bitCount_vc : Prop := ∀ (a1 : Int) (σ : Hp), ax_H σ → Ji_bitCount_pre a1 σ →
  Ji_bitCount_post a1 σ (iAnd (wr ((wr ((iAnd (wr ((wr ((iAnd (wr (a1 - (iAnd (iUsh a1 1) 1431655765))) 858993459) + (iAnd (iUsh (wr (a1 - (iAnd (iUsh a1 1) 1431655765))) 2) 858993459))) + (iUsh (wr ((iAnd (wr (a1 - (iAnd (iUsh a1 1) 1431655765))) 858993459) + (iAnd (iUsh (wr (a1 - (iAnd (iUsh a1 1) 1431655765))) 2) 858993459))) 4))) 252645135) + (iUsh (iAnd (wr ((wr ((iAnd (wr (a1 - (iAnd (iUsh a1 1) 1431655765))) 858993459) + (iAnd (iUsh (wr (a1 - (iAnd (iUsh a1 1) 1431655765))) 2) 858993459))) + (iUsh (wr ((iAnd (wr (a1 - (iAnd (iUsh a1 1) 1431655765))) 858993459) + (iAnd (iUsh (wr (a1 - (iAnd (iUsh a1 1) 1431655765))) 2) 858993459))) 4))) 252645135) 8))) + (iUsh (wr ((iAnd (wr ((wr ((iAnd (wr (a1 - (iAnd (iUsh a1 1) 1431655765))) 858993459) + (iAnd (iUsh (wr (a1 - (iAnd (iUsh a1 1) 1431655765))) 2) 858993459))) + (iUsh (wr ((iAnd (wr (a1 - (iAnd (iUsh a1 1) 1431655765))) 858993459) + (iAnd (iUsh (wr (a1 - (iAnd (iUsh a1 1) 1431655765))) 2) 858993459))) 4))) 252645135) + (iUsh (iAnd (wr ((wr ((iAnd (wr (a1 - (iAnd (iUsh a1 1) 1431655765))) 858993459) + (iAnd (iUsh (wr (a1 - (iAnd (iUsh a1 1) 1431655765))) 2) 858993459))) + (iUsh (wr ((iAnd (wr (a1 - (iAnd (iUsh a1 1) 1431655765))) 858993459) + (iAnd (iUsh (wr (a1 - (iAnd (iUsh a1 1) 1431655765))) 2) 858993459))) 4))) 252645135) 8))) 16))) 63) σ
def allB (f : Nat → Bool) : Nat → Nat → Bool
  | 0, b => f b
  | d + 1, b => allB f d (2 * b) && allB f d (2 * b + 1)
theorem allB_ok {f : Nat → Bool} : ∀ (d b x : Nat), allB f d b = true → b * 2 ^ d ≤ x → x < (b + 1) * 2 ^ d → f x = true := by
  intro d
  induction d with
  | zero => intro b x h h1 h2; have : x = b := by simp at h1 h2; omega
            subst this; exact h
  | succ d ih =>
    intro b x h h1 h2
    have h' : (allB f d (2 * b) && allB f d (2 * b + 1)) = true := h
    rw [Bool.and_eq_true] at h'
    rw [Nat.pow_succ] at h1 h2
    by_cases hx : x < (2 * b + 1) * 2 ^ d
    · refine ih (2 * b) x h'.1 ?_ hx
      have : 2 * b * 2 ^ d = b * (2 ^ d * 2) := by rw [Nat.mul_comm 2 b, Nat.mul_assoc, Nat.mul_comm 2]
      omega
    · refine ih (2 * b + 1) x h'.2 (by omega) ?_
      have : (2 * b + 1 + 1) * 2 ^ d = (b + 1) * (2 ^ d * 2) := by rw [show 2 * b + 1 + 1 = (b + 1) * 2 by omega, Nat.mul_assoc, Nat.mul_comm 2]
      omega
theorem sh31u : ∀ n : Nat, n < 32 → (((Int32.ofInt (n : Int)).toUInt32 &&& Int32.toUInt32 31).toBitVec % 32).toNat = n := by decide +kernel
theorem iUsh_n {a j : Nat} (ha : a < 2 ^ 31) (hj : j < 32) : iUsh (a : Int) (j : Int) = ((a / 2 ^ j : Nat) : Int) := by
  unfold iUsh
  rw [show Int32.ofInt (a : Int) = nI a from rfl, pk_ushrN (by omega) _ j (sh31u j hj), nI_toInt (Nat.lt_of_le_of_lt (Nat.div_le_self _ _) ha)]
def nc1 (x : Nat) : Nat := x - (x / 2 &&& 1431655765)
def nc2 (x : Nat) : Nat := (x &&& 858993459) + (x / 4 &&& 858993459)
def nc3 (x : Nat) : Nat := (x + x / 16) &&& 252645135
def nc4 (x : Nat) : Nat := x + x / 256
def nc5 (x : Nat) : Nat := (x + x / 65536) &&& 63
theorem bc1_n {x : Nat} (h : x < 1000000) : bc1 (x : Int) = (nc1 x : Nat) := by
  unfold bc1 nc1
  have e : iUsh (x : Int) 1 = ((x / 2 : Nat) : Int) := iUsh_n (j := 1) (by omega) (by omega)
  have e2 : iAnd ((x / 2 : Nat) : Int) 1431655765 = ((x / 2 &&& 1431655765 : Nat) : Int) := iAnd_n (b := 1431655765) (by omega) (by omega)
  have hl : x / 2 &&& 1431655765 ≤ x / 2 := Nat.and_le_left
  rw [e, e2, wr_id (by omega) (by omega)]
  omega
theorem bc2_n {x : Nat} (h : x < 1000000) : bc2 (x : Int) = (nc2 x : Nat) := by
  unfold bc2 nc2
  have e : iUsh (x : Int) 2 = ((x / 4 : Nat) : Int) := iUsh_n (j := 2) (by omega) (by omega)
  have e2 : iAnd ((x / 4 : Nat) : Int) 858993459 = ((x / 4 &&& 858993459 : Nat) : Int) := iAnd_n (b := 858993459) (by omega) (by omega)
  have e3 : iAnd (x : Int) 858993459 = ((x &&& 858993459 : Nat) : Int) := iAnd_n (b := 858993459) (by omega) (by omega)
  have hl : x / 4 &&& 858993459 ≤ x / 4 := Nat.and_le_left
  have hl2 : x &&& 858993459 ≤ x := Nat.and_le_left
  rw [e, e2, e3, wr_id (by omega) (by omega)]
  omega
theorem bc3_n {x : Nat} (h : x < 1000000) : bc3 (x : Int) = (nc3 x : Nat) := by
  unfold bc3 nc3
  have e : iUsh (x : Int) 4 = ((x / 16 : Nat) : Int) := iUsh_n (j := 4) (by omega) (by omega)
  rw [e, wr_id (by omega) (by omega)]
  exact iAnd_n (a := x + x / 16) (b := 252645135) (by omega) (by omega)
theorem bc4_n {x : Nat} (h : x < 1000000) : bc4 (x : Int) = (nc4 x : Nat) := by
  unfold bc4 nc4
  have e : iUsh (x : Int) 8 = ((x / 256 : Nat) : Int) := iUsh_n (j := 8) (by omega) (by omega)
  rw [e, wr_id (by omega) (by omega)]
  omega
theorem bc5_n {x : Nat} (h : x < 1000000) : bc5 (x : Int) = (nc5 x : Nat) := by
  unfold bc5 nc5
  have e : iUsh (x : Int) 16 = ((x / 65536 : Nat) : Int) := iUsh_n (j := 16) (by omega) (by omega)
  rw [e, wr_id (by omega) (by omega)]
  exact iAnd_n (a := x + x / 65536) (b := 63) (by omega) (by omega)
def pcq (x : Nat) : Nat := x % 2 + x / 2 % 2 + x / 4 % 2 + x / 8 % 2 + x / 16 % 2 + x / 32 % 2 + x / 64 % 2 + x / 128 % 2 + x / 256 % 2 + x / 512 % 2 + x / 1024 % 2 + x / 2048 % 2
theorem tb_q (x j : Nat) : (if x.testBit j then 1 else 0) = x / 2 ^ j % 2 := by
  rw [Nat.testBit_eq_decide_div_mod_eq]
  by_cases h : x / 2 ^ j % 2 = 1
  · simp [h]
  · have : x / 2 ^ j % 2 = 0 := by omega
    simp [this]
theorem pcn_q (x : Nat) : pcn x 12 = pcq x := by
  simp only [pcn, tb_q, pcq]
  simp
def bcf (x : Nat) : Bool := Nat.beq (nc5 (nc4 (nc3 (nc2 (nc1 x))))) (pcq x)
theorem bc_all : allB bcf 12 0 = true := by decide +kernel
theorem bc_ok (x : Nat) (hx : x < 4096) : bc5 (bc4 (bc3 (bc2 (bc1 (x : Int))))) = (pcn x 12 : Nat) := by
  have b1 : nc1 x ≤ x := Nat.sub_le _ _
  have b2 : nc2 (nc1 x) ≤ nc1 x + nc1 x / 4 := Nat.add_le_add Nat.and_le_left Nat.and_le_left
  have b3 : nc3 (nc2 (nc1 x)) ≤ nc2 (nc1 x) + nc2 (nc1 x) / 16 := Nat.and_le_left
  have b4 : nc4 (nc3 (nc2 (nc1 x))) = nc3 (nc2 (nc1 x)) + nc3 (nc2 (nc1 x)) / 256 := rfl
  rw [bc1_n (by omega), bc2_n (by omega), bc3_n (by omega), bc4_n (by omega), bc5_n (by omega)]
  have h : bcf x = true := allB_ok 12 0 x bc_all (by simp) (by simpa using hx)
  rw [pcn_q, Nat.eq_of_beq_eq_true h]
theorem Ji_bitCount_p : Ji_bitCount_vc := by
  intro a σ hH hp
  refine ⟨rfl, ?_⟩
  have := bc_ok a.toNat (by have := hp.2; have := hp.1; omega)
  rw [← e_nat hp.1] at this
  exact this
def Ji_bitCount_I : List AV → Hp → Nat → Nat → List AV → List AV → Hp → Prop := fun as σ0 pc n st ls σ => (match as with
    | [.inl a1] => False
    | _ => False)
def Ji_bitCount_ct : Nat → Ct := fun n => match n with
  | _ => Ji_bitCount_cs
set_option maxRecDepth 20000 in
set_option maxHeartbeats 4000000 in
theorem Ji_bitCount_met {l : Launch} {D : va_G} {ad : Nat → Nat} {ca : Nat → ClassId} {L : Nat} {fx : Nat → Int} : ax_MC l D ad ca L fx yJ6_bitCount_0f7a4 cJ6_bitCount_0f7a4 1 (some .int) 1 Ji_bitCount_cs := by
  refine ax_met (oc := 12) (ct := Ji_bitCount_ct) (calls := Ji_bitCount_cl) (bs := Ji_bitCount_bk) (cut := fun pc => false) (f := 2) (I := Ji_bitCount_I) (by decide) rfl rfl Ji_bitCount_ck (fun _ h => absurd h List.not_mem_nil) ?_ ?_
  · intro as σ0 hp hH
    match as, hp with
    | [.inl a1], hp => exact ⟨rfl, Ji_bitCount_p a1 σ0 hH hp⟩
  · intro as σ0 hp n pc st ls σ hH hI
    match as, hp, hI with
    | [.inl a1], hp, hI => exact False.elim hI
def St_holdsFast_pre (_ : Nat) (_ : Hp) : Prop := True
def St_holdsFast_post (k : Nat) (σ : Hp) (r : Int) (σ' : Hp) : Prop := σ' = σ ∧ r = if ¬ σ k 5 = 0 ∧ ¬ σ k 2 = -1 then 1 else 0
def St_holdsFast_bk : List (Nat × List Item) := [(0, [(.aload_n 0, 1, [], []), (.getfield 28, 3, [7, 5, 1, 0, 0, 0], []), (.ifCond .eq 15, 3, [19], []), (.aload_n 0, 1, [], []), (.getfield 18, 3, [7, 2, 0, 0, 0, 0], []), (.iconst (-1), 1, [], []), (.if_icmp .eq 7, 3, [19], []), (.iconst 1, 1, [], []), (.goto 4, 3, [20], [])]),
  (19, [(.iconst 0, 1, [], [])]),
  (20, [(.ireturn, 1, [], [])])]
def St_holdsFast_cl : List (Instr × Nat) := []
set_option maxRecDepth 20000 in
theorem St_holdsFast_ck : St_holdsFast_bk.all (fun b => ax_chB 7 1 cX7_holdsFast St_holdsFast_cl b.1 b.2) = true := by decide +kernel
def St_holdsFast_cs : Ct := (1, 8, 2, (0, 0), fun as σ => (match as with
    | [.inr (.inr (.inl (k, 0, 7)))] => St_holdsFast_pre k σ
    | _ => False), fun as σ r σ' => (match as with
    | [.inr (.inr (.inl (k, 0, 7)))] => St_holdsFast_post k σ r σ'
    | _ => False))
theorem St_holdsFast_w : ∀ w ∈ ([.instanceMethod yX7_holdsFast, .selects yX7_holdsFast.cls yX7_holdsFast yX7_holdsFast, .initialized yX7_holdsFast.cls, .code yX7_holdsFast cX7_holdsFast 1 (some .boolean)] : List Cond), w ∈ ax_tb := ax_w4 (ax_m4 7 (by decide +kernel) rfl) (ax_m4 8 (by decide +kernel) rfl) (ax_m1 4 (by decide +kernel) rfl) (ax_m4 9 (by decide +kernel) rfl)
theorem St_holdsFast_ds : yX7_holdsFast.cls ≠ "java/lang/invoke/MethodHandle" ∧ yX7_holdsFast.cls ≠ "java/lang/invoke/VarHandle" ∧ (parseMethodDescriptor yX7_holdsFast.desc).map (fun d => d.parameters.length) = some 0 := by decide +kernel
def St_holdsFast_vc : Prop := ∀ (k : Nat) (σ : Hp), ax_H σ → St_holdsFast_pre k σ →
  (σ k 5 = 0 →
    ((0 : Int) = 0 ∨ (0 : Int) = 1) ∧ St_holdsFast_post k σ 0 σ) ∧
  (¬ (σ k 5 = 0) →
    (σ k 2 = (-1) →
      ((0 : Int) = 0 ∨ (0 : Int) = 1) ∧ St_holdsFast_post k σ 0 σ) ∧
    (¬ (σ k 2 = (-1)) →
      ((1 : Int) = 0 ∨ (1 : Int) = 1) ∧ St_holdsFast_post k σ 1 σ))
theorem St_holdsFast_p : St_holdsFast_vc := by
  intro k σ hH hp
  refine ⟨fun h => ⟨Or.inl rfl, rfl, ?_⟩, fun h => ⟨fun h2 => ⟨Or.inl rfl, rfl, ?_⟩, fun h2 => ⟨Or.inr rfl, rfl, ?_⟩⟩⟩
  · rw [if_neg (by simp [h])]
  · rw [if_neg (by simp [h2])]
  · rw [if_pos ⟨h, h2⟩]
def St_holdsFast_I : List AV → Hp → Nat → Nat → List AV → List AV → Hp → Prop := fun as σ0 pc n st ls σ => (match as with
    | [.inr (.inr (.inl (k, 0, 7)))] => False
    | _ => False)
def St_holdsFast_ct : Nat → Ct := fun n => match n with
  | _ => St_holdsFast_cs
set_option maxRecDepth 20000 in
set_option maxHeartbeats 4000000 in
theorem St_holdsFast_met {l : Launch} {D : va_G} {ad : Nat → Nat} {ca : Nat → ClassId} {L : Nat} {fx : Nat → Int} : ax_MC l D ad ca L fx yX7_holdsFast cX7_holdsFast 1 (some .boolean) 1 St_holdsFast_cs := by
  refine ax_met (oc := 7) (ct := St_holdsFast_ct) (calls := St_holdsFast_cl) (bs := St_holdsFast_bk) (cut := fun pc => false) (f := 4) (I := St_holdsFast_I) (by decide) rfl rfl St_holdsFast_ck (fun _ h => absurd h List.not_mem_nil) ?_ ?_
  · intro as σ0 hp hH
    match as, hp with
    | [.inr (.inr (.inl (k, 0, 7)))], hp => exact ⟨rfl, St_holdsFast_p k σ0 hH hp⟩
  · intro as σ0 hp n pc st ls σ hH hI
    match as, hp, hI with
    | [.inr (.inr (.inl (k, 0, 7)))], hp, hI => exact False.elim hI
def St_isKnown_pre (k : Nat) (a1 a2 : Int) (σ : Hp) : Prop := 0 ≤ a1 ∧ a1 < 6 ∧ 0 ≤ a2 ∧ a2 < 6 ∧ SS σ k
def St_isKnown_post (k : Nat) (a1 a2 : Int) (σ : Hp) (r : Int) (σ' : Hp) : Prop := σ' = σ ∧ r = if bt (σ (k + 2) a1.toNat) a2.toNat then 1 else 0
def St_isKnown_bk : List (Nat × List Item) := [(0, [(.aload_n 0, 1, [], []), (.getfield 15, 3, [7, 1, 4, 2, 1, 6], []), (.iload_n 1, 1, [], []), (.iaload, 1, [], []), (.iload_n 2, 1, [], []), (.ishr, 1, [], []), (.iconst 1, 1, [], []), (.iand, 1, [], []), (.iconst 1, 1, [], []), (.if_icmp .ne 7, 3, [18], []), (.iconst 1, 1, [], []), (.goto 4, 3, [19], [])]),
  (18, [(.iconst 0, 1, [], [])]),
  (19, [(.ireturn, 1, [], [])])]
def St_isKnown_cl : List (Instr × Nat) := []
set_option maxRecDepth 20000 in
theorem St_isKnown_ck : St_isKnown_bk.all (fun b => ax_chB 7 3 cX7_isKnown St_isKnown_cl b.1 b.2) = true := by decide +kernel
def St_isKnown_cs : Ct := (3, 8, 2, (0, 0), fun as σ => (match as with
    | [.inr (.inr (.inl (k, 0, 7))), .inl a1, .inl a2] => St_isKnown_pre k a1 a2 σ
    | _ => False), fun as σ r σ' => (match as with
    | [.inr (.inr (.inl (k, 0, 7))), .inl a1, .inl a2] => St_isKnown_post k a1 a2 σ r σ'
    | _ => False))
theorem St_isKnown_w : ∀ w ∈ ([.instanceMethod yX7_isKnown, .selects yX7_isKnown.cls yX7_isKnown yX7_isKnown, .initialized yX7_isKnown.cls, .code yX7_isKnown cX7_isKnown 3 (some .boolean)] : List Cond), w ∈ ax_tb := ax_w4 (ax_m3 198 (by decide +kernel) rfl) (ax_m3 199 (by decide +kernel) rfl) (ax_m1 4 (by decide +kernel) rfl) (ax_m3 200 (by decide +kernel) rfl)
theorem St_isKnown_ds : yX7_isKnown.cls ≠ "java/lang/invoke/MethodHandle" ∧ yX7_isKnown.cls ≠ "java/lang/invoke/VarHandle" ∧ (parseMethodDescriptor yX7_isKnown.desc).map (fun d => d.parameters.length) = some 2 := by decide +kernel
def St_isKnown_vc : Prop := ∀ (k : Nat) (a1 : Int) (a2 : Int) (σ : Hp), ax_H σ → St_isKnown_pre k a1 a2 σ →
  (0 ≤ a1 ∧ a1 < 6) ∧
  (¬ iAnd (iShr (σ (k + 2) a1.toNat) a2) 1 = 1 →
    ((0 : Int) = 0 ∨ (0 : Int) = 1) ∧ St_isKnown_post k a1 a2 σ 0 σ) ∧
  (¬ (¬ iAnd (iShr (σ (k + 2) a1.toNat) a2) 1 = 1) →
    ((1 : Int) = 0 ∨ (1 : Int) = 1) ∧ St_isKnown_post k a1 a2 σ 1 σ)
theorem St_isKnown_p : St_isKnown_vc := by
  intro k a1 a2 σ hH hp
  obtain ⟨h1, h2, h3, h4, hs⟩ := hp
  have hb := (hs a1.toNat (by omega)).2
  have e := bit_01 (x := σ (k + 2) a1.toNat) hb.1 (by omega) h3 (by omega)
  refine ⟨⟨h1, h2⟩, fun h => ⟨Or.inl rfl, rfl, ?_⟩, fun h => ⟨Or.inr rfl, rfl, ?_⟩⟩
  · rw [if_neg (fun z => h (e.mpr z))]
  · rw [if_pos (e.mp (Classical.not_not.mp h))]
def St_isKnown_I : List AV → Hp → Nat → Nat → List AV → List AV → Hp → Prop := fun as σ0 pc n st ls σ => (match as with
    | [.inr (.inr (.inl (k, 0, 7))), .inl a1, .inl a2] => False
    | _ => False)
def St_isKnown_ct : Nat → Ct := fun n => match n with
  | _ => St_isKnown_cs
set_option maxRecDepth 20000 in
set_option maxHeartbeats 4000000 in
theorem St_isKnown_met {l : Launch} {D : va_G} {ad : Nat → Nat} {ca : Nat → ClassId} {L : Nat} {fx : Nat → Int} : ax_MC l D ad ca L fx yX7_isKnown cX7_isKnown 3 (some .boolean) 1 St_isKnown_cs := by
  refine ax_met (oc := 7) (ct := St_isKnown_ct) (calls := St_isKnown_cl) (bs := St_isKnown_bk) (cut := fun pc => false) (f := 4) (I := St_isKnown_I) (by decide) rfl rfl St_isKnown_ck (fun _ h => absurd h List.not_mem_nil) ?_ ?_
  · intro as σ0 hp hH
    match as, hp with
    | [.inr (.inr (.inl (k, 0, 7))), .inl a1, .inl a2], hp => exact ⟨rfl, St_isKnown_p k a1 a2 σ0 hH hp⟩
  · intro as σ0 hp n pc st ls σ hH hI
    match as, hp, hI with
    | [.inr (.inr (.inl (k, 0, 7))), .inl a1, .inl a2], hp, hI => exact False.elim hI
def St_change_pre (k : Nat) (a1 a2 : Int) (σ : Hp) : Prop := 0 ≤ a1 ∧ a1 < 6 ∧ -1000 ≤ a2 ∧ a2 ≤ 1000 ∧ SS σ k
def St_change_post (k : Nat) (a1 a2 : Int) (σ : Hp) (r : Int) (σ' : Hp) : Prop := r = wth (σ (k + 1) a1.toNat + a2) 99 ∧ σ' = hp σ (k + 1) a1.toNat r
def St_change_bk : List (Nat × List Item) := [(0, [(.aload_n 0, 1, [], []), (.getfield 9, 3, [7, 0, 4, 1, 1, 6], []), (.iload_n 1, 1, [], []), (.aload_n 0, 1, [], []), (.getfield 9, 3, [7, 0, 4, 1, 1, 6], []), (.iload_n 1, 1, [], []), (.iaload, 1, [], []), (.iload_n 2, 1, [], []), (.iadd, 1, [], []), (.bipush 99, 2, [], []), (.invokestatic 32, 3, [0], []), (.iastore, 1, [], []), (.aload_n 0, 1, [], []), (.getfield 9, 3, [7, 0, 4, 1, 1, 6], []), (.iload_n 1, 1, [], []), (.iaload, 1, [], []), (.ireturn, 1, [], [])])]
def St_change_cl : List (Instr × Nat) := [(.invokestatic 32, 0)]
set_option maxRecDepth 20000 in
theorem St_change_ck : St_change_bk.all (fun b => ax_chB 7 3 cX7_change St_change_cl b.1 b.2) = true := by decide +kernel
def St_change_cs : Ct := (3, 8, 1, (0, 0), fun as σ => (match as with
    | [.inr (.inr (.inl (k, 0, 7))), .inl a1, .inl a2] => St_change_pre k a1 a2 σ
    | _ => False), fun as σ r σ' => (match as with
    | [.inr (.inr (.inl (k, 0, 7))), .inl a1, .inl a2] => St_change_post k a1 a2 σ r σ'
    | _ => False))
theorem St_change_w : ∀ w ∈ ([.instanceMethod yX7_change, .selects yX7_change.cls yX7_change yX7_change, .initialized yX7_change.cls, .code yX7_change cX7_change 3 (some .int)] : List Cond), w ∈ ax_tb := ax_w4 (ax_m4 2 (by decide +kernel) rfl) (ax_m4 3 (by decide +kernel) rfl) (ax_m1 4 (by decide +kernel) rfl) (ax_m4 4 (by decide +kernel) rfl)
theorem St_change_ds : yX7_change.cls ≠ "java/lang/invoke/MethodHandle" ∧ yX7_change.cls ≠ "java/lang/invoke/VarHandle" ∧ (parseMethodDescriptor yX7_change.desc).map (fun d => d.parameters.length) = some 2 := by decide +kernel
def St_change_vc : Prop := ∀ (k : Nat) (a1 : Int) (a2 : Int) (σ : Hp), ax_H σ → St_change_pre k a1 a2 σ →
  (0 ≤ a1 ∧ a1 < 6) ∧
  Gh_within_pre (wr ((σ (k + 1) a1.toNat) + a2)) 99 σ ∧
  ∀ (r2 : Int) (σ1 : Hp), Gh_within_post (wr ((σ (k + 1) a1.toNat) + a2)) 99 σ r2 σ1 →
  (0 ≤ a1 ∧ a1 < 6) ∧
  ∀ σ3 : Hp, σ3 = hp σ1 (k + 1) a1.toNat r2 →
  (0 ≤ a1 ∧ a1 < 6) ∧
  St_change_post k a1 a2 σ (σ3 (k + 1) a1.toNat) σ3
theorem St_change_p : St_change_vc := by
  intro k a1 a2 σ hH hp
  obtain ⟨h1, h2, h3, h4, hs⟩ := hp
  have hb := (hs a1.toNat (by omega)).1
  refine ⟨⟨h1, h2⟩, trivial, ?_⟩
  rintro r1 σ1 ⟨rfl, rfl⟩
  refine ⟨⟨h1, h2⟩, ?_⟩
  rintro σ3 rfl
  refine ⟨⟨h1, h2⟩, ?_⟩
  rw [hp_r1]
  exact ⟨by rw [wr_id (by omega) (by omega)], rfl⟩
def St_change_I : List AV → Hp → Nat → Nat → List AV → List AV → Hp → Prop := fun as σ0 pc n st ls σ => (match as with
    | [.inr (.inr (.inl (k, 0, 7))), .inl a1, .inl a2] => False
    | _ => False)
def St_change_ct : Nat → Ct := fun n => match n with
  | 0 => Gh_within_cs
  | _ => St_change_cs
set_option maxRecDepth 20000 in
set_option maxHeartbeats 4000000 in
theorem St_change_met {l : Launch} {D : va_G} {ad : Nat → Nat} {ca : Nat → ClassId} {L : Nat} {fx : Nat → Int} : ax_MC l D ad ca L fx yX7_change cX7_change 3 (some .int) 3 St_change_cs := by
  refine ax_met (oc := 7) (ct := St_change_ct) (calls := St_change_cl) (bs := St_change_bk) (cut := fun pc => false) (f := 2) (I := St_change_I) (by decide) rfl rfl St_change_ck (List.forall_mem_cons.mpr ⟨ax_cwN Gh_within_met (by decide) (by decide) (by decide) Gh_within_w rfl Gh_within_ds, fun _ h => absurd h List.not_mem_nil⟩) ?_ ?_
  · intro as σ0 hp hH
    match as, hp with
    | [.inr (.inr (.inl (k, 0, 7))), .inl a1, .inl a2], hp => exact ⟨rfl, St_change_p k a1 a2 σ0 hH hp⟩
  · intro as σ0 hp n pc st ls σ hH hI
    match as, hp, hI with
    | [.inr (.inr (.inl (k, 0, 7))), .inl a1, .inl a2], hp, hI => exact False.elim hI
/-- the sum of some, of the first n -/
def sm (c : Nat → Int) (x : Int) : Nat → Int
  | 0 => 0
  | n + 1 => sm c x n + (if bt x n then c n else 0)
theorem sm_s (c : Nat → Int) (x : Int) (n : Nat) : sm c x (n + 1) = sm c x n + (if bt x n then c n else 0) := rfl
theorem sm_ext {c d : Nat → Int} {x : Int} {n : Nat} (h : ∀ j, j < n → c j = d j) : sm c x n = sm d x n := by
  induction n with
  | zero => rfl
  | succ n ih => unfold sm; rw [ih (fun j hj => h j (by omega)), h n (by omega)]
theorem sm_R {c : Nat → Int} {x : Int} {n : Nat} (h : ∀ j, j < n → 0 ≤ c j ∧ c j ≤ 99) : 0 ≤ sm c x n ∧ sm c x n ≤ 99 * n := by
  induction n with
  | zero => simp [sm]
  | succ n ih =>
    have i1 := ih (fun j hj => h j (by omega))
    have i2 := h n (by omega)
    unfold sm
    split <;> omega
theorem sm_Rb {c : Nat → Int} {x : Int} {n : Nat} (h : ∀ j, j < n → bt x j = true → 0 ≤ c j ∧ c j ≤ 99) : 0 ≤ sm c x n ∧ sm c x n ≤ 99 * n := by
  induction n with
  | zero => simp [sm]
  | succ n ih =>
    have i1 := ih (fun j hj => h j (by omega))
    rw [sm_s]
    split
    · rename_i z
      have i2 := h n (by omega) z
      omega
    · omega
/-- the cares of these are what they can be -/
def SB (σ : Hp) (k : Nat) (x : Int) : Prop := ∀ j, j < 6 → bt x j = true → 0 ≤ σ (k + 1) j ∧ σ (k + 1) j ≤ 99
theorem SS.sb {σ : Hp} {k : Nat} (h : SS σ k) (x : Int) : SB σ k x := fun j hj _ => (h j hj).1
/-- one's care, knows, and the cares of those are what they can be -/
def WS (σ : Hp) (k a : Nat) : Prop := (0 ≤ σ (k + 1) a ∧ σ (k + 1) a ≤ 99) ∧ (0 ≤ σ (k + 2) a ∧ σ (k + 2) a < 64) ∧ SB σ k (σ (k + 2) a)
theorem SS.ws {σ : Hp} {k a : Nat} (h : SS σ k) (ha : a < 6) : WS σ k a := ⟨(h a ha).1, (h a ha).2, h.sb _⟩
theorem sm_none {c : Nat → Int} {x : Int} {a b : Nat} (hab : a ≤ b) (h : ∀ j, a ≤ j → j < b → bt x j = false) : sm c x b = sm c x a := by
  induction b with
  | zero => have : a = 0 := by omega
            subst this; rfl
  | succ b ih =>
    by_cases hb : a = b + 1
    · subst hb; rfl
    · rw [show sm c x (b + 1) = sm c x b + (if bt x b then c b else 0) from rfl, ih (by omega) (fun j h1 h2 => h j h1 (by omega)), h b (by omega) (by omega)]
      simp
theorem bt_hi {x : Int} {a j : Nat} (h0 : 0 ≤ x) (h : x < 2147483648) (ha : a < 32) (e : iShr x (a : Int) = 0) (hj : a ≤ j) : bt x j = false := by
  obtain ⟨y, rfl⟩ := Int.eq_ofNat_of_zero_le h0
  rw [iShr_n (by omega) ha] at e
  have e' : y / 2 ^ a = 0 := by omega
  rw [bt_n]
  have hlt : y < 2 ^ a := by
    rcases Nat.div_eq_zero_iff.mp e' with h | h
    · have := Nat.two_pow_pos a; omega
    · exact h
  exact Nat.testBit_lt_two_pow (Nat.lt_of_lt_of_le hlt (Nat.pow_le_pow_right (by decide) hj))
def St_sumOf_pre (k : Nat) (a : Int) (σ : Hp) : Prop := 0 ≤ a ∧ a < 64 ∧ SB σ k a
def St_sumOf_post (k : Nat) (a : Int) (σ : Hp) (r : Int) (σ' : Hp) : Prop := σ' = σ ∧ r = sm (σ (k + 1)) a 6
def St_sumOf_I4 (k : Nat) (a : Int) (σ0 : Hp) (n : Nat) (v2 v3 : Int) (σ : Hp) : Prop := σ = σ0 ∧ 0 ≤ v3 ∧ v3 ≤ 6 ∧ n = (6 - v3).toNat ∧ v2 = sm (σ0 (k + 1)) a v3.toNat
def St_sumOf_bk : List (Nat × List Item) := [(0, [(.iconst 0, 1, [], []), (.istore_n 2, 1, [], []), (.iconst 0, 1, [], []), (.istore_n 3, 1, [], [])]),
  (4, [(.iload_n 3, 1, [], []), (.bipush 6, 2, [], []), (.if_icmp .ge 33, 3, [40], []), (.iload_n 1, 1, [], []), (.iload_n 3, 1, [], []), (.ishr, 1, [], []), (.ifCond .eq 27, 3, [40], []), (.iload_n 1, 1, [], []), (.iload_n 3, 1, [], []), (.ishr, 1, [], []), (.iconst 1, 1, [], []), (.iand, 1, [], []), (.iconst 1, 1, [], []), (.if_icmp .ne 12, 3, [34], []), (.iload_n 2, 1, [], []), (.aload_n 0, 1, [], []), (.getfield 9, 3, [7, 0, 4, 1, 1, 6], []), (.iload_n 3, 1, [], []), (.iaload, 1, [], []), (.iadd, 1, [], []), (.istore_n 2, 1, [], [])]),
  (34, [(.iinc 3 1, 3, [], []), (.goto (-33), 3, [4], [])]),
  (40, [(.iload_n 2, 1, [], []), (.ireturn, 1, [], [])])]
def St_sumOf_cl : List (Instr × Nat) := []
set_option maxRecDepth 20000 in
theorem St_sumOf_ck : St_sumOf_bk.all (fun b => ax_chB 7 4 cX7_sumOf St_sumOf_cl b.1 b.2) = true := by decide +kernel
def St_sumOf_cs : Ct := (2, 8, 1, (0, 0), fun as σ => (match as with
    | [.inr (.inr (.inl (k, 0, 7))), .inl a1] => St_sumOf_pre k a1 σ
    | _ => False), fun as σ r σ' => (match as with
    | [.inr (.inr (.inl (k, 0, 7))), .inl a1] => St_sumOf_post k a1 σ r σ'
    | _ => False))
theorem St_sumOf_w : ∀ w ∈ ([.instanceMethod yX7_sumOf, .selects yX7_sumOf.cls yX7_sumOf yX7_sumOf, .initialized yX7_sumOf.cls, .code yX7_sumOf cX7_sumOf 4 (some .int)] : List Cond), w ∈ ax_tb := ax_w4 (ax_m3 153 (by decide +kernel) rfl) (ax_m3 154 (by decide +kernel) rfl) (ax_m1 4 (by decide +kernel) rfl) (ax_m3 155 (by decide +kernel) rfl)
theorem St_sumOf_ds : yX7_sumOf.cls ≠ "java/lang/invoke/MethodHandle" ∧ yX7_sumOf.cls ≠ "java/lang/invoke/VarHandle" ∧ (parseMethodDescriptor yX7_sumOf.desc).map (fun d => d.parameters.length) = some 1 := by decide +kernel
def St_sumOf_vc : Prop := ∀ (k : Nat) (a1 : Int) (σ : Hp), ax_H σ → St_sumOf_pre k a1 σ →
  ∃ n' : Nat, k = k ∧ a1 = a1 ∧ St_sumOf_I4 k a1 σ n' 0 0 σ
def St_sumOf_vc4 : Prop := ∀ (k : Nat) (a1 : Int) (σ0 : Hp), St_sumOf_pre k a1 σ0 → ∀ (n : Nat) (v2 : Int) (v3 : Int) (σ : Hp), ax_H σ → St_sumOf_I4 k a1 σ0 n v2 v3 σ →
  (6 ≤ v3 →
    St_sumOf_post k a1 σ0 v2 σ) ∧
  (¬ (6 ≤ v3) →
    (iShr a1 v3 = 0 →
      St_sumOf_post k a1 σ0 v2 σ) ∧
    (¬ (iShr a1 v3 = 0) →
      (¬ iAnd (iShr a1 v3) 1 = 1 →
        ∃ n' : Nat, n' < n ∧ k = k ∧ a1 = a1 ∧ St_sumOf_I4 k a1 σ0 n' v2 (wr (v3 + 1)) σ) ∧
      (¬ (¬ iAnd (iShr a1 v3) 1 = 1) →
        (0 ≤ v3 ∧ v3 < 6) ∧
        ∃ n' : Nat, n' < n ∧ k = k ∧ a1 = a1 ∧ St_sumOf_I4 k a1 σ0 n' (wr (v2 + (σ (k + 1) v3.toNat))) (wr (v3 + 1)) σ)))
theorem St_sumOf_p : St_sumOf_vc := by
  intro k a1 σ hH hp
  exact ⟨6, rfl, rfl, rfl, by omega, by omega, rfl, rfl⟩
theorem St_sumOf_p4 : St_sumOf_vc4 := by
  intro k a1 σ0 hp n v2 v3 σ hH hI
  obtain ⟨rfl, h1, h2, rfl, rfl⟩ := hI
  obtain ⟨p1, p2, hs⟩ := hp
  have hb := bit_01 (x := a1) (j := v3) p1 (by omega) h1 (by omega)
  refine ⟨fun h => ⟨rfl, ?_⟩, fun h => ⟨fun h3 => ⟨rfl, ?_⟩, fun h3 => ?_⟩⟩
  · rw [show v3 = 6 by omega]; rfl
  · refine (sm_none (by omega) (fun j hj _ => bt_hi (a := v3.toNat) p1 (by omega) (by omega) ?_ hj)).symm
    rw [← e_nat h1]; exact h3
  · have e : wr (v3 + 1) = v3 + 1 := wr1 h1 (by omega)
    have en : (v3 + 1).toNat = v3.toNat + 1 := by omega
    rw [e]
    have hR := sm_Rb (c := σ (k + 1)) (x := a1) (n := v3.toNat) (fun j hj => hs j (by omega))
    refine ⟨fun h4 => ?_, fun h4 => ⟨⟨by omega, by omega⟩, ?_⟩⟩
    · refine ⟨(6 - (v3 + 1)).toNat, by omega, rfl, rfl, rfl, by omega, by omega, rfl, ?_⟩
      have : bt a1 v3.toNat = false := by
        cases hq : bt a1 v3.toNat with
        | false => rfl
        | true => exact absurd (hb.mpr hq) h4
      rw [en, sm_s, this]; simp
    · refine ⟨(6 - (v3 + 1)).toNat, by omega, rfl, rfl, rfl, by omega, by omega, rfl, ?_⟩
      have : bt a1 v3.toNat = true := hb.mp (Classical.not_not.mp h4)
      have hc := hs v3.toNat (by omega) this
      rw [en, sm_s, this, wr_id (by omega) (by omega)]; simp
def St_sumOf_I : List AV → Hp → Nat → Nat → List AV → List AV → Hp → Prop := fun as σ0 pc n st ls σ => (match as with
    | [.inr (.inr (.inl (k, 0, 7))), .inl a1] => (bif Nat.beq pc 4 then (match st, ls with
      | [], [.inr (.inr (.inl (k', 0, 7))), .inl a1', .inl v2, .inl v3] => k = k' ∧ a1 = a1' ∧ St_sumOf_I4 k a1 σ0 n v2 v3 σ
      | _, _ => False) else False)
    | _ => False)
def St_sumOf_ct : Nat → Ct := fun n => match n with
  | _ => St_sumOf_cs
set_option maxRecDepth 20000 in
set_option maxHeartbeats 4000000 in
theorem St_sumOf_met {l : Launch} {D : va_G} {ad : Nat → Nat} {ca : Nat → ClassId} {L : Nat} {fx : Nat → Int} : ax_MC l D ad ca L fx yX7_sumOf cX7_sumOf 4 (some .int) 1 St_sumOf_cs := by
  refine ax_met (oc := 7) (ct := St_sumOf_ct) (calls := St_sumOf_cl) (bs := St_sumOf_bk) (cut := fun pc => Nat.beq pc 4) (f := 5) (I := St_sumOf_I) (by decide) rfl rfl St_sumOf_ck (fun _ h => absurd h List.not_mem_nil) ?_ ?_
  · intro as σ0 hp hH
    match as, hp with
    | [.inr (.inr (.inl (k, 0, 7))), .inl a1], hp => exact ⟨rfl, St_sumOf_p k a1 σ0 hH hp⟩
  · intro as σ0 hp n pc st ls σ hH hI
    match as, hp, hI with
    | [.inr (.inr (.inl (k, 0, 7))), .inl a1], hp, hI =>
      rcases ax_bifE hI with ⟨hpc, hI⟩ | ⟨-, hI⟩
      · have := Nat.eq_of_beq_eq_true hpc
        subst this
        match st, ls, hI with
        | [], [.inr (.inr (.inl (k', 0, 7))), .inl a1', .inl v2, .inl v3], hI =>
          obtain ⟨rfl, rfl, hI⟩ := hI
          exact St_sumOf_p4 k a1 σ0 hp n v2 v3 σ hH hI
      exact False.elim hI
def St_sumCares_pre (k : Nat) (σ : Hp) : Prop := SS σ k
def St_sumCares_post (k : Nat) (σ : Hp) (r : Int) (σ' : Hp) : Prop := σ' = σ ∧ r = sm (σ (k + 1)) 63 6
def St_sumCares_bk : List (Nat × List Item) := [(0, [(.aload_n 0, 1, [], []), (.bipush 63, 2, [], []), (.invokevirtual 46, 3, [0], []), (.ireturn, 1, [], [])])]
def St_sumCares_cl : List (Instr × Nat) := [(.invokevirtual 46, 0)]
set_option maxRecDepth 20000 in
theorem St_sumCares_ck : St_sumCares_bk.all (fun b => ax_chB 7 1 cX7_sumCares St_sumCares_cl b.1 b.2) = true := by decide +kernel
def St_sumCares_cs : Ct := (1, 8, 1, (0, 0), fun as σ => (match as with
    | [.inr (.inr (.inl (k, 0, 7)))] => St_sumCares_pre k σ
    | _ => False), fun as σ r σ' => (match as with
    | [.inr (.inr (.inl (k, 0, 7)))] => St_sumCares_post k σ r σ'
    | _ => False))
theorem St_sumCares_w : ∀ w ∈ ([.instanceMethod yX7_sumCares, .selects yX7_sumCares.cls yX7_sumCares yX7_sumCares, .initialized yX7_sumCares.cls, .code yX7_sumCares cX7_sumCares 1 (some .int)] : List Cond), w ∈ ax_tb := ax_w4 (ax_m4 220 (by decide +kernel) rfl) (ax_m4 221 (by decide +kernel) rfl) (ax_m1 4 (by decide +kernel) rfl) (ax_m4 222 (by decide +kernel) rfl)
theorem St_sumCares_ds : yX7_sumCares.cls ≠ "java/lang/invoke/MethodHandle" ∧ yX7_sumCares.cls ≠ "java/lang/invoke/VarHandle" ∧ (parseMethodDescriptor yX7_sumCares.desc).map (fun d => d.parameters.length) = some 0 := by decide +kernel
def St_sumCares_vc : Prop := ∀ (k : Nat) (σ : Hp), ax_H σ → St_sumCares_pre k σ →
  St_sumOf_pre k 63 σ ∧
  ∀ (r2 : Int) (σ1 : Hp), St_sumOf_post k 63 σ r2 σ1 →
  St_sumCares_post k σ r2 σ1
theorem St_sumCares_p : St_sumCares_vc := by
  intro k σ hH hp
  exact ⟨⟨by decide, by decide, SS.sb hp 63⟩, fun r σ1 h => h⟩
def St_sumCares_I : List AV → Hp → Nat → Nat → List AV → List AV → Hp → Prop := fun as σ0 pc n st ls σ => (match as with
    | [.inr (.inr (.inl (k, 0, 7)))] => False
    | _ => False)
def St_sumCares_ct : Nat → Ct := fun n => match n with
  | 0 => St_sumOf_cs
  | _ => St_sumCares_cs
set_option maxRecDepth 20000 in
set_option maxHeartbeats 4000000 in
theorem St_sumCares_met {l : Launch} {D : va_G} {ad : Nat → Nat} {ca : Nat → ClassId} {L : Nat} {fx : Nat → Int} : ax_MC l D ad ca L fx yX7_sumCares cX7_sumCares 1 (some .int) 2 St_sumCares_cs := by
  refine ax_met (oc := 7) (ct := St_sumCares_ct) (calls := St_sumCares_cl) (bs := St_sumCares_bk) (cut := fun pc => false) (f := 2) (I := St_sumCares_I) (by decide) rfl rfl St_sumCares_ck (List.forall_mem_cons.mpr ⟨ax_cwV St_sumOf_met (by decide) (by decide) rfl (by decide) rfl (ax_m4 223 (by decide +kernel) rfl) St_sumOf_w rfl St_sumOf_ds, fun _ h => absurd h List.not_mem_nil⟩) ?_ ?_
  · intro as σ0 hp hH
    match as, hp with
    | [.inr (.inr (.inl (k, 0, 7)))], hp => exact ⟨rfl, St_sumCares_p k σ0 hH hp⟩
  · intro as σ0 hp n pc st ls σ hH hI
    match as, hp, hI with
    | [.inr (.inr (.inl (k, 0, 7)))], hp, hI => exact False.elim hI
/-- how many knows there are, of the first n -/
def kn (w : Nat → Int) : Nat → Nat
  | 0 => 0
  | n + 1 => kn w n + pcn (w n).toNat 12
theorem pcn_le (x n : Nat) : pcn x n ≤ n := by
  induction n with
  | zero => exact Nat.le_refl 0
  | succ n ih => unfold pcn; split <;> omega
theorem kn_le (w : Nat → Int) (n : Nat) : kn w n ≤ 12 * n := by
  induction n with
  | zero => exact Nat.le_refl 0
  | succ n ih => unfold kn; have := pcn_le (w n).toNat 12; omega
theorem kn_ext {c d : Nat → Int} {n : Nat} (h : ∀ j, j < n → c j = d j) : kn c n = kn d n := by
  induction n with
  | zero => rfl
  | succ n ih => unfold kn; rw [ih (fun j hj => h j (by omega)), h n (by omega)]
def St_countKnows_pre (k : Nat) (σ : Hp) : Prop := SS σ k
def St_countKnows_post (k : Nat) (σ : Hp) (r : Int) (σ' : Hp) : Prop := σ' = σ ∧ r = (kn (σ (k + 2)) 6 : Nat)
def St_countKnows_I4 (k : Nat) (σ0 : Hp) (n : Nat) (v1 v2 : Int) (σ : Hp) : Prop := σ = σ0 ∧ 0 ≤ v2 ∧ v2 ≤ 6 ∧ n = (6 - v2).toNat ∧ v1 = (kn (σ0 (k + 2)) v2.toNat : Nat)
def St_countKnows_bk : List (Nat × List Item) := [(0, [(.iconst 0, 1, [], []), (.istore_n 1, 1, [], []), (.iconst 0, 1, [], []), (.istore_n 2, 1, [], [])]),
  (4, [(.iload_n 2, 1, [], []), (.bipush 6, 2, [], []), (.if_icmp .ge 21, 3, [28], []), (.iload_n 1, 1, [], []), (.aload_n 0, 1, [], []), (.getfield 15, 3, [7, 1, 4, 2, 1, 6], []), (.iload_n 2, 1, [], []), (.iaload, 1, [], []), (.invokestatic 36, 3, [0], []), (.iadd, 1, [], []), (.istore_n 1, 1, [], []), (.iinc 2 1, 3, [], []), (.goto (-21), 3, [4], [])]),
  (28, [(.iload_n 1, 1, [], []), (.ireturn, 1, [], [])])]
def St_countKnows_cl : List (Instr × Nat) := [(.invokestatic 36, 0)]
set_option maxRecDepth 20000 in
theorem St_countKnows_ck : St_countKnows_bk.all (fun b => ax_chB 7 3 cX7_countKnows St_countKnows_cl b.1 b.2) = true := by decide +kernel
def St_countKnows_cs : Ct := (1, 8, 1, (0, 0), fun as σ => (match as with
    | [.inr (.inr (.inl (k, 0, 7)))] => St_countKnows_pre k σ
    | _ => False), fun as σ r σ' => (match as with
    | [.inr (.inr (.inl (k, 0, 7)))] => St_countKnows_post k σ r σ'
    | _ => False))
theorem St_countKnows_w : ∀ w ∈ ([.instanceMethod yX7_countKnows, .selects yX7_countKnows.cls yX7_countKnows yX7_countKnows, .initialized yX7_countKnows.cls, .code yX7_countKnows cX7_countKnows 3 (some .int)] : List Cond), w ∈ ax_tb := ax_w4 (ax_m4 32 (by decide +kernel) rfl) (ax_m4 33 (by decide +kernel) rfl) (ax_m1 4 (by decide +kernel) rfl) (ax_m4 34 (by decide +kernel) rfl)
theorem St_countKnows_ds : yX7_countKnows.cls ≠ "java/lang/invoke/MethodHandle" ∧ yX7_countKnows.cls ≠ "java/lang/invoke/VarHandle" ∧ (parseMethodDescriptor yX7_countKnows.desc).map (fun d => d.parameters.length) = some 0 := by decide +kernel
def St_countKnows_vc : Prop := ∀ (k : Nat) (σ : Hp), ax_H σ → St_countKnows_pre k σ →
  ∃ n' : Nat, k = k ∧ St_countKnows_I4 k σ n' 0 0 σ
def St_countKnows_vc4 : Prop := ∀ (k : Nat) (σ0 : Hp), St_countKnows_pre k σ0 → ∀ (n : Nat) (v1 : Int) (v2 : Int) (σ : Hp), ax_H σ → St_countKnows_I4 k σ0 n v1 v2 σ →
  (6 ≤ v2 →
    St_countKnows_post k σ0 v1 σ) ∧
  (¬ (6 ≤ v2) →
    (0 ≤ v2 ∧ v2 < 6) ∧
    Ji_bitCount_pre (σ (k + 2) v2.toNat) σ ∧
    ∀ (r2 : Int) (σ1 : Hp), Ji_bitCount_post (σ (k + 2) v2.toNat) σ r2 σ1 →
    ∃ n' : Nat, n' < n ∧ k = k ∧ St_countKnows_I4 k σ0 n' (wr (v1 + r2)) (wr (v2 + 1)) σ1)
theorem St_countKnows_p : St_countKnows_vc := by
  intro k σ hH hp
  exact ⟨6, rfl, rfl, by omega, by omega, rfl, rfl⟩
theorem St_countKnows_p4 : St_countKnows_vc4 := by
  intro k σ0 hp n v1 v2 σ hH hI
  obtain ⟨rfl, h1, h2, rfl, rfl⟩ := hI
  refine ⟨fun h => ⟨rfl, by rw [show v2 = 6 by omega]; rfl⟩, fun h => ⟨⟨h1, by omega⟩, ?_⟩⟩
  have hc := (hp v2.toNat (by omega)).2
  refine ⟨⟨hc.1, by omega⟩, ?_⟩
  rintro r σ1 ⟨rfl, rfl⟩
  rw [wr1 h1 (by omega)]
  have hk := kn_le (σ1 (k + 2)) v2.toNat
  have hq := pcn_le (σ1 (k + 2) v2.toNat).toNat 12
  refine ⟨(6 - (v2 + 1)).toNat, by omega, rfl, rfl, by omega, by omega, rfl, ?_⟩
  rw [show (v2 + 1).toNat = v2.toNat + 1 by omega]
  conv => rhs; unfold kn
  rw [wr_id (by omega) (by omega)]; omega
def St_countKnows_I : List AV → Hp → Nat → Nat → List AV → List AV → Hp → Prop := fun as σ0 pc n st ls σ => (match as with
    | [.inr (.inr (.inl (k, 0, 7)))] => (bif Nat.beq pc 4 then (match st, ls with
      | [], [.inr (.inr (.inl (k', 0, 7))), .inl v1, .inl v2] => k = k' ∧ St_countKnows_I4 k σ0 n v1 v2 σ
      | _, _ => False) else False)
    | _ => False)
def St_countKnows_ct : Nat → Ct := fun n => match n with
  | 0 => Ji_bitCount_cs
  | _ => St_countKnows_cs
set_option maxRecDepth 20000 in
set_option maxHeartbeats 4000000 in
theorem St_countKnows_met {l : Launch} {D : va_G} {ad : Nat → Nat} {ca : Nat → ClassId} {L : Nat} {fx : Nat → Int} : ax_MC l D ad ca L fx yX7_countKnows cX7_countKnows 3 (some .int) 2 St_countKnows_cs := by
  refine ax_met (oc := 7) (ct := St_countKnows_ct) (calls := St_countKnows_cl) (bs := St_countKnows_bk) (cut := fun pc => Nat.beq pc 4) (f := 4) (I := St_countKnows_I) (by decide) rfl rfl St_countKnows_ck (List.forall_mem_cons.mpr ⟨ax_cwS Ji_bitCount_met (by decide) (by decide) (ax_m4 35 (by decide +kernel) rfl) Ji_bitCount_w rfl Ji_bitCount_ds, fun _ h => absurd h List.not_mem_nil⟩) ?_ ?_
  · intro as σ0 hp hH
    match as, hp with
    | [.inr (.inr (.inl (k, 0, 7)))], hp => exact ⟨rfl, St_countKnows_p k σ0 hH hp⟩
  · intro as σ0 hp n pc st ls σ hH hI
    match as, hp, hI with
    | [.inr (.inr (.inl (k, 0, 7)))], hp, hI =>
      rcases ax_bifE hI with ⟨hpc, hI⟩ | ⟨-, hI⟩
      · have := Nat.eq_of_beq_eq_true hpc
        subst this
        match st, ls, hI with
        | [], [.inr (.inr (.inl (k', 0, 7))), .inl v1, .inl v2], hI =>
          obtain ⟨rfl, hI⟩ := hI
          exact St_countKnows_p4 k σ0 hp n v1 v2 σ hH hI
      exact False.elim hI
/-- who knows of one's cares, of the first n -/
def kb (w : Nat → Int) (o : Nat) : Nat → Nat
  | 0 => 0
  | n + 1 => kb w o n ||| (if bt (w n) o then 2 ^ n else 0)
theorem kb_lt (w : Nat → Int) (o n : Nat) : kb w o n < 2 ^ n := by
  induction n with
  | zero => simp [kb]
  | succ n ih =>
    unfold kb
    apply Nat.or_lt_two_pow
    · exact Nat.lt_of_lt_of_le ih (Nat.pow_le_pow_right (by decide) (by omega))
    · split
      · exact Nat.pow_lt_pow_right (by decide) (by omega)
      · exact Nat.two_pow_pos _
theorem kb_ext {c d : Nat → Int} {o n : Nat} (h : ∀ j, j < n → c j = d j) : kb c o n = kb d o n := by
  induction n with
  | zero => rfl
  | succ n ih => unfold kb; rw [ih (fun j hj => h j (by omega)), h n (by omega)]
def St_knowersOf_pre (k : Nat) (a : Int) (σ : Hp) : Prop := 0 ≤ a ∧ a < 6 ∧ SS σ k
def St_knowersOf_post (k : Nat) (a : Int) (σ : Hp) (r : Int) (σ' : Hp) : Prop := σ' = σ ∧ r = (kb (σ (k + 2)) a.toNat 6 : Nat)
def St_knowersOf_I4 (k : Nat) (a : Int) (σ0 : Hp) (n : Nat) (v2 v3 : Int) (σ : Hp) : Prop := σ = σ0 ∧ 0 ≤ v3 ∧ v3 ≤ 6 ∧ n = (6 - v3).toNat ∧ v2 = (kb (σ0 (k + 2)) a.toNat v3.toNat : Nat)
def St_knowersOf_bk : List (Nat × List Item) := [(0, [(.iconst 0, 1, [], []), (.istore_n 2, 1, [], []), (.iconst 0, 1, [], []), (.istore_n 3, 1, [], [])]),
  (4, [(.iload_n 3, 1, [], []), (.bipush 6, 2, [], []), (.if_icmp .ge 24, 3, [31], []), (.aload_n 0, 1, [], []), (.iload_n 3, 1, [], []), (.iload_n 1, 1, [], []), (.invokevirtual 42, 3, [0], []), (.ifCond .eq 9, 3, [25], []), (.iload_n 2, 1, [], []), (.iconst 1, 1, [], []), (.iload_n 3, 1, [], []), (.ishl, 1, [], []), (.ior, 1, [], []), (.istore_n 2, 1, [], [])]),
  (25, [(.iinc 3 1, 3, [], []), (.goto (-24), 3, [4], [])]),
  (31, [(.iload_n 2, 1, [], []), (.ireturn, 1, [], [])])]
def St_knowersOf_cl : List (Instr × Nat) := [(.invokevirtual 42, 0)]
set_option maxRecDepth 20000 in
theorem St_knowersOf_ck : St_knowersOf_bk.all (fun b => ax_chB 7 4 cX7_knowersOf St_knowersOf_cl b.1 b.2) = true := by decide +kernel
def St_knowersOf_cs : Ct := (2, 8, 1, (0, 0), fun as σ => (match as with
    | [.inr (.inr (.inl (k, 0, 7))), .inl a1] => St_knowersOf_pre k a1 σ
    | _ => False), fun as σ r σ' => (match as with
    | [.inr (.inr (.inl (k, 0, 7))), .inl a1] => St_knowersOf_post k a1 σ r σ'
    | _ => False))
theorem St_knowersOf_w : ∀ w ∈ ([.instanceMethod yX7_knowersOf, .selects yX7_knowersOf.cls yX7_knowersOf yX7_knowersOf, .initialized yX7_knowersOf.cls, .code yX7_knowersOf cX7_knowersOf 4 (some .int)] : List Cond), w ∈ ax_tb := ax_w4 (ax_m3 194 (by decide +kernel) rfl) (ax_m3 195 (by decide +kernel) rfl) (ax_m1 4 (by decide +kernel) rfl) (ax_m3 196 (by decide +kernel) rfl)
theorem St_knowersOf_ds : yX7_knowersOf.cls ≠ "java/lang/invoke/MethodHandle" ∧ yX7_knowersOf.cls ≠ "java/lang/invoke/VarHandle" ∧ (parseMethodDescriptor yX7_knowersOf.desc).map (fun d => d.parameters.length) = some 1 := by decide +kernel
def St_knowersOf_vc : Prop := ∀ (k : Nat) (a1 : Int) (σ : Hp), ax_H σ → St_knowersOf_pre k a1 σ →
  ∃ n' : Nat, k = k ∧ a1 = a1 ∧ St_knowersOf_I4 k a1 σ n' 0 0 σ
def St_knowersOf_vc4 : Prop := ∀ (k : Nat) (a1 : Int) (σ0 : Hp), St_knowersOf_pre k a1 σ0 → ∀ (n : Nat) (v2 : Int) (v3 : Int) (σ : Hp), ax_H σ → St_knowersOf_I4 k a1 σ0 n v2 v3 σ →
  (6 ≤ v3 →
    St_knowersOf_post k a1 σ0 v2 σ) ∧
  (¬ (6 ≤ v3) →
    St_isKnown_pre k v3 a1 σ ∧
    ∀ (r2 : Int) (σ1 : Hp), St_isKnown_post k v3 a1 σ r2 σ1 →
    (r2 = 0 →
      ∃ n' : Nat, n' < n ∧ k = k ∧ a1 = a1 ∧ St_knowersOf_I4 k a1 σ0 n' v2 (wr (v3 + 1)) σ1) ∧
    (¬ (r2 = 0) →
      ∃ n' : Nat, n' < n ∧ k = k ∧ a1 = a1 ∧ St_knowersOf_I4 k a1 σ0 n' (iOr v2 (iShl 1 v3)) (wr (v3 + 1)) σ1))
theorem St_knowersOf_p : St_knowersOf_vc := by
  intro k a σ hH hp
  exact ⟨6, rfl, rfl, rfl, by omega, by omega, rfl, rfl⟩
theorem St_knowersOf_p4 : St_knowersOf_vc4 := by
  intro k a σ0 hp n v2 v3 σ hH hI
  obtain ⟨rfl, h1, h2, rfl, rfl⟩ := hI
  obtain ⟨p1, p2, hs⟩ := hp
  refine ⟨fun h => ⟨rfl, by rw [show v3 = 6 by omega]; rfl⟩, fun h => ⟨⟨h1, by omega, p1, p2, hs⟩, ?_⟩⟩
  rintro r σ1 ⟨rfl, rfl⟩
  rw [wr1 h1 (by omega)]
  have en : (v3 + 1).toNat = v3.toNat + 1 := by omega
  refine ⟨fun h4 => ⟨(6 - (v3 + 1)).toNat, by omega, rfl, rfl, rfl, by omega, by omega, rfl, ?_⟩, fun h4 => ⟨(6 - (v3 + 1)).toNat, by omega, rfl, rfl, rfl, by omega, by omega, rfl, ?_⟩⟩
  · rw [en]
    conv => rhs; unfold kb
    cases hb : bt (σ1 (k + 2) v3.toNat) a.toNat with
    | false => simp
    | true => simp [hb] at h4
  · rw [en]
    conv => rhs; unfold kb
    cases hb : bt (σ1 (k + 2) v3.toNat) a.toNat with
    | false => simp [hb] at h4
    | true =>
      have hl := kb_lt (σ1 (k + 2)) a.toNat v3.toNat
      have h6 : 2 ^ v3.toNat ≤ 2 ^ 6 := Nat.pow_le_pow_right (by decide) (by omega)
      rw [shl_1 h1 (by omega), iOr_n (by omega) (by omega)]
      simp
def St_knowersOf_I : List AV → Hp → Nat → Nat → List AV → List AV → Hp → Prop := fun as σ0 pc n st ls σ => (match as with
    | [.inr (.inr (.inl (k, 0, 7))), .inl a1] => (bif Nat.beq pc 4 then (match st, ls with
      | [], [.inr (.inr (.inl (k', 0, 7))), .inl a1', .inl v2, .inl v3] => k = k' ∧ a1 = a1' ∧ St_knowersOf_I4 k a1 σ0 n v2 v3 σ
      | _, _ => False) else False)
    | _ => False)
def St_knowersOf_ct : Nat → Ct := fun n => match n with
  | 0 => St_isKnown_cs
  | _ => St_knowersOf_cs
set_option maxRecDepth 20000 in
set_option maxHeartbeats 4000000 in
theorem St_knowersOf_met {l : Launch} {D : va_G} {ad : Nat → Nat} {ca : Nat → ClassId} {L : Nat} {fx : Nat → Int} : ax_MC l D ad ca L fx yX7_knowersOf cX7_knowersOf 4 (some .int) 2 St_knowersOf_cs := by
  refine ax_met (oc := 7) (ct := St_knowersOf_ct) (calls := St_knowersOf_cl) (bs := St_knowersOf_bk) (cut := fun pc => Nat.beq pc 4) (f := 5) (I := St_knowersOf_I) (by decide) rfl rfl St_knowersOf_ck (List.forall_mem_cons.mpr ⟨ax_cwV St_isKnown_met (by decide) (by decide) rfl (by decide) rfl (ax_m3 197 (by decide +kernel) rfl) St_isKnown_w rfl St_isKnown_ds, fun _ h => absurd h List.not_mem_nil⟩) ?_ ?_
  · intro as σ0 hp hH
    match as, hp with
    | [.inr (.inr (.inl (k, 0, 7))), .inl a1], hp => exact ⟨rfl, St_knowersOf_p k a1 σ0 hH hp⟩
  · intro as σ0 hp n pc st ls σ hH hI
    match as, hp, hI with
    | [.inr (.inr (.inl (k, 0, 7))), .inl a1], hp, hI =>
      rcases ax_bifE hI with ⟨hpc, hI⟩ | ⟨-, hI⟩
      · have := Nat.eq_of_beq_eq_true hpc
        subst this
        match st, ls, hI with
        | [], [.inr (.inr (.inl (k', 0, 7))), .inl a1', .inl v2, .inl v3], hI =>
          obtain ⟨rfl, rfl, hI⟩ := hI
          exact St_knowersOf_p4 k a1 σ0 hp n v2 v3 σ hH hI
      exact False.elim hI

theorem H_dyed {σ : Hp} {k : Nat} (hH : ax_H σ) (hk : SO k) : σ k 5 = 0 ∨ σ k 5 = 1 := by
  have h := hH k
  rcases hk with rfl | rfl | rfl <;> exact h 5 (by decide)
def St_copy_pre (k q : Nat) (_ : Hp) : Prop := SO k ∧ SO q ∧ k ≠ q
def St_copy_post (k q : Nat) (σ : Hp) (σ' : Hp) : Prop := Fr [k, k + 1, k + 2] σ σ' ∧ stX σ' k = stX σ q
def St_copy_I2 (k q : Nat) (σ0 : Hp) (n : Nat) (v2 : Int) (σ : Hp) : Prop := ∃ j : Nat, v2 = j ∧ j ≤ 6 ∧ n = 6 - j ∧ Fr [k + 1, k + 2] σ0 σ ∧ ∀ i, i < j → σ (k + 1) i = σ0 (q + 1) i ∧ σ (k + 2) i = σ0 (q + 2) i
def St_copy_bk : List (Nat × List Item) := [(0, [(.iconst 0, 1, [], []), (.istore_n 2, 1, [], [])]),
  (2, [(.iload_n 2, 1, [], []), (.bipush 6, 2, [], []), (.if_icmp .ge 33, 3, [38], []), (.aload_n 0, 1, [], []), (.getfield 9, 3, [7, 0, 4, 1, 1, 6], []), (.iload_n 2, 1, [], []), (.aload_n 1, 1, [], []), (.getfield 9, 3, [7, 0, 4, 1, 1, 6], []), (.iload_n 2, 1, [], []), (.iaload, 1, [], []), (.iastore, 1, [], []), (.aload_n 0, 1, [], []), (.getfield 15, 3, [7, 1, 4, 2, 1, 6], []), (.iload_n 2, 1, [], []), (.aload_n 1, 1, [], []), (.getfield 15, 3, [7, 1, 4, 2, 1, 6], []), (.iload_n 2, 1, [], []), (.iaload, 1, [], []), (.iastore, 1, [], []), (.iinc 2 1, 3, [], []), (.goto (-33), 3, [2], [])]),
  (38, [(.aload_n 0, 1, [], []), (.aload_n 1, 1, [], []), (.getfield 18, 3, [7, 2, 0, 0, 0, 0], []), (.putfield 18, 3, [7, 2, 0, 0, 0, 0], []), (.aload_n 0, 1, [], []), (.aload_n 1, 1, [], []), (.getfield 22, 3, [7, 3, 0, 0, 0, 0], []), (.putfield 22, 3, [7, 3, 0, 0, 0, 0], []), (.aload_n 0, 1, [], []), (.aload_n 1, 1, [], []), (.getfield 25, 3, [7, 4, 0, 0, 0, 0], []), (.putfield 25, 3, [7, 4, 0, 0, 0, 0], []), (.aload_n 0, 1, [], []), (.aload_n 1, 1, [], []), (.getfield 28, 3, [7, 5, 1, 0, 0, 0], []), (.putfield 28, 3, [7, 5, 1, 0, 0, 0], []), (.return_, 1, [], [])])]
def St_copy_cl : List (Instr × Nat) := []
set_option maxRecDepth 20000 in
theorem St_copy_ck : St_copy_bk.all (fun b => ax_chB 7 3 cX7_copy St_copy_cl b.1 b.2) = true := by decide +kernel
def St_copy_cs : Ct := (2, 8, 0, (0, 0), fun as σ => (match as with
    | [.inr (.inr (.inl (k, 0, 7))), .inr (.inr (.inl (q1, 0, 7)))] => St_copy_pre k q1 σ
    | _ => False), fun as σ r σ' => (match as with
    | [.inr (.inr (.inl (k, 0, 7))), .inr (.inr (.inl (q1, 0, 7)))] => St_copy_post k q1 σ σ'
    | _ => False))
theorem St_copy_w : ∀ w ∈ ([.instanceMethod yX7_copy, .selects yX7_copy.cls yX7_copy yX7_copy, .initialized yX7_copy.cls, .code yX7_copy cX7_copy 3 none] : List Cond), w ∈ ax_tb := ax_w4 (ax_m4 86 (by decide +kernel) rfl) (ax_m4 87 (by decide +kernel) rfl) (ax_m1 4 (by decide +kernel) rfl) (ax_m4 88 (by decide +kernel) rfl)
theorem St_copy_ds : yX7_copy.cls ≠ "java/lang/invoke/MethodHandle" ∧ yX7_copy.cls ≠ "java/lang/invoke/VarHandle" ∧ (parseMethodDescriptor yX7_copy.desc).map (fun d => d.parameters.length) = some 1 := by decide +kernel
def St_copy_vc : Prop := ∀ (k : Nat) (q1 : Nat) (σ : Hp), ax_H σ → St_copy_pre k q1 σ →
  ∃ n' : Nat, k = k ∧ q1 = q1 ∧ St_copy_I2 k q1 σ n' 0 σ
def St_copy_vc2 : Prop := ∀ (k : Nat) (q1 : Nat) (σ0 : Hp), St_copy_pre k q1 σ0 → ∀ (n : Nat) (v2 : Int) (σ : Hp), ax_H σ → St_copy_I2 k q1 σ0 n v2 σ →
  (6 ≤ v2 →
    ∀ σ1 : Hp, σ1 = hp σ k 2 (σ q1 2) →
    ∀ σ2 : Hp, σ2 = hp σ1 k 3 (σ1 q1 3) →
    ∀ σ3 : Hp, σ3 = hp σ2 k 4 (σ2 q1 4) →
    (σ3 q1 5 = 0 ∨ σ3 q1 5 = 1) ∧
    ∀ σ4 : Hp, σ4 = hp σ3 k 5 (σ3 q1 5) →
    St_copy_post k q1 σ0 σ4) ∧
  (¬ (6 ≤ v2) →
    (0 ≤ v2 ∧ v2 < 6) ∧
    (0 ≤ v2 ∧ v2 < 6) ∧
    ∀ σ5 : Hp, σ5 = hp σ (k + 1) v2.toNat (σ (q1 + 1) v2.toNat) →
    (0 ≤ v2 ∧ v2 < 6) ∧
    (0 ≤ v2 ∧ v2 < 6) ∧
    ∀ σ6 : Hp, σ6 = hp σ5 (k + 2) v2.toNat (σ5 (q1 + 2) v2.toNat) →
    ∃ n' : Nat, n' < n ∧ k = k ∧ q1 = q1 ∧ St_copy_I2 k q1 σ0 n' (wr (v2 + 1)) σ6)
theorem St_copy_p : St_copy_vc := by
  intro k q σ hH hp
  exact ⟨6, rfl, rfl, 0, rfl, by omega, rfl, Fr.rf, fun i hi => absurd hi (by omega)⟩
theorem St_copy_p2 : St_copy_vc2 := by
  intro k q σ0 hp n v2 σ hH hI
  obtain ⟨hk, hq, hne⟩ := hp
  obtain ⟨j, rfl, hj, rfl, hf, hr⟩ := hI
  have ho : ∀ d e, d < 3 → e < 3 → k + d ≠ q + e := by
    intro d e hd he
    rcases hk with rfl | rfl | rfl <;> rcases hq with rfl | rfl | rfl <;> omega
  have hqk : ∀ d, d < 3 → σ (q + d) = σ0 (q + d) := fun d hd => hf _ (by
    have h1 := ho 1 d (by omega) hd
    have h2 := ho 2 d (by omega) hd
    simp only [List.mem_cons, List.not_mem_nil, or_false]; omega)
  have hq0 := hqk 0 (by omega)
  rw [Nat.add_zero] at hq0
  refine ⟨fun h => ?_, fun h => ?_⟩
  · have hj6 : j = 6 := by omega
    subst hj6
    rintro σ1 rfl σ2 rfl σ3 rfl
    have hk0 := ho 0 0 (by omega) (by omega)
    have e3 : hp (hp (hp σ k 2 (σ q 2)) k 3 (hp σ k 2 (σ q 2) q 3)) k 4 (hp (hp σ k 2 (σ q 2)) k 3 (hp σ k 2 (σ q 2) q 3) q 4) q = σ0 q := by
      rw [hp_ne (by omega), hp_ne (by omega), hp_ne (by omega), hq0]
    have e2 : hp (hp σ k 2 (σ q 2)) k 3 (hp σ k 2 (σ q 2) q 3) q = σ0 q := by rw [hp_ne (by omega), hp_ne (by omega), hq0]
    have e1 : hp σ k 2 (σ q 2) q = σ0 q := by rw [hp_ne (by omega), hq0]
    refine ⟨?_, ?_⟩
    · rw [e3, ← hq0]; exact H_dyed hH hq
    · rintro σ4 rfl
      refine ⟨?_, ?_⟩
      · exact Fr.hp (Fr.hp (Fr.hp (Fr.hp (hf.mono (by simp)) (by simp)) (by simp)) (by simp)) (by simp)
      · unfold stX
        rw [e3, e2, e1, hq0]
        have hne : ∀ d, 1 ≤ d → d < 3 → ∀ f : Nat → Int, hp (hp (hp (hp σ k 2 (σ0 q 2)) k 3 (σ0 q 3)) k 4 (σ0 q 4)) k 5 (σ0 q 5) (k + d) = σ (k + d) := by
          intro d h1 h2 _
          rw [hp_ne (by omega), hp_ne (by omega), hp_ne (by omega), hp_ne (by omega)]
        rw [hne 1 (by omega) (by omega) (fun _ => 0), hne 2 (by omega) (by omega) (fun _ => 0)]
        rw [tr_ext (fun i hi => (hr i hi).1), tr_ext (f := σ (k + 2)) (fun i hi => (hr i hi).2)]
        simp [hp_rd]
  · refine ⟨⟨by omega, by omega⟩, ⟨by omega, by omega⟩, ?_⟩
    rintro σ5 rfl
    refine ⟨⟨by omega, by omega⟩, ⟨by omega, by omega⟩, ?_⟩
    rintro σ6 rfl
    have h21 := ho 1 2 (by omega) (by omega)
    rw [wr1 (by omega) (by omega), hp_ne (k' := q + 2) (by omega), hqk 1 (by omega), hqk 2 (by omega)]
    refine ⟨6 - (j + 1), by omega, rfl, rfl, j + 1, by omega, by omega, rfl, Fr.hp (Fr.hp hf (by simp)) (by simp), ?_⟩
    intro i hi
    simp only [hp_rd, Int.toNat_natCast]
    by_cases hij : i = j
    · subst hij; simp
    · have := hr i (by omega)
      simp [hij, this]
def St_copy_I : List AV → Hp → Nat → Nat → List AV → List AV → Hp → Prop := fun as σ0 pc n st ls σ => (match as with
    | [.inr (.inr (.inl (k, 0, 7))), .inr (.inr (.inl (q1, 0, 7)))] => (bif Nat.beq pc 2 then (match st, ls with
      | [], [.inr (.inr (.inl (k', 0, 7))), .inr (.inr (.inl (q1', 0, 7))), .inl v2] => k = k' ∧ q1 = q1' ∧ St_copy_I2 k q1 σ0 n v2 σ
      | _, _ => False) else False)
    | _ => False)
def St_copy_ct : Nat → Ct := fun n => match n with
  | _ => St_copy_cs
set_option maxRecDepth 20000 in
set_option maxHeartbeats 4000000 in
theorem St_copy_met {l : Launch} {D : va_G} {ad : Nat → Nat} {ca : Nat → ClassId} {L : Nat} {fx : Nat → Int} : ax_MC l D ad ca L fx yX7_copy cX7_copy 3 none 1 St_copy_cs := by
  refine ax_met (oc := 7) (ct := St_copy_ct) (calls := St_copy_cl) (bs := St_copy_bk) (cut := fun pc => Nat.beq pc 2) (f := 4) (I := St_copy_I) (by decide) rfl rfl St_copy_ck (fun _ h => absurd h List.not_mem_nil) ?_ ?_
  · intro as σ0 hp hH
    match as, hp with
    | [.inr (.inr (.inl (k, 0, 7))), .inr (.inr (.inl (q1, 0, 7)))], hp => exact ⟨rfl, St_copy_p k q1 σ0 hH hp⟩
  · intro as σ0 hp n pc st ls σ hH hI
    match as, hp, hI with
    | [.inr (.inr (.inl (k, 0, 7))), .inr (.inr (.inl (q1, 0, 7)))], hp, hI =>
      rcases ax_bifE hI with ⟨hpc, hI⟩ | ⟨-, hI⟩
      · have := Nat.eq_of_beq_eq_true hpc
        subst this
        match st, ls, hI with
        | [], [.inr (.inr (.inl (k', 0, 7))), .inr (.inr (.inl (q1', 0, 7))), .inl v2], hI =>
          obtain ⟨rfl, rfl, hI⟩ := hI
          exact St_copy_p2 k q1 σ0 hp n v2 σ hH hI
      exact False.elim hI
/-- a row of 16 numbers as a state -/
def rowS (f : Nat → Int) (b : Nat) : Sta := (tr 6 (fun j => f (b + j)), tr 6 (fun j => f (b + 6 + j)), f (b + 12), f (b + 13), f (b + 14), f (b + 15))
def RO (q : Nat) : Prop := q = 15 ∨ q = 17
def St_write_pre (k q n : Nat) (a : Int) (_ : Hp) : Prop := SO k ∧ RO q ∧ 0 ≤ a ∧ a * 16 + 16 ≤ (n : Int) ∧ n ≤ 1000
def St_write_post (k q _n : Nat) (a : Int) (σ : Hp) (σ' : Hp) : Prop := Fr [q] σ σ' ∧ rowS (σ' q) (16 * a.toNat) = stX σ k ∧ ∀ i, i < 16 * a.toNat ∨ 16 * a.toNat + 16 ≤ i → σ' q i = σ q i
def St_write_I22 (k q _n : Nat) (a : Int) (σ0 : Hp) (m : Nat) (v3 v4 : Int) (σ : Hp) : Prop := ∃ j : Nat, v3 = (16 * a.toNat : Nat) ∧ v4 = j ∧ j ≤ 6 ∧ m = 6 - j ∧ Fr [q] σ0 σ ∧ (∀ i, i < j → σ q (16 * a.toNat + i) = σ0 (k + 1) i ∧ σ q (16 * a.toNat + 6 + i) = σ0 (k + 2) i) ∧ ∀ i, i < 16 * a.toNat ∨ 16 * a.toNat + 16 ≤ i → σ q i = σ0 q i
def St_write_bk : List (Nat × List Item) := [(0, [(.iload_n 2, 1, [], []), (.bipush 16, 2, [], []), (.imul, 1, [], []), (.istore_n 3, 1, [], []), (.iload_n 3, 1, [], []), (.ifCond .lt 12, 3, [18], []), (.iload_n 3, 1, [], []), (.aload_n 1, 1, [], []), (.arraylength, 1, [], []), (.bipush 16, 2, [], []), (.isub, 1, [], []), (.if_icmp .le 4, 3, [19], [])]),
  (18, [(.return_, 1, [], [])]),
  (19, [(.iconst 0, 1, [], []), (.istore 4, 2, [], [])]),
  (22, [(.iload 4, 2, [], []), (.bipush 6, 2, [], []), (.if_icmp .ge 38, 3, [64], []), (.aload_n 1, 1, [], []), (.iload_n 3, 1, [], []), (.iload 4, 2, [], []), (.iadd, 1, [], []), (.aload_n 0, 1, [], []), (.getfield 9, 3, [7, 0, 4, 1, 1, 6], []), (.iload 4, 2, [], []), (.iaload, 1, [], []), (.iastore, 1, [], []), (.aload_n 1, 1, [], []), (.iload_n 3, 1, [], []), (.bipush 6, 2, [], []), (.iadd, 1, [], []), (.iload 4, 2, [], []), (.iadd, 1, [], []), (.aload_n 0, 1, [], []), (.getfield 15, 3, [7, 1, 4, 2, 1, 6], []), (.iload 4, 2, [], []), (.iaload, 1, [], []), (.iastore, 1, [], []), (.iinc 4 1, 3, [], []), (.goto (-39), 3, [22], [])]),
  (64, [(.aload_n 1, 1, [], []), (.iload_n 3, 1, [], []), (.bipush 16, 2, [], []), (.iadd, 1, [], []), (.iconst 4, 1, [], []), (.isub, 1, [], []), (.aload_n 0, 1, [], []), (.getfield 18, 3, [7, 2, 0, 0, 0, 0], []), (.iastore, 1, [], []), (.aload_n 1, 1, [], []), (.iload_n 3, 1, [], []), (.bipush 16, 2, [], []), (.iadd, 1, [], []), (.iconst 3, 1, [], []), (.isub, 1, [], []), (.aload_n 0, 1, [], []), (.getfield 22, 3, [7, 3, 0, 0, 0, 0], []), (.iastore, 1, [], []), (.aload_n 1, 1, [], []), (.iload_n 3, 1, [], []), (.bipush 16, 2, [], []), (.iadd, 1, [], []), (.iconst 2, 1, [], []), (.isub, 1, [], []), (.aload_n 0, 1, [], []), (.getfield 25, 3, [7, 4, 0, 0, 0, 0], []), (.iastore, 1, [], []), (.aload_n 1, 1, [], []), (.iload_n 3, 1, [], []), (.bipush 16, 2, [], []), (.iadd, 1, [], []), (.iconst 1, 1, [], []), (.isub, 1, [], []), (.aload_n 0, 1, [], []), (.getfield 28, 3, [7, 5, 1, 0, 0, 0], []), (.ifCond .eq 7, 3, [118], []), (.iconst 1, 1, [], []), (.goto 4, 3, [119], [])]),
  (118, [(.iconst 0, 1, [], [])]),
  (119, [(.iastore, 1, [], []), (.return_, 1, [], [])])]
def St_write_cl : List (Instr × Nat) := []
set_option maxRecDepth 20000 in
theorem St_write_ck : St_write_bk.all (fun b => ax_chB 7 5 cX7_write St_write_cl b.1 b.2) = true := by decide +kernel
def St_write_cs : Ct := (3, 8, 0, (0, 0), fun as σ => (match as with
    | [.inr (.inr (.inl (k, 0, 7))), .inr (.inr (.inl (q1, 1, n1))), .inl a2] => St_write_pre k q1 n1 a2 σ
    | _ => False), fun as σ r σ' => (match as with
    | [.inr (.inr (.inl (k, 0, 7))), .inr (.inr (.inl (q1, 1, n1))), .inl a2] => St_write_post k q1 n1 a2 σ σ'
    | _ => False))
theorem St_write_w : ∀ w ∈ ([.instanceMethod yX7_write, .selects yX7_write.cls yX7_write yX7_write, .initialized yX7_write.cls, .code yX7_write cX7_write 5 none] : List Cond), w ∈ ax_tb := ax_w4 (ax_m3 218 (by decide +kernel) rfl) (ax_m3 219 (by decide +kernel) rfl) (ax_m1 4 (by decide +kernel) rfl) (ax_m3 220 (by decide +kernel) rfl)
theorem St_write_ds : yX7_write.cls ≠ "java/lang/invoke/MethodHandle" ∧ yX7_write.cls ≠ "java/lang/invoke/VarHandle" ∧ (parseMethodDescriptor yX7_write.desc).map (fun d => d.parameters.length) = some 2 := by decide +kernel
def St_write_vc : Prop := ∀ (k : Nat) (q1 : Nat) (n1 : Nat) (a2 : Int) (σ : Hp), ax_H σ → St_write_pre k q1 n1 a2 σ →
  (wr (a2 * 16) < 0 →
    St_write_post k q1 n1 a2 σ σ) ∧
  (¬ (wr (a2 * 16) < 0) →
    (wr (a2 * 16) ≤ wr ((n1 : Int) - 16) →
      ∃ n' : Nat, k = k ∧ n1 = n1 ∧ q1 = q1 ∧ a2 = a2 ∧ St_write_I22 k q1 n1 a2 σ n' (wr (a2 * 16)) 0 σ) ∧
    (¬ (wr (a2 * 16) ≤ wr ((n1 : Int) - 16)) →
      St_write_post k q1 n1 a2 σ σ))
def St_write_vc22 : Prop := ∀ (k : Nat) (q1 : Nat) (n1 : Nat) (a2 : Int) (σ0 : Hp), St_write_pre k q1 n1 a2 σ0 → ∀ (n : Nat) (v3 : Int) (v4 : Int) (σ : Hp), ax_H σ → St_write_I22 k q1 n1 a2 σ0 n v3 v4 σ →
  (6 ≤ v4 →
    (0 ≤ wr ((wr (v3 + 16)) - 4) ∧ wr ((wr (v3 + 16)) - 4) < (n1 : Int)) ∧
    ∀ σ1 : Hp, σ1 = hp σ q1 (wr ((wr (v3 + 16)) - 4)).toNat (σ k 2) →
    (0 ≤ wr ((wr (v3 + 16)) - 3) ∧ wr ((wr (v3 + 16)) - 3) < (n1 : Int)) ∧
    ∀ σ2 : Hp, σ2 = hp σ1 q1 (wr ((wr (v3 + 16)) - 3)).toNat (σ1 k 3) →
    (0 ≤ wr ((wr (v3 + 16)) - 2) ∧ wr ((wr (v3 + 16)) - 2) < (n1 : Int)) ∧
    ∀ σ3 : Hp, σ3 = hp σ2 q1 (wr ((wr (v3 + 16)) - 2)).toNat (σ2 k 4) →
    (σ3 k 5 = 0 →
      (0 ≤ wr ((wr (v3 + 16)) - 1) ∧ wr ((wr (v3 + 16)) - 1) < (n1 : Int)) ∧
      ∀ σ4 : Hp, σ4 = hp σ3 q1 (wr ((wr (v3 + 16)) - 1)).toNat 0 →
      St_write_post k q1 n1 a2 σ0 σ4) ∧
    (¬ (σ3 k 5 = 0) →
      (0 ≤ wr ((wr (v3 + 16)) - 1) ∧ wr ((wr (v3 + 16)) - 1) < (n1 : Int)) ∧
      ∀ σ5 : Hp, σ5 = hp σ3 q1 (wr ((wr (v3 + 16)) - 1)).toNat 1 →
      St_write_post k q1 n1 a2 σ0 σ5)) ∧
  (¬ (6 ≤ v4) →
    (0 ≤ v4 ∧ v4 < 6) ∧
    (0 ≤ wr (v3 + v4) ∧ wr (v3 + v4) < (n1 : Int)) ∧
    ∀ σ6 : Hp, σ6 = hp σ q1 (wr (v3 + v4)).toNat (σ (k + 1) v4.toNat) →
    (0 ≤ v4 ∧ v4 < 6) ∧
    (0 ≤ wr ((wr (v3 + 6)) + v4) ∧ wr ((wr (v3 + 6)) + v4) < (n1 : Int)) ∧
    ∀ σ7 : Hp, σ7 = hp σ6 q1 (wr ((wr (v3 + 6)) + v4)).toNat (σ6 (k + 2) v4.toNat) →
    ∃ n' : Nat, n' < n ∧ k = k ∧ n1 = n1 ∧ q1 = q1 ∧ a2 = a2 ∧ St_write_I22 k q1 n1 a2 σ0 n' v3 (wr (v4 + 1)) σ7)
theorem St_write_p : St_write_vc := by
  intro k q n a σ hH hp
  obtain ⟨hk, hq, h0, h1, h2⟩ := hp
  have e : wr (a * 16) = (16 * a.toNat : Nat) := by unfold wr; omega
  have e2 : wr ((n : Int) - 16) = (n : Int) - 16 := wr_id (by omega) (by omega)
  rw [e, e2]
  refine ⟨fun h => absurd h (by omega), fun _ => ⟨fun _ => ?_, fun h => absurd (show _ from by omega) h⟩⟩
  exact ⟨6, rfl, rfl, rfl, rfl, 0, rfl, rfl, by omega, rfl, Fr.rf, fun i hi => absurd hi (by omega), fun _ _ => rfl⟩
theorem St_write_p22 : St_write_vc22 := by
  intro k q n a σ0 hp m v3 v4 σ hH hI
  obtain ⟨hk, hq, h0, h1, h2⟩ := hp
  obtain ⟨j, rfl, rfl, hj, rfl, hf, hr, hout⟩ := hI
  generalize hb : 16 * a.toNat = b at hr hout ⊢
  have hbn : b + 16 ≤ n := by omega
  have hkq : ∀ d, d < 3 → k + d ≠ q := by
    intro d hd
    rcases hk with rfl | rfl | rfl <;> rcases hq with rfl | rfl <;> omega
  have hk0 : k ≠ q := hkq 0 (by omega)
  have hs : ∀ d, d < 3 → σ (k + d) = σ0 (k + d) := fun d hd => hf _ (by simp; exact hkq d hd)
  have hs0 : σ k = σ0 k := hs 0 (by omega)
  refine ⟨fun h => ?_, fun h => ?_⟩
  · have hj6 : j = 6 := by omega
    subst hj6
    have e4 : wr (wr ((b : Nat) + 16 : Int) - 4) = ((b + 12 : Nat) : Int) := by unfold wr; omega
    have e3 : wr (wr ((b : Nat) + 16 : Int) - 3) = ((b + 13 : Nat) : Int) := by unfold wr; omega
    have e2 : wr (wr ((b : Nat) + 16 : Int) - 2) = ((b + 14 : Nat) : Int) := by unfold wr; omega
    have e1 : wr (wr ((b : Nat) + 16 : Int) - 1) = ((b + 15 : Nat) : Int) := by unfold wr; omega
    rw [e4, e3, e2, e1]
    simp only [Int.toNat_natCast]
    refine ⟨⟨by omega, by omega⟩, ?_⟩
    rintro σ1 rfl
    refine ⟨⟨by omega, by omega⟩, ?_⟩
    rintro σ2 rfl
    refine ⟨⟨by omega, by omega⟩, ?_⟩
    rintro σ3 rfl
    rw [hp_ne hk0, hp_ne hk0, hp_ne hk0, hs0]
    have fin : ∀ v, v = σ0 k 5 → St_write_post k q n a σ0 (hp (hp (hp (hp σ q (b + 12) (σ0 k 2)) q (b + 13) (σ0 k 3)) q (b + 14) (σ0 k 4)) q (b + 15) v) := by
      rintro v rfl
      refine ⟨Fr.hp (Fr.hp (Fr.hp (Fr.hp hf (by simp)) (by simp)) (by simp)) (by simp), ?_, ?_⟩
      · rw [hb]
        unfold rowS stX
        refine Prod.ext (tr_ext fun i hi => ?_) (Prod.ext (tr_ext fun i hi => ?_) ?_)
        · simp only [hp_rd]
          rw [if_neg (by omega), if_neg (by omega), if_neg (by omega), if_neg (by omega)]
          exact (hr i hi).1
        · simp only [hp_rd]
          rw [if_neg (by omega), if_neg (by omega), if_neg (by omega), if_neg (by omega)]
          exact (hr i hi).2
        · simp [hp_rd]
      · rw [hb]
        intro i hi
        simp only [hp_rd]
        rw [if_neg (by omega), if_neg (by omega), if_neg (by omega), if_neg (by omega)]
        exact hout i hi
    refine ⟨fun h5 => ⟨⟨by omega, by omega⟩, ?_⟩, fun h5 => ⟨⟨by omega, by omega⟩, ?_⟩⟩
    · rintro σ4 rfl
      exact fin 0 h5.symm
    · rintro σ5 rfl
      refine fin 1 ?_
      rcases H_dyed hH hk with h | h
      · rw [hs0] at h; exact absurd h h5
      · rw [hs0] at h; exact h.symm
  · have e1 : wr ((b : Nat) + (j : Int)) = ((b + j : Nat) : Int) := by unfold wr; omega
    have e2 : wr (wr ((b : Nat) + 6 : Int) + (j : Int)) = ((b + 6 + j : Nat) : Int) := by unfold wr; omega
    rw [e1, e2]
    simp only [Int.toNat_natCast]
    refine ⟨⟨by omega, by omega⟩, ⟨by omega, by omega⟩, ?_⟩
    rintro σ6 rfl
    refine ⟨⟨by omega, by omega⟩, ⟨by omega, by omega⟩, ?_⟩
    rintro σ7 rfl
    rw [wr1 (by omega) (by omega), hp_ne (hkq 2 (by omega)), hs 1 (by omega), hs 2 (by omega)]
    refine ⟨6 - (j + 1), by omega, trivial, trivial, trivial, trivial, j + 1, by rw [hb], by omega, by omega, rfl, Fr.hp (Fr.hp hf (by simp)) (by simp), ?_, ?_⟩
    · rw [hb]
      intro i hi
      simp only [hp_rd]
      by_cases hij : i = j
      · subst hij
        rw [if_neg (by omega), if_pos (by simp), if_pos (by simp)]
        exact ⟨rfl, rfl⟩
      · rw [if_neg (by omega), if_neg (by omega), if_neg (by omega), if_neg (by omega)]
        exact hr i (by omega)
    · rw [hb]
      intro i hi
      simp only [hp_rd]
      rw [if_neg (by omega), if_neg (by omega)]
      exact hout i hi
def St_write_I : List AV → Hp → Nat → Nat → List AV → List AV → Hp → Prop := fun as σ0 pc n st ls σ => (match as with
    | [.inr (.inr (.inl (k, 0, 7))), .inr (.inr (.inl (q1, 1, n1))), .inl a2] => (bif Nat.beq pc 22 then (match st, ls with
      | [], [.inr (.inr (.inl (k', 0, 7))), .inr (.inr (.inl (q1', 1, n1'))), .inl a2', .inl v3, .inl v4] => k = k' ∧ n1 = n1' ∧ q1 = q1' ∧ a2 = a2' ∧ St_write_I22 k q1 n1 a2 σ0 n v3 v4 σ
      | _, _ => False) else False)
    | _ => False)
def St_write_ct : Nat → Ct := fun n => match n with
  | _ => St_write_cs
set_option maxRecDepth 20000 in
set_option maxHeartbeats 4000000 in
theorem St_write_met {l : Launch} {D : va_G} {ad : Nat → Nat} {ca : Nat → ClassId} {L : Nat} {fx : Nat → Int} : ax_MC l D ad ca L fx yX7_write cX7_write 5 none 1 St_write_cs := by
  refine ax_met (oc := 7) (ct := St_write_ct) (calls := St_write_cl) (bs := St_write_bk) (cut := fun pc => Nat.beq pc 22) (f := 8) (I := St_write_I) (by decide) rfl rfl St_write_ck (fun _ h => absurd h List.not_mem_nil) ?_ ?_
  · intro as σ0 hp hH
    match as, hp with
    | [.inr (.inr (.inl (k, 0, 7))), .inr (.inr (.inl (q1, 1, n1))), .inl a2], hp => exact ⟨rfl, St_write_p k q1 n1 a2 σ0 hH hp⟩
  · intro as σ0 hp n pc st ls σ hH hI
    match as, hp, hI with
    | [.inr (.inr (.inl (k, 0, 7))), .inr (.inr (.inl (q1, 1, n1))), .inl a2], hp, hI =>
      rcases ax_bifE hI with ⟨hpc, hI⟩ | ⟨-, hI⟩
      · have := Nat.eq_of_beq_eq_true hpc
        subst this
        match st, ls, hI with
        | [], [.inr (.inr (.inl (k', 0, 7))), .inr (.inr (.inl (q1', 1, n1'))), .inl a2', .inl v3, .inl v4], hI =>
          obtain ⟨rfl, rfl, rfl, rfl, hI⟩ := hI
          exact St_write_p22 k q1 n1 a2 σ0 hp n v3 v4 σ hH hI
      exact False.elim hI
def St_read_pre (k q n : Nat) (a : Int) (σ : Hp) : Prop := SO k ∧ RO q ∧ 0 ≤ a ∧ a * 16 + 16 ≤ (n : Int) ∧ n ≤ 1000 ∧ (σ q (16 * a.toNat + 15) = 0 ∨ σ q (16 * a.toNat + 15) = 1)
def St_read_post (k q _n : Nat) (a : Int) (σ : Hp) (σ' : Hp) : Prop := Fr [k, k + 1, k + 2] σ σ' ∧ stX σ' k = rowS (σ q) (16 * a.toNat)
def St_read_I22 (k q _n : Nat) (a : Int) (σ0 : Hp) (m : Nat) (v3 v4 : Int) (σ : Hp) : Prop := ∃ j : Nat, v3 = (16 * a.toNat : Nat) ∧ v4 = j ∧ j ≤ 6 ∧ m = 6 - j ∧ Fr [k + 1, k + 2] σ0 σ ∧ ∀ i, i < j → σ (k + 1) i = σ0 q (16 * a.toNat + i) ∧ σ (k + 2) i = σ0 q (16 * a.toNat + 6 + i)
def St_read_bk : List (Nat × List Item) := [(0, [(.iload_n 2, 1, [], []), (.bipush 16, 2, [], []), (.imul, 1, [], []), (.istore_n 3, 1, [], []), (.iload_n 3, 1, [], []), (.ifCond .lt 12, 3, [18], []), (.iload_n 3, 1, [], []), (.aload_n 1, 1, [], []), (.arraylength, 1, [], []), (.bipush 16, 2, [], []), (.isub, 1, [], []), (.if_icmp .le 4, 3, [19], [])]),
  (18, [(.return_, 1, [], [])]),
  (19, [(.iconst 0, 1, [], []), (.istore 4, 2, [], [])]),
  (22, [(.iload 4, 2, [], []), (.bipush 6, 2, [], []), (.if_icmp .ge 38, 3, [64], []), (.aload_n 0, 1, [], []), (.getfield 9, 3, [7, 0, 4, 1, 1, 6], []), (.iload 4, 2, [], []), (.aload_n 1, 1, [], []), (.iload_n 3, 1, [], []), (.iload 4, 2, [], []), (.iadd, 1, [], []), (.iaload, 1, [], []), (.iastore, 1, [], []), (.aload_n 0, 1, [], []), (.getfield 15, 3, [7, 1, 4, 2, 1, 6], []), (.iload 4, 2, [], []), (.aload_n 1, 1, [], []), (.iload_n 3, 1, [], []), (.bipush 6, 2, [], []), (.iadd, 1, [], []), (.iload 4, 2, [], []), (.iadd, 1, [], []), (.iaload, 1, [], []), (.iastore, 1, [], []), (.iinc 4 1, 3, [], []), (.goto (-39), 3, [22], [])]),
  (64, [(.aload_n 0, 1, [], []), (.aload_n 1, 1, [], []), (.iload_n 3, 1, [], []), (.bipush 16, 2, [], []), (.iadd, 1, [], []), (.iconst 4, 1, [], []), (.isub, 1, [], []), (.iaload, 1, [], []), (.putfield 18, 3, [7, 2, 0, 0, 0, 0], []), (.aload_n 0, 1, [], []), (.aload_n 1, 1, [], []), (.iload_n 3, 1, [], []), (.bipush 16, 2, [], []), (.iadd, 1, [], []), (.iconst 3, 1, [], []), (.isub, 1, [], []), (.iaload, 1, [], []), (.putfield 22, 3, [7, 3, 0, 0, 0, 0], []), (.aload_n 0, 1, [], []), (.aload_n 1, 1, [], []), (.iload_n 3, 1, [], []), (.bipush 16, 2, [], []), (.iadd, 1, [], []), (.iconst 2, 1, [], []), (.isub, 1, [], []), (.iaload, 1, [], []), (.putfield 25, 3, [7, 4, 0, 0, 0, 0], []), (.aload_n 0, 1, [], []), (.aload_n 1, 1, [], []), (.iload_n 3, 1, [], []), (.bipush 16, 2, [], []), (.iadd, 1, [], []), (.iconst 1, 1, [], []), (.isub, 1, [], []), (.iaload, 1, [], []), (.iconst 1, 1, [], []), (.if_icmp .ne 7, 3, [117], []), (.iconst 1, 1, [], []), (.goto 4, 3, [118], [])]),
  (117, [(.iconst 0, 1, [], [])]),
  (118, [(.putfield 28, 3, [7, 5, 1, 0, 0, 0], []), (.return_, 1, [], [])])]
def St_read_cl : List (Instr × Nat) := []
set_option maxRecDepth 20000 in
theorem St_read_ck : St_read_bk.all (fun b => ax_chB 7 5 cX7_read St_read_cl b.1 b.2) = true := by decide +kernel
def St_read_cs : Ct := (3, 8, 0, (0, 0), fun as σ => (match as with
    | [.inr (.inr (.inl (k, 0, 7))), .inr (.inr (.inl (q1, 1, n1))), .inl a2] => St_read_pre k q1 n1 a2 σ
    | _ => False), fun as σ r σ' => (match as with
    | [.inr (.inr (.inl (k, 0, 7))), .inr (.inr (.inl (q1, 1, n1))), .inl a2] => St_read_post k q1 n1 a2 σ σ'
    | _ => False))
theorem St_read_w : ∀ w ∈ ([.instanceMethod yX7_read, .selects yX7_read.cls yX7_read yX7_read, .initialized yX7_read.cls, .code yX7_read cX7_read 5 none] : List Cond), w ∈ ax_tb := ax_w4 (ax_m4 63 (by decide +kernel) rfl) (ax_m4 64 (by decide +kernel) rfl) (ax_m1 4 (by decide +kernel) rfl) (ax_m4 65 (by decide +kernel) rfl)
theorem St_read_ds : yX7_read.cls ≠ "java/lang/invoke/MethodHandle" ∧ yX7_read.cls ≠ "java/lang/invoke/VarHandle" ∧ (parseMethodDescriptor yX7_read.desc).map (fun d => d.parameters.length) = some 2 := by decide +kernel
def St_read_vc : Prop := ∀ (k : Nat) (q1 : Nat) (n1 : Nat) (a2 : Int) (σ : Hp), ax_H σ → St_read_pre k q1 n1 a2 σ →
  (wr (a2 * 16) < 0 →
    St_read_post k q1 n1 a2 σ σ) ∧
  (¬ (wr (a2 * 16) < 0) →
    (wr (a2 * 16) ≤ wr ((n1 : Int) - 16) →
      ∃ n' : Nat, k = k ∧ n1 = n1 ∧ q1 = q1 ∧ a2 = a2 ∧ St_read_I22 k q1 n1 a2 σ n' (wr (a2 * 16)) 0 σ) ∧
    (¬ (wr (a2 * 16) ≤ wr ((n1 : Int) - 16)) →
      St_read_post k q1 n1 a2 σ σ))
def St_read_vc22 : Prop := ∀ (k : Nat) (q1 : Nat) (n1 : Nat) (a2 : Int) (σ0 : Hp), St_read_pre k q1 n1 a2 σ0 → ∀ (n : Nat) (v3 : Int) (v4 : Int) (σ : Hp), ax_H σ → St_read_I22 k q1 n1 a2 σ0 n v3 v4 σ →
  (6 ≤ v4 →
    (0 ≤ wr ((wr (v3 + 16)) - 4) ∧ wr ((wr (v3 + 16)) - 4) < (n1 : Int)) ∧
    ∀ σ1 : Hp, σ1 = hp σ k 2 (σ q1 (wr ((wr (v3 + 16)) - 4)).toNat) →
    (0 ≤ wr ((wr (v3 + 16)) - 3) ∧ wr ((wr (v3 + 16)) - 3) < (n1 : Int)) ∧
    ∀ σ2 : Hp, σ2 = hp σ1 k 3 (σ1 q1 (wr ((wr (v3 + 16)) - 3)).toNat) →
    (0 ≤ wr ((wr (v3 + 16)) - 2) ∧ wr ((wr (v3 + 16)) - 2) < (n1 : Int)) ∧
    ∀ σ3 : Hp, σ3 = hp σ2 k 4 (σ2 q1 (wr ((wr (v3 + 16)) - 2)).toNat) →
    (0 ≤ wr ((wr (v3 + 16)) - 1) ∧ wr ((wr (v3 + 16)) - 1) < (n1 : Int)) ∧
    (¬ σ3 q1 (wr ((wr (v3 + 16)) - 1)).toNat = 1 →
      ((0 : Int) = 0 ∨ (0 : Int) = 1) ∧
      ∀ σ4 : Hp, σ4 = hp σ3 k 5 0 →
      St_read_post k q1 n1 a2 σ0 σ4) ∧
    (¬ (¬ σ3 q1 (wr ((wr (v3 + 16)) - 1)).toNat = 1) →
      ((1 : Int) = 0 ∨ (1 : Int) = 1) ∧
      ∀ σ5 : Hp, σ5 = hp σ3 k 5 1 →
      St_read_post k q1 n1 a2 σ0 σ5)) ∧
  (¬ (6 ≤ v4) →
    (0 ≤ wr (v3 + v4) ∧ wr (v3 + v4) < (n1 : Int)) ∧
    (0 ≤ v4 ∧ v4 < 6) ∧
    ∀ σ6 : Hp, σ6 = hp σ (k + 1) v4.toNat (σ q1 (wr (v3 + v4)).toNat) →
    (0 ≤ wr ((wr (v3 + 6)) + v4) ∧ wr ((wr (v3 + 6)) + v4) < (n1 : Int)) ∧
    (0 ≤ v4 ∧ v4 < 6) ∧
    ∀ σ7 : Hp, σ7 = hp σ6 (k + 2) v4.toNat (σ6 q1 (wr ((wr (v3 + 6)) + v4)).toNat) →
    ∃ n' : Nat, n' < n ∧ k = k ∧ n1 = n1 ∧ q1 = q1 ∧ a2 = a2 ∧ St_read_I22 k q1 n1 a2 σ0 n' v3 (wr (v4 + 1)) σ7)
theorem St_read_p : St_read_vc := by
  intro k q n a σ hH hp
  obtain ⟨hk, hq, h0, h1, h2, -⟩ := hp
  have e : wr (a * 16) = (16 * a.toNat : Nat) := by unfold wr; omega
  have e2 : wr ((n : Int) - 16) = (n : Int) - 16 := wr_id (by omega) (by omega)
  rw [e, e2]
  refine ⟨fun h => absurd h (by omega), fun _ => ⟨fun _ => ?_, fun h => absurd (show _ from by omega) h⟩⟩
  exact ⟨6, rfl, rfl, rfl, rfl, 0, rfl, rfl, by omega, rfl, Fr.rf, fun i hi => absurd hi (by omega)⟩
theorem St_read_p22 : St_read_vc22 := by
  intro k q n a σ0 hp m v3 v4 σ hH hI
  obtain ⟨hk, hq, h0, h1, h2, hdy⟩ := hp
  obtain ⟨j, rfl, rfl, hj, rfl, hf, hr⟩ := hI
  generalize hb : 16 * a.toNat = b at hr hdy ⊢
  have hbn : b + 16 ≤ n := by omega
  have hkq : ∀ d, d < 3 → q ≠ k + d := by
    intro d hd
    rcases hk with rfl | rfl | rfl <;> rcases hq with rfl | rfl <;> omega
  have hk0 : q ≠ k := hkq 0 (by omega)
  have hs : σ q = σ0 q := hf _ (by have := hkq 1 (by omega); have := hkq 2 (by omega); simp; omega)
  refine ⟨fun h => ?_, fun h => ?_⟩
  · have hj6 : j = 6 := by omega
    subst hj6
    have e4 : wr (wr ((b : Nat) + 16 : Int) - 4) = ((b + 12 : Nat) : Int) := by unfold wr; omega
    have e3 : wr (wr ((b : Nat) + 16 : Int) - 3) = ((b + 13 : Nat) : Int) := by unfold wr; omega
    have e2 : wr (wr ((b : Nat) + 16 : Int) - 2) = ((b + 14 : Nat) : Int) := by unfold wr; omega
    have e1 : wr (wr ((b : Nat) + 16 : Int) - 1) = ((b + 15 : Nat) : Int) := by unfold wr; omega
    rw [e4, e3, e2, e1]
    simp only [Int.toNat_natCast]
    refine ⟨⟨by omega, by omega⟩, ?_⟩
    rintro σ1 rfl
    refine ⟨⟨by omega, by omega⟩, ?_⟩
    rintro σ2 rfl
    refine ⟨⟨by omega, by omega⟩, ?_⟩
    rintro σ3 rfl
    rw [hp_ne hk0, hp_ne hk0, hp_ne hk0, hs]
    have fin : ∀ v, v = σ0 q (b + 15) → St_read_post k q n a σ0 (hp (hp (hp (hp σ k 2 (σ0 q (b + 12))) k 3 (σ0 q (b + 13))) k 4 (σ0 q (b + 14))) k 5 v) := by
      rintro v rfl
      refine ⟨Fr.hp (Fr.hp (Fr.hp (Fr.hp (hf.mono (by simp)) (by simp)) (by simp)) (by simp)) (by simp), ?_⟩
      rw [hb]
      unfold rowS stX
      have hne : ∀ d, 1 ≤ d → hp (hp (hp (hp σ k 2 (σ0 q (b + 12))) k 3 (σ0 q (b + 13))) k 4 (σ0 q (b + 14))) k 5 (σ0 q (b + 15)) (k + d) = σ (k + d) := by
        intro d h1
        rw [hp_ne (by omega), hp_ne (by omega), hp_ne (by omega), hp_ne (by omega)]
      rw [hne 1 (by omega), hne 2 (by omega)]
      refine Prod.ext (tr_ext fun i hi => (hr i hi).1) (Prod.ext (tr_ext fun i hi => (hr i hi).2) ?_)
      simp [hp_rd]
    refine ⟨⟨by omega, by omega⟩, fun h5 => ⟨Or.inl trivial, ?_⟩, fun h5 => ⟨Or.inr trivial, ?_⟩⟩
    · rintro σ4 rfl
      exact fin 0 (by rcases hdy with h | h
                      · exact h.symm
                      · exact absurd h h5)
    · rintro σ5 rfl
      exact fin 1 (Classical.not_not.mp h5).symm
  · have e1 : wr ((b : Nat) + (j : Int)) = ((b + j : Nat) : Int) := by unfold wr; omega
    have e2 : wr (wr ((b : Nat) + 6 : Int) + (j : Int)) = ((b + 6 + j : Nat) : Int) := by unfold wr; omega
    rw [e1, e2]
    simp only [Int.toNat_natCast]
    refine ⟨⟨by omega, by omega⟩, ⟨by omega, by omega⟩, ?_⟩
    rintro σ6 rfl
    refine ⟨⟨by omega, by omega⟩, ⟨by omega, by omega⟩, ?_⟩
    rintro σ7 rfl
    rw [wr1 (by omega) (by omega), hp_ne (hkq 1 (by omega)), hs]
    refine ⟨6 - (j + 1), by omega, trivial, trivial, trivial, trivial, j + 1, by rw [hb], by omega, by omega, rfl, Fr.hp (Fr.hp hf (by simp)) (by simp), ?_⟩
    rw [hb]
    intro i hi
    simp only [hp_rd]
    by_cases hij : i = j
    · subst hij; simp
    · rw [if_neg (by omega), if_neg (by omega), if_neg (by omega), if_neg (by omega)]
      exact hr i (by omega)
def St_read_I : List AV → Hp → Nat → Nat → List AV → List AV → Hp → Prop := fun as σ0 pc n st ls σ => (match as with
    | [.inr (.inr (.inl (k, 0, 7))), .inr (.inr (.inl (q1, 1, n1))), .inl a2] => (bif Nat.beq pc 22 then (match st, ls with
      | [], [.inr (.inr (.inl (k', 0, 7))), .inr (.inr (.inl (q1', 1, n1'))), .inl a2', .inl v3, .inl v4] => k = k' ∧ n1 = n1' ∧ q1 = q1' ∧ a2 = a2' ∧ St_read_I22 k q1 n1 a2 σ0 n v3 v4 σ
      | _, _ => False) else False)
    | _ => False)
def St_read_ct : Nat → Ct := fun n => match n with
  | _ => St_read_cs
set_option maxRecDepth 20000 in
set_option maxHeartbeats 4000000 in
theorem St_read_met {l : Launch} {D : va_G} {ad : Nat → Nat} {ca : Nat → ClassId} {L : Nat} {fx : Nat → Int} : ax_MC l D ad ca L fx yX7_read cX7_read 5 none 1 St_read_cs := by
  refine ax_met (oc := 7) (ct := St_read_ct) (calls := St_read_cl) (bs := St_read_bk) (cut := fun pc => Nat.beq pc 22) (f := 8) (I := St_read_I) (by decide) rfl rfl St_read_ck (fun _ h => absurd h List.not_mem_nil) ?_ ?_
  · intro as σ0 hp hH
    match as, hp with
    | [.inr (.inr (.inl (k, 0, 7))), .inr (.inr (.inl (q1, 1, n1))), .inl a2], hp => exact ⟨rfl, St_read_p k q1 n1 a2 σ0 hH hp⟩
  · intro as σ0 hp n pc st ls σ hH hI
    match as, hp, hI with
    | [.inr (.inr (.inl (k, 0, 7))), .inr (.inr (.inl (q1, 1, n1))), .inl a2], hp, hI =>
      rcases ax_bifE hI with ⟨hpc, hI⟩ | ⟨-, hI⟩
      · have := Nat.eq_of_beq_eq_true hpc
        subst this
        match st, ls, hI with
        | [], [.inr (.inr (.inl (k', 0, 7))), .inr (.inr (.inl (q1', 1, n1'))), .inl a2', .inl v3, .inl v4], hI =>
          obtain ⟨rfl, rfl, rfl, rfl, hI⟩ := hI
          exact St_read_p22 k q1 n1 a2 σ0 hp n v3 v4 σ hH hI
      exact False.elim hI
