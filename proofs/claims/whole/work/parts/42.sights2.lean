-- THE SIGHTS: what fits
abbrev Sgt : Type := Nat × (Nat → Int) × (Nat → Int) × (Nat → Int) × (Nat → Int) × (Nat → Int)
def sgX (σ : Hp) : Sgt := ((σ 19 9).toNat, tr (σ 19 9).toNat (σ 20), tr (σ 19 9).toNat (σ 21), tr (σ 19 9).toNat (σ 22), tr (σ 19 9).toNat (σ 23), tr (σ 19 9).toNat (σ 24))
def SGO (σ : Hp) : Prop := (0 ≤ σ 19 9 ∧ σ 19 9 ≤ 30) ∧ ∀ i : Nat, (i : Int) < σ 19 9 → 0 ≤ σ 20 i ∧ σ 20 i < 10
/-- does it count at a time -/
abbrev cts (G : Sgt) (i : Nat) (k : Int) : Prop := G.2.2.2.2.1 i ≤ k ∧ ¬ (¬ G.2.2.2.2.2 i = -1 ∧ G.2.2.2.2.2 i ≤ k)
def fitB (w : Nat → Int) (G : Sgt) (k : Int) : Nat → Bool
  | 0 => true
  | i + 1 => fitB w G k i && decide (cts G i k → (w (G.2.1 i).toNat = G.2.2.1 i ↔ G.2.2.2.1 i = 1))
theorem fitB_s (w : Nat → Int) (G : Sgt) (k : Int) (i : Nat) : fitB w G k (i + 1) = (fitB w G k i && decide (cts G i k → (w (G.2.1 i).toNat = G.2.2.1 i ↔ G.2.2.2.1 i = 1))) := rfl
theorem fitB_f {w : Nat → Int} {G : Sgt} {k : Int} {i : Nat} (h : fitB w G k i = false) : ∀ j, i ≤ j → fitB w G k j = false := by
  intro j
  induction j with
  | zero => intro hj; have : i = 0 := by omega
            subst this; exact h
  | succ j ih =>
    intro hj
    by_cases e : i = j + 1
    · rw [← e]; exact h
    · rw [fitB_s, ih (by omega)]; rfl
theorem fitB_ext {w u : Nat → Int} {G : Sgt} {k : Int} : ∀ n, (∀ i, i < n → w (G.2.1 i).toNat = u (G.2.1 i).toNat) → fitB w G k n = fitB u G k n := by
  intro n
  induction n with
  | zero => intro _; rfl
  | succ n ih => intro h; rw [fitB_s, fitB_s, ih (fun i hi => h i (by omega)), h n (by omega)]
def Si_counts_pre (k : Nat) (a _b : Int) (_σ : Hp) : Prop := k = 19 ∧ 0 ≤ a ∧ a < 30
def Si_counts_post (_k : Nat) (a b : Int) (σ : Hp) (r : Int) (σ' : Hp) : Prop := σ' = σ ∧ ((r = 1 ∧ (σ 23 a.toNat ≤ b ∧ ¬ (¬ σ 24 a.toNat = -1 ∧ σ 24 a.toNat ≤ b))) ∨ (r = 0 ∧ ¬ (σ 23 a.toNat ≤ b ∧ ¬ (¬ σ 24 a.toNat = -1 ∧ σ 24 a.toNat ≤ b))))
def Si_counts_bk : List (Nat × List Item) := [(0, [(.aload_n 0, 1, [], []), (.getfield 25, 3, [6, 4, 4, 5, 1, 30], []), (.iload_n 1, 1, [], []), (.iaload, 1, [], []), (.iconst (-1), 1, [], []), (.if_icmp .eq 17, 3, [24], []), (.aload_n 0, 1, [], []), (.getfield 25, 3, [6, 4, 4, 5, 1, 30], []), (.iload_n 1, 1, [], []), (.iaload, 1, [], []), (.iload_n 2, 1, [], []), (.if_icmp .gt 7, 3, [24], []), (.iconst 1, 1, [], []), (.goto 4, 3, [25], [])]),
  (24, [(.iconst 0, 1, [], [])]),
  (25, [(.istore_n 3, 1, [], []), (.aload_n 0, 1, [], []), (.getfield 22, 3, [6, 3, 4, 4, 1, 30], []), (.iload_n 1, 1, [], []), (.iaload, 1, [], []), (.iload_n 2, 1, [], []), (.if_icmp .gt 11, 3, [44], []), (.iload_n 3, 1, [], []), (.ifCond .ne 7, 3, [44], []), (.iconst 1, 1, [], []), (.goto 4, 3, [45], [])]),
  (44, [(.iconst 0, 1, [], [])]),
  (45, [(.ireturn, 1, [], [])])]
def Si_counts_cl : List (Instr × Nat) := []
set_option maxRecDepth 20000 in
theorem Si_counts_ck : Si_counts_bk.all (fun b => ax_chB 6 4 cX6_counts Si_counts_cl b.1 b.2) = true := by decide +kernel
def Si_counts_cs : Ct := (3, 7, 2, (0, 0), fun as σ => (match as with
    | [.inr (.inr (.inl (k, 0, 6))), .inl a1, .inl a2] => Si_counts_pre k a1 a2 σ
    | _ => False), fun as σ r σ' => (match as with
    | [.inr (.inr (.inl (k, 0, 6))), .inl a1, .inl a2] => Si_counts_post k a1 a2 σ r σ'
    | _ => False))
theorem Si_counts_w : ∀ w ∈ ([.instanceMethod yX6_counts, .selects yX6_counts.cls yX6_counts yX6_counts, .initialized yX6_counts.cls, .code yX6_counts cX6_counts 4 (some .boolean)] : List Cond), w ∈ ax_tb := ax_w4 (ax_m5 93 (by decide +kernel) rfl) (ax_m5 94 (by decide +kernel) rfl) (ax_m1 7 (by decide +kernel) rfl) (ax_m5 95 (by decide +kernel) rfl)
theorem Si_counts_ds : yX6_counts.cls ≠ "java/lang/invoke/MethodHandle" ∧ yX6_counts.cls ≠ "java/lang/invoke/VarHandle" ∧ (parseMethodDescriptor yX6_counts.desc).map (fun d => d.parameters.length) = some 2 := by decide +kernel
def Si_counts_vc : Prop := ∀ (k : Nat) (a1 : Int) (a2 : Int) (σ : Hp), ax_H σ → Si_counts_pre k a1 a2 σ →
  (0 ≤ a1 ∧ a1 < 30) ∧
  (σ (k + 5) a1.toNat = (-1) →
    (0 ≤ a1 ∧ a1 < 30) ∧
    (a2 < σ (k + 4) a1.toNat →
      ((0 : Int) = 0 ∨ (0 : Int) = 1) ∧ Si_counts_post k a1 a2 σ 0 σ) ∧
    (¬ (a2 < σ (k + 4) a1.toNat) →
      (¬ (0 : Int) = (0 : Int) →
        ((0 : Int) = 0 ∨ (0 : Int) = 1) ∧ Si_counts_post k a1 a2 σ 0 σ) ∧
      (¬ (¬ (0 : Int) = (0 : Int)) →
        ((1 : Int) = 0 ∨ (1 : Int) = 1) ∧ Si_counts_post k a1 a2 σ 1 σ))) ∧
  (¬ (σ (k + 5) a1.toNat = (-1)) →
    (0 ≤ a1 ∧ a1 < 30) ∧
    (a2 < σ (k + 5) a1.toNat →
      (0 ≤ a1 ∧ a1 < 30) ∧
      (a2 < σ (k + 4) a1.toNat →
        ((0 : Int) = 0 ∨ (0 : Int) = 1) ∧ Si_counts_post k a1 a2 σ 0 σ) ∧
      (¬ (a2 < σ (k + 4) a1.toNat) →
        (¬ (0 : Int) = (0 : Int) →
          ((0 : Int) = 0 ∨ (0 : Int) = 1) ∧ Si_counts_post k a1 a2 σ 0 σ) ∧
        (¬ (¬ (0 : Int) = (0 : Int)) →
          ((1 : Int) = 0 ∨ (1 : Int) = 1) ∧ Si_counts_post k a1 a2 σ 1 σ))) ∧
    (¬ (a2 < σ (k + 5) a1.toNat) →
      (0 ≤ a1 ∧ a1 < 30) ∧
      (a2 < σ (k + 4) a1.toNat →
        ((0 : Int) = 0 ∨ (0 : Int) = 1) ∧ Si_counts_post k a1 a2 σ 0 σ) ∧
      (¬ (a2 < σ (k + 4) a1.toNat) →
        (¬ (1 : Int) = (0 : Int) →
          ((0 : Int) = 0 ∨ (0 : Int) = 1) ∧ Si_counts_post k a1 a2 σ 0 σ) ∧
        (¬ (¬ (1 : Int) = (0 : Int)) →
          ((1 : Int) = 0 ∨ (1 : Int) = 1) ∧ Si_counts_post k a1 a2 σ 1 σ))))
theorem Si_counts_p : Si_counts_vc := by
  intro k a b σ hH hp
  obtain ⟨rfl, a0, a1⟩ := hp
  have yes : (σ 23 a.toNat ≤ b ∧ ¬ (¬ σ 24 a.toNat = -1 ∧ σ 24 a.toNat ≤ b)) → Si_counts_post 19 a b σ 1 σ := fun h => ⟨rfl, Or.inl ⟨rfl, h⟩⟩
  have no : ¬ (σ 23 a.toNat ≤ b ∧ ¬ (¬ σ 24 a.toNat = -1 ∧ σ 24 a.toNat ≤ b)) → Si_counts_post 19 a b σ 0 σ := fun h => ⟨rfl, Or.inr ⟨rfl, h⟩⟩
  rw [show (19 + 4 : Nat) = 23 from rfl, show (19 + 5 : Nat) = 24 from rfl]
  refine ⟨⟨a0, a1⟩, fun h => ⟨⟨a0, a1⟩, fun h2 => ⟨Or.inl rfl, no (by omega)⟩, fun h2 => ⟨fun z => absurd rfl z, fun _ => ⟨Or.inr rfl, yes (by omega)⟩⟩⟩, fun h => ⟨⟨a0, a1⟩, fun h2 => ⟨⟨a0, a1⟩, fun h3 => ⟨Or.inl rfl, no (by omega)⟩, fun h3 => ⟨fun z => absurd rfl z, fun _ => ⟨Or.inr rfl, yes (by omega)⟩⟩⟩, fun h2 => ⟨⟨a0, a1⟩, fun h3 => ⟨Or.inl rfl, no (by omega)⟩, fun h3 => ⟨fun _ => ⟨Or.inl rfl, no (by omega)⟩, fun z => absurd (by decide) z⟩⟩⟩⟩
def Si_counts_I : List AV → Hp → Nat → Nat → List AV → List AV → Hp → Prop := fun as σ0 pc n st ls σ => (match as with
    | [.inr (.inr (.inl (k, 0, 6))), .inl a1, .inl a2] => False
    | _ => False)
def Si_counts_ct : Nat → Ct := fun n => match n with
  | _ => Si_counts_cs
set_option maxRecDepth 20000 in
set_option maxHeartbeats 4000000 in
theorem Si_counts_met {l : Launch} {D : va_G} {ad : Nat → Nat} {ca : Nat → ClassId} {L : Nat} {fx : Nat → Int} : ax_MC l D ad ca L fx yX6_counts cX6_counts 4 (some .boolean) 1 Si_counts_cs := by
  refine ax_met (oc := 6) (ct := Si_counts_ct) (calls := Si_counts_cl) (bs := Si_counts_bk) (cut := fun pc => false) (f := 6) (I := Si_counts_I) (by decide) rfl rfl Si_counts_ck (fun _ h => absurd h List.not_mem_nil) ?_ ?_
  · intro as σ0 hp hH
    match as, hp with
    | [.inr (.inr (.inl (k, 0, 6))), .inl a1, .inl a2], hp => exact ⟨rfl, Si_counts_p k a1 a2 σ0 hH hp⟩
  · intro as σ0 hp n pc st ls σ hH hI
    match as, hp, hI with
    | [.inr (.inr (.inl (k, 0, 6))), .inl a1, .inl a2], hp, hI => exact False.elim hI
def Si_fitsAll_pre (k : Nat) (a _b : Int) (σ : Hp) : Prop := k = 19 ∧ 0 ≤ a ∧ a < 100 ∧ SGO σ
def Si_fitsAll_post (_k : Nat) (a b : Int) (σ : Hp) (r : Int) (σ' : Hp) : Prop := σ' = σ ∧ r = if fitB (fun d => σ 28 (a.toNat * 10 + d)) (sgX σ) b (sgX σ).1 = true then 1 else 0
def Si_fitsAll_I2 (_k : Nat) (a b : Int) (σ0 : Hp) (m : Nat) (v3 : Int) (σ : Hp) : Prop := ∃ i : Nat, v3 = i ∧ (i : Int) ≤ σ0 19 9 ∧ m = 30 - i ∧ σ = σ0 ∧ fitB (fun d => σ0 28 (a.toNat * 10 + d)) (sgX σ0) b i = true
def Si_fitsAll_bk : List (Nat × List Item) := [(0, [(.iconst 0, 1, [], []), (.istore_n 3, 1, [], [])]),
  (2, [(.iload_n 3, 1, [], []), (.aload_n 0, 1, [], []), (.getfield 45, 3, [6, 9, 0, 0, 0, 0], []), (.if_icmp .ge 69, 3, [76], []), (.iload_n 3, 1, [], []), (.bipush 30, 2, [], []), (.if_icmp .ge 63, 3, [76], []), (.aload_n 0, 1, [], []), (.getfield 35, 3, [6, 6, 4, 9, 2, 1000], []), (.iload_n 1, 1, [], []), (.bipush 10, 2, [], []), (.imul, 1, [], []), (.aload_n 0, 1, [], []), (.getfield 11, 3, [6, 0, 4, 1, 1, 30], []), (.iload_n 3, 1, [], []), (.iaload, 1, [], []), (.iadd, 1, [], []), (.baload, 1, [], []), (.aload_n 0, 1, [], []), (.getfield 15, 3, [6, 1, 4, 2, 1, 30], []), (.iload_n 3, 1, [], []), (.iaload, 1, [], []), (.if_icmp .ne 7, 3, [45], []), (.iconst 1, 1, [], []), (.goto 4, 3, [46], [])]),
  (45, [(.iconst 0, 1, [], [])]),
  (46, [(.istore 4, 2, [], []), (.aload_n 0, 1, [], []), (.iload_n 3, 1, [], []), (.iload_n 2, 1, [], []), (.invokevirtual 76, 3, [0], []), (.ifCond .eq 16, 3, [70], []), (.iload 4, 2, [], []), (.aload_n 0, 1, [], []), (.getfield 18, 3, [6, 2, 4, 3, 3, 30], []), (.iload_n 3, 1, [], []), (.baload, 1, [], []), (.if_icmp .eq 5, 3, [70], []), (.iconst 0, 1, [], []), (.ireturn, 1, [], [])]),
  (70, [(.iinc 3 1, 3, [], []), (.goto (-71), 3, [2], [])]),
  (76, [(.iconst 1, 1, [], []), (.ireturn, 1, [], [])])]
def Si_fitsAll_cl : List (Instr × Nat) := [(.invokevirtual 76, 0)]
set_option maxRecDepth 20000 in
theorem Si_fitsAll_ck : Si_fitsAll_bk.all (fun b => ax_chB 6 5 cX6_fitsAll Si_fitsAll_cl b.1 b.2) = true := by decide +kernel
def Si_fitsAll_cs : Ct := (3, 7, 2, (0, 0), fun as σ => (match as with
    | [.inr (.inr (.inl (k, 0, 6))), .inl a1, .inl a2] => Si_fitsAll_pre k a1 a2 σ
    | _ => False), fun as σ r σ' => (match as with
    | [.inr (.inr (.inl (k, 0, 6))), .inl a1, .inl a2] => Si_fitsAll_post k a1 a2 σ r σ'
    | _ => False))
theorem Si_fitsAll_w : ∀ w ∈ ([.instanceMethod yX6_fitsAll, .selects yX6_fitsAll.cls yX6_fitsAll yX6_fitsAll, .initialized yX6_fitsAll.cls, .code yX6_fitsAll cX6_fitsAll 5 (some .boolean)] : List Cond), w ∈ ax_tb := ax_w4 (ax_m5 89 (by decide +kernel) rfl) (ax_m5 90 (by decide +kernel) rfl) (ax_m1 7 (by decide +kernel) rfl) (ax_m5 91 (by decide +kernel) rfl)
theorem Si_fitsAll_ds : yX6_fitsAll.cls ≠ "java/lang/invoke/MethodHandle" ∧ yX6_fitsAll.cls ≠ "java/lang/invoke/VarHandle" ∧ (parseMethodDescriptor yX6_fitsAll.desc).map (fun d => d.parameters.length) = some 2 := by decide +kernel
def Si_fitsAll_vc : Prop := ∀ (k : Nat) (a1 : Int) (a2 : Int) (σ : Hp), ax_H σ → Si_fitsAll_pre k a1 a2 σ →
  ∃ n' : Nat, k = k ∧ a1 = a1 ∧ a2 = a2 ∧ Si_fitsAll_I2 k a1 a2 σ n' 0 σ
def Si_fitsAll_vc2 : Prop := ∀ (k : Nat) (a1 : Int) (a2 : Int) (σ0 : Hp), Si_fitsAll_pre k a1 a2 σ0 → ∀ (n : Nat) (v3 : Int) (σ : Hp), ax_H σ → Si_fitsAll_I2 k a1 a2 σ0 n v3 σ →
  (σ k 9 ≤ v3 →
    ((1 : Int) = 0 ∨ (1 : Int) = 1) ∧ Si_fitsAll_post k a1 a2 σ0 1 σ) ∧
  (¬ (σ k 9 ≤ v3) →
    (30 ≤ v3 →
      ((1 : Int) = 0 ∨ (1 : Int) = 1) ∧ Si_fitsAll_post k a1 a2 σ0 1 σ) ∧
    (¬ (30 ≤ v3) →
      (0 ≤ v3 ∧ v3 < 30) ∧
      (0 ≤ wr ((wr (a1 * 10)) + (σ (k + 1) v3.toNat)) ∧ wr ((wr (a1 * 10)) + (σ (k + 1) v3.toNat)) < 1000) ∧
      (0 ≤ v3 ∧ v3 < 30) ∧
      (¬ σ (k + 9) (wr ((wr (a1 * 10)) + (σ (k + 1) v3.toNat))).toNat = σ (k + 2) v3.toNat →
        Si_counts_pre k v3 a2 σ ∧
        ∀ (r2 : Int) (σ1 : Hp), Si_counts_post k v3 a2 σ r2 σ1 →
        (r2 = 0 →
          ∃ n' : Nat, n' < n ∧ k = k ∧ a1 = a1 ∧ a2 = a2 ∧ Si_fitsAll_I2 k a1 a2 σ0 n' (wr (v3 + 1)) σ1) ∧
        (¬ (r2 = 0) →
          (0 ≤ v3 ∧ v3 < 30) ∧
          (0 = σ1 (k + 3) v3.toNat →
            ∃ n' : Nat, n' < n ∧ k = k ∧ a1 = a1 ∧ a2 = a2 ∧ Si_fitsAll_I2 k a1 a2 σ0 n' (wr (v3 + 1)) σ1) ∧
          (¬ (0 = σ1 (k + 3) v3.toNat) →
            ((0 : Int) = 0 ∨ (0 : Int) = 1) ∧ Si_fitsAll_post k a1 a2 σ0 0 σ1))) ∧
      (¬ (¬ σ (k + 9) (wr ((wr (a1 * 10)) + (σ (k + 1) v3.toNat))).toNat = σ (k + 2) v3.toNat) →
        Si_counts_pre k v3 a2 σ ∧
        ∀ (r4 : Int) (σ3 : Hp), Si_counts_post k v3 a2 σ r4 σ3 →
        (r4 = 0 →
          ∃ n' : Nat, n' < n ∧ k = k ∧ a1 = a1 ∧ a2 = a2 ∧ Si_fitsAll_I2 k a1 a2 σ0 n' (wr (v3 + 1)) σ3) ∧
        (¬ (r4 = 0) →
          (0 ≤ v3 ∧ v3 < 30) ∧
          (1 = σ3 (k + 3) v3.toNat →
            ∃ n' : Nat, n' < n ∧ k = k ∧ a1 = a1 ∧ a2 = a2 ∧ Si_fitsAll_I2 k a1 a2 σ0 n' (wr (v3 + 1)) σ3) ∧
          (¬ (1 = σ3 (k + 3) v3.toNat) →
            ((0 : Int) = 0 ∨ (0 : Int) = 1) ∧ Si_fitsAll_post k a1 a2 σ0 0 σ3)))))
theorem Si_fitsAll_p : Si_fitsAll_vc := by
  intro k a b σ hH hp
  obtain ⟨rfl, a0, a1, hG⟩ := hp
  exact ⟨30, rfl, rfl, rfl, 0, rfl, hG.1.1, rfl, rfl, rfl⟩
theorem H_was {σ : Hp} (hH : ax_H σ) (j : Nat) (hj : j < 30) : σ 22 j = 0 ∨ σ 22 j = 1 := by
  have h := hH 22
  exact h j
theorem Si_fitsAll_p2 : Si_fitsAll_vc2 := by
  intro k a b σ0 hp m v3 σ hH hI
  obtain ⟨rfl, a0, a1, ⟨c0, c1⟩, hday⟩ := hp
  obtain ⟨i, rfl, hi, rfl, rfl, hfit⟩ := hI
  have fin : σ 19 9 ≤ (i : Int) → Si_fitsAll_post 19 a b σ 1 σ := by
    intro h
    refine ⟨rfl, ?_⟩
    rw [show (sgX σ).1 = i by show (σ 19 9).toNat = i; omega, hfit, if_pos rfl]
  refine ⟨fun h => ⟨Or.inr rfl, fin h⟩, fun h => ⟨fun h2 => absurd h2 (by omega), fun h2 => ?_⟩⟩
  have hd := hday i (by omega)
  have e10 : wr (wr (a * 10) + σ (19 + 1) i) = ((a.toNat * 10 + (σ 20 i).toNat : Nat) : Int) := by
    have hd' : 0 ≤ σ (19 + 1) i ∧ σ (19 + 1) i < 10 := hd
    rw [wr_id (x := a * 10) (by omega) (by omega), wr_id (by omega) (by omega)]
    have : σ (19 + 1) i = σ 20 i := rfl
    omega
  rw [Int.toNat_natCast, e10, Int.toNat_natCast, wr1 (by omega) (by omega)]
  clear e10
  have hN : i < (σ 19 9).toNat := by omega
  have s1 : (sgX σ).2.1 i = σ 20 i := tr_in hN
  have s2 : (sgX σ).2.2.1 i = σ 21 i := tr_in hN
  have s3 : (sgX σ).2.2.2.1 i = σ 22 i := tr_in hN
  have s4 : (sgX σ).2.2.2.2.1 i = σ 23 i := tr_in hN
  have s5 : (sgX σ).2.2.2.2.2 i = σ 24 i := tr_in hN
  have hwas := H_was hH i (by omega)
  have go : (cts (sgX σ) i b → (σ 28 (a.toNat * 10 + (σ 20 i).toNat) = σ 21 i ↔ σ 22 i = 1)) → ∃ n' : Nat, n' < 30 - i ∧ (19 : Nat) = 19 ∧ a = a ∧ b = b ∧ Si_fitsAll_I2 19 a b σ n' ((i : Int) + 1) σ := by
    intro hh
    refine ⟨30 - (i + 1), by omega, rfl, rfl, rfl, i + 1, by simp, by omega, rfl, rfl, ?_⟩
    rw [fitB_s, hfit, s1, s2, s3, Bool.true_and]
    exact decide_eq_true hh
  have out : ¬ (cts (sgX σ) i b → (σ 28 (a.toNat * 10 + (σ 20 i).toNat) = σ 21 i ↔ σ 22 i = 1)) → Si_fitsAll_post 19 a b σ 0 σ := by
    intro hh
    have hff : fitB (fun d => σ 28 (a.toNat * 10 + d)) (sgX σ) b (i + 1) = false := by
      rw [fitB_s, hfit, s1, s2, s3, Bool.true_and]
      exact decide_eq_false hh
    have := fitB_f hff (sgX σ).1 (show i + 1 ≤ (σ 19 9).toNat by omega)
    exact ⟨rfl, by rw [this]; rfl⟩
  have ct : cts (sgX σ) i b ↔ (σ 23 i ≤ b ∧ ¬ (¬ σ 24 i = -1 ∧ σ 24 i ≤ b)) := by unfold cts; rw [s4, s5]
  refine ⟨⟨by omega, by omega⟩, ⟨by omega, by omega⟩, ⟨by omega, by omega⟩, fun h3 => ⟨⟨rfl, by omega, by omega⟩, ?_⟩, fun h3 => ⟨⟨rfl, by omega, by omega⟩, ?_⟩⟩
  · have h3' : ¬ σ 28 (a.toNat * 10 + (σ 20 i).toNat) = σ 21 i := h3
    rintro r2 σ1 ⟨rfl, hr⟩
    rw [Int.toNat_natCast, ← ct] at hr
    refine ⟨fun h4 => go (fun z => ?_), fun h4 => ⟨⟨by omega, by omega⟩, fun h5 => go (fun _ => ?_), fun h5 => ⟨Or.inl rfl, out (fun z => ?_)⟩⟩⟩
    · rcases hr with ⟨y, -⟩ | ⟨-, y⟩
      · omega
      · exact absurd z y
    · have h5' : (0 : Int) = σ1 22 i := h5
      exact ⟨fun y => absurd y h3', fun y => by rw [y] at h5'; cases h5'⟩
    · have h5' : ¬ (0 : Int) = σ1 22 i := h5
      rcases hr with ⟨-, y⟩ | ⟨y, -⟩
      · exact h3' ((z y).mpr (hwas.resolve_left (fun w => h5' w.symm)))
      · exact h4 y
  · have h3' : σ 28 (a.toNat * 10 + (σ 20 i).toNat) = σ 21 i := Classical.not_not.mp h3
    rintro r2 σ1 ⟨rfl, hr⟩
    rw [Int.toNat_natCast, ← ct] at hr
    refine ⟨fun h4 => go (fun z => ?_), fun h4 => ⟨⟨by omega, by omega⟩, fun h5 => go (fun _ => ?_), fun h5 => ⟨Or.inl rfl, out (fun z => ?_)⟩⟩⟩
    · rcases hr with ⟨y, -⟩ | ⟨-, y⟩
      · omega
      · exact absurd z y
    · have h5' : (1 : Int) = σ1 22 i := h5
      exact ⟨fun _ => h5'.symm, fun _ => h3'⟩
    · have h5' : ¬ (1 : Int) = σ1 22 i := h5
      rcases hr with ⟨-, y⟩ | ⟨y, -⟩
      · exact h5' ((z y).mp h3').symm
      · exact h4 y
def Si_fitsAll_I : List AV → Hp → Nat → Nat → List AV → List AV → Hp → Prop := fun as σ0 pc n st ls σ => (match as with
    | [.inr (.inr (.inl (k, 0, 6))), .inl a1, .inl a2] => (bif Nat.beq pc 2 then (match st, ls with
      | [], [.inr (.inr (.inl (k', 0, 6))), .inl a1', .inl a2', .inl v3, _] => k = k' ∧ a1 = a1' ∧ a2 = a2' ∧ Si_fitsAll_I2 k a1 a2 σ0 n v3 σ
      | _, _ => False) else False)
    | _ => False)
def Si_fitsAll_ct : Nat → Ct := fun n => match n with
  | 0 => Si_counts_cs
  | _ => Si_fitsAll_cs
set_option maxRecDepth 20000 in
set_option maxHeartbeats 4000000 in
theorem Si_fitsAll_met {l : Launch} {D : va_G} {ad : Nat → Nat} {ca : Nat → ClassId} {L : Nat} {fx : Nat → Int} : ax_MC l D ad ca L fx yX6_fitsAll cX6_fitsAll 5 (some .boolean) 2 Si_fitsAll_cs := by
  refine ax_met (oc := 6) (ct := Si_fitsAll_ct) (calls := Si_fitsAll_cl) (bs := Si_fitsAll_bk) (cut := fun pc => Nat.beq pc 2) (f := 7) (I := Si_fitsAll_I) (by decide) rfl rfl Si_fitsAll_ck (List.forall_mem_cons.mpr ⟨ax_cwV Si_counts_met (by decide) (by decide) rfl (by decide) rfl (ax_m5 92 (by decide +kernel) rfl) Si_counts_w rfl Si_counts_ds, fun _ h => absurd h List.not_mem_nil⟩) ?_ ?_
  · intro as σ0 hp hH
    match as, hp with
    | [.inr (.inr (.inl (k, 0, 6))), .inl a1, .inl a2], hp => exact ⟨rfl, Si_fitsAll_p k a1 a2 σ0 hH hp⟩
  · intro as σ0 hp n pc st ls σ hH hI
    match as, hp, hI with
    | [.inr (.inr (.inl (k, 0, 6))), .inl a1, .inl a2], hp, hI =>
      rcases ax_bifE hI with ⟨hpc, hI⟩ | ⟨-, hI⟩
      · have := Nat.eq_of_beq_eq_true hpc
        subst this
        match st, ls, hI with
        | [], [.inr (.inr (.inl (k', 0, 6))), .inl a1', .inl a2', .inl v3, _], hI =>
          obtain ⟨rfl, rfl, rfl, hI⟩ := hI
          exact Si_fitsAll_p2 k a1 a2 σ0 hp n v3 σ hH hI
      exact False.elim hI
def fts (F : Fam) (G : Sgt) (k : Int) (c : Nat) : Bool := decide (0 < fN F) && fitB (wsn F c) G k G.1
def nfit (F : Fam) (G : Sgt) (k : Int) : Nat → Nat
  | 0 => 0
  | m + 1 => nfit F G k m + (if fts F G k m = true then 1 else 0)
theorem nfit_s (F : Fam) (G : Sgt) (k : Int) (m : Nat) : nfit F G k (m + 1) = nfit F G k m + (if fts F G k m = true then 1 else 0) := rfl
theorem nfit_le (F : Fam) (G : Sgt) (k : Int) (m : Nat) : nfit F G k m ≤ m := by
  induction m with
  | zero => exact Nat.le_refl 0
  | succ m ih => rw [nfit_s]; split <;> omega
def mf (f : Nat) : List Nat := 29 :: mh f
/-- the hairs, if they are made, are what they must be -/
def HM (σ : Hp) (f : Nat) : Prop := ¬ σ 19 10 = 0 → 0 < fN (famX σ f) ∧ HT σ (famX σ f)
def Si_countFitting_pre (k f : Nat) (_a : Int) (σ : Hp) : Prop := k = 19 ∧ FO f ∧ FS σ f ∧ SGO σ ∧ HM σ f
def Si_countFitting_post (_k f : Nat) (a : Int) (σ : Hp) (r : Int) (σ' : Hp) : Prop := Fr (mf f) σ σ' ∧ σ' 19 9 = σ 19 9 ∧ HM σ' f ∧ (0 < fN (famX σ f) → HT σ' (famX σ f)) ∧ r = (nfit (famX σ f) (sgX σ) a 100 : Nat) ∧ ∀ c, c < 100 → σ' 29 c = if fts (famX σ f) (sgX σ) a c = true then 1 else 0
def Si_countFitting_I17 (_k f : Nat) (a : Int) (σ0 : Hp) (m : Nat) (v3 v4 : Int) (σ : Hp) : Prop := ∃ c : Nat, v4 = c ∧ c ≤ 100 ∧ m = 100 - c ∧ Fr (mf f) σ0 σ ∧ σ 19 9 = σ0 19 9 ∧ HM σ f ∧ (0 < fN (famX σ0 f) → HT σ (famX σ0 f)) ∧ v3 = (nfit (famX σ0 f) (sgX σ0) a c : Nat) ∧ ∀ c', c' < c → σ 29 c' = if fts (famX σ0 f) (sgX σ0) a c' = true then 1 else 0
def Si_countFitting_bk : List (Nat × List Item) := [(0, [(.aload_n 1, 1, [], []), (.getfield 53, 3, [1, 9, 0, 0, 0, 0], []), (.ifCond .le 8, 3, [12], []), (.aload_n 0, 1, [], []), (.aload_n 1, 1, [], []), (.invokevirtual 68, 3, [0], [])]),
  (12, [(.iconst 0, 1, [], []), (.istore_n 3, 1, [], []), (.iconst 0, 1, [], []), (.istore 4, 2, [], [])]),
  (17, [(.iload 4, 2, [], []), (.bipush 100, 2, [], []), (.if_icmp .ge 51, 3, [72], []), (.aload_n 0, 1, [], []), (.getfield 39, 3, [6, 7, 4, 10, 3, 100], []), (.iload 4, 2, [], []), (.aload_n 1, 1, [], []), (.getfield 53, 3, [1, 9, 0, 0, 0, 0], []), (.ifCond .le 17, 3, [51], []), (.aload_n 0, 1, [], []), (.iload 4, 2, [], []), (.iload_n 2, 1, [], []), (.invokevirtual 72, 3, [1], []), (.ifCond .eq 7, 3, [51], []), (.iconst 1, 1, [], []), (.goto 4, 3, [52], [])]),
  (51, [(.iconst 0, 1, [], [])]),
  (52, [(.bastore, 1, [], []), (.aload_n 0, 1, [], []), (.getfield 39, 3, [6, 7, 4, 10, 3, 100], []), (.iload 4, 2, [], []), (.baload, 1, [], []), (.ifCond .eq 6, 3, [66], []), (.iinc 3 1, 3, [], [])]),
  (66, [(.iinc 4 1, 3, [], []), (.goto (-52), 3, [17], [])]),
  (72, [(.iload_n 3, 1, [], []), (.ireturn, 1, [], [])])]
def Si_countFitting_cl : List (Instr × Nat) := [(.invokevirtual 68, 0), (.invokevirtual 72, 1)]
set_option maxRecDepth 20000 in
theorem Si_countFitting_ck : Si_countFitting_bk.all (fun b => ax_chB 6 5 cX6_countFitting Si_countFitting_cl b.1 b.2) = true := by decide +kernel
def Si_countFitting_cs : Ct := (3, 7, 1, (0, 0), fun as σ => (match as with
    | [.inr (.inr (.inl (k, 0, 6))), .inr (.inr (.inl (q1, 0, 1))), .inl a2] => Si_countFitting_pre k q1 a2 σ
    | _ => False), fun as σ r σ' => (match as with
    | [.inr (.inr (.inl (k, 0, 6))), .inr (.inr (.inl (q1, 0, 1))), .inl a2] => Si_countFitting_post k q1 a2 σ r σ'
    | _ => False))
theorem Si_countFitting_w : ∀ w ∈ ([.instanceMethod yX6_countFitting, .selects yX6_countFitting.cls yX6_countFitting yX6_countFitting, .initialized yX6_countFitting.cls, .code yX6_countFitting cX6_countFitting 5 (some .int)] : List Cond), w ∈ ax_tb := ax_w4 (ax_m5 79 (by decide +kernel) rfl) (ax_m5 80 (by decide +kernel) rfl) (ax_m1 7 (by decide +kernel) rfl) (ax_m5 81 (by decide +kernel) rfl)
theorem Si_countFitting_ds : yX6_countFitting.cls ≠ "java/lang/invoke/MethodHandle" ∧ yX6_countFitting.cls ≠ "java/lang/invoke/VarHandle" ∧ (parseMethodDescriptor yX6_countFitting.desc).map (fun d => d.parameters.length) = some 2 := by decide +kernel
def Si_countFitting_vc : Prop := ∀ (k : Nat) (q1 : Nat) (a2 : Int) (σ : Hp), ax_H σ → Si_countFitting_pre k q1 a2 σ →
  (σ q1 9 ≤ 0 →
    ∃ n' : Nat, k = k ∧ q1 = q1 ∧ a2 = a2 ∧ Si_countFitting_I17 k q1 a2 σ n' 0 0 σ) ∧
  (¬ (σ q1 9 ≤ 0) →
    Si_makeHairs_pre k q1 σ ∧
    ∀ σ1 : Hp, Si_makeHairs_post k q1 σ σ1 →
    ∃ n' : Nat, k = k ∧ q1 = q1 ∧ a2 = a2 ∧ Si_countFitting_I17 k q1 a2 σ n' 0 0 σ1)
def Si_countFitting_vc17 : Prop := ∀ (k : Nat) (q1 : Nat) (a2 : Int) (σ0 : Hp), Si_countFitting_pre k q1 a2 σ0 → ∀ (n : Nat) (v3 : Int) (v4 : Int) (σ : Hp), ax_H σ → Si_countFitting_I17 k q1 a2 σ0 n v3 v4 σ →
  (100 ≤ v4 →
    Si_countFitting_post k q1 a2 σ0 v3 σ) ∧
  (¬ (100 ≤ v4) →
    (σ q1 9 ≤ 0 →
      (0 ≤ v4 ∧ v4 < 100) ∧
      ((0 : Int) = 0 ∨ (0 : Int) = 1) ∧ ∀ σ1 : Hp, σ1 = hp σ (k + 10) v4.toNat 0 →
      (0 ≤ v4 ∧ v4 < 100) ∧
      (σ1 (k + 10) v4.toNat = 0 →
        ∃ n' : Nat, n' < n ∧ k = k ∧ q1 = q1 ∧ a2 = a2 ∧ Si_countFitting_I17 k q1 a2 σ0 n' v3 (wr (v4 + 1)) σ1) ∧
      (¬ (σ1 (k + 10) v4.toNat = 0) →
        ∃ n' : Nat, n' < n ∧ k = k ∧ q1 = q1 ∧ a2 = a2 ∧ Si_countFitting_I17 k q1 a2 σ0 n' (wr (v3 + 1)) (wr (v4 + 1)) σ1)) ∧
    (¬ (σ q1 9 ≤ 0) →
      Si_fitsAll_pre k v4 a2 σ ∧
      ∀ (r3 : Int) (σ2 : Hp), Si_fitsAll_post k v4 a2 σ r3 σ2 →
      (r3 = 0 →
        (0 ≤ v4 ∧ v4 < 100) ∧
        ((0 : Int) = 0 ∨ (0 : Int) = 1) ∧ ∀ σ4 : Hp, σ4 = hp σ2 (k + 10) v4.toNat 0 →
        (0 ≤ v4 ∧ v4 < 100) ∧
        (σ4 (k + 10) v4.toNat = 0 →
          ∃ n' : Nat, n' < n ∧ k = k ∧ q1 = q1 ∧ a2 = a2 ∧ Si_countFitting_I17 k q1 a2 σ0 n' v3 (wr (v4 + 1)) σ4) ∧
        (¬ (σ4 (k + 10) v4.toNat = 0) →
          ∃ n' : Nat, n' < n ∧ k = k ∧ q1 = q1 ∧ a2 = a2 ∧ Si_countFitting_I17 k q1 a2 σ0 n' (wr (v3 + 1)) (wr (v4 + 1)) σ4)) ∧
      (¬ (r3 = 0) →
        (0 ≤ v4 ∧ v4 < 100) ∧
        ((1 : Int) = 0 ∨ (1 : Int) = 1) ∧ ∀ σ5 : Hp, σ5 = hp σ2 (k + 10) v4.toNat 1 →
        (0 ≤ v4 ∧ v4 < 100) ∧
        (σ5 (k + 10) v4.toNat = 0 →
          ∃ n' : Nat, n' < n ∧ k = k ∧ q1 = q1 ∧ a2 = a2 ∧ Si_countFitting_I17 k q1 a2 σ0 n' v3 (wr (v4 + 1)) σ5) ∧
        (¬ (σ5 (k + 10) v4.toNat = 0) →
          ∃ n' : Nat, n' < n ∧ k = k ∧ q1 = q1 ∧ a2 = a2 ∧ Si_countFitting_I17 k q1 a2 σ0 n' (wr (v3 + 1)) (wr (v4 + 1)) σ5))))
theorem mf_c {f : Nat} : ∀ c ∈ mf f, c < 35 ∨ 67 ≤ c ∨ c = f + 7 ∨ c = f + 10 ∨ c = f + 11 ∨ c = f + 14 ∨ c = f + 15 := by
  intro c hc
  rcases List.mem_cons.mp hc with rfl | hc
  · omega
  · exact mh_c c hc
theorem mf_no {f c : Nat} (hk : FO f) (h : (20 ≤ c ∧ c ≤ 24) ∨ (30 ≤ c ∧ c < 35) ∨ c < 19) : c ∉ mf f := by
  intro z
  rcases List.mem_cons.mp z with rfl | z
  · omega
  · exact mh_no hk (by omega) z
theorem sgX_eq {σ σ' : Hp} (h9 : σ' 19 9 = σ 19 9) (h : ∀ c, 20 ≤ c → c ≤ 24 → σ' c = σ c) : sgX σ' = sgX σ := by
  unfold sgX
  rw [h9, h 20 (by omega) (by omega), h 21 (by omega) (by omega), h 22 (by omega) (by omega), h 23 (by omega) (by omega), h 24 (by omega) (by omega)]
theorem SGO_eq {σ σ' : Hp} (h9 : σ' 19 9 = σ 19 9) (h : σ' 20 = σ 20) (g : SGO σ) : SGO σ' := by
  unfold SGO; rw [h9, h]; exact g
theorem Si_countFitting_p : Si_countFitting_vc := by
  intro k f a σ hH hp
  obtain ⟨rfl, hk, hF, hG, hM⟩ := hp
  have hn6 := hF.n6
  rw [hF.e9]
  refine ⟨fun h => ⟨100, rfl, rfl, rfl, 0, rfl, by omega, rfl, Fr.rf, rfl, hM, fun z => absurd z (by omega), rfl, fun c hc => absurd hc (Nat.not_lt_zero c)⟩, fun h => ⟨⟨rfl, hk, hF, by omega, fun z => (hM z).2⟩, ?_⟩⟩
  rintro σ1 ⟨g1, g2, g3, g4⟩
  have hK := FK_of hk g1 mh_c
  exact ⟨100, rfl, rfl, rfl, 0, rfl, by omega, rfl, g1.mono (fun c hc => List.mem_cons_of_mem _ hc), g3, fun _ => ⟨by rw [hK.fam]; omega, by rw [hK.fam]; exact g2⟩, fun _ => g2, rfl, fun c hc => absurd hc (Nat.not_lt_zero c)⟩
theorem HM_29 {σ : Hp} {f c : Nat} {v : Int} (hk : FO f) (h : HM σ f) : HM (hp σ 29 c v) f := by
  have e : famX (hp σ 29 c v) f = famX σ f := (FK_of hk (Fr.hp (cs := [29]) Fr.rf (by simp)) (by intro c hc; simp at hc; omega)).fam
  unfold HM HT
  rw [e, hp_ne (by decide), hp_ne (by decide)]
  exact h
theorem Si_countFitting_p17 : Si_countFitting_vc17 := by
  intro k f a σ0 hp m v3 v4 σ hH hI
  obtain ⟨rfl, hk, hF, hG, hM0⟩ := hp
  obtain ⟨c, rfl, hc, rfl, hf, h9, hM, hT, rfl, hr⟩ := hI
  have hK := FK_of hk hf mf_c
  have hn6 := hF.n6
  have hF1 := hK.fs hF
  have hsg : sgX σ = sgX σ0 := sgX_eq h9 (fun q q1 q2 => hf q (mf_no hk (by omega)))
  have hnl := nfit_le (famX σ0 f) (sgX σ0) a c
  rw [hF1.e9, hK.fam]
  have go : c < 100 → ∀ (v : Int), v = (if fts (famX σ0 f) (sgX σ0) a c = true then 1 else 0) → ∀ w3 : Int, (v = 0 → w3 = (nfit (famX σ0 f) (sgX σ0) a c : Nat)) → (¬ v = 0 → w3 = wr (((nfit (famX σ0 f) (sgX σ0) a c : Nat) : Int) + 1)) → ∃ n' : Nat, n' < 100 - c ∧ (19 : Nat) = 19 ∧ f = f ∧ a = a ∧ Si_countFitting_I17 19 f a σ0 n' w3 (wr ((c : Int) + 1)) (hp σ 29 c v) := by
    intro hc1 v hv w3 hw0 hw1
    refine ⟨100 - (c + 1), by omega, rfl, rfl, rfl, c + 1, by rw [wr1 (by omega) (by omega)]; simp, by omega, rfl, Fr.hp hf (by simp [mf]), ?_, HM_29 hk hM, fun z => ?_, ?_, fun c' hc' => ?_⟩
    · rw [hp_ne (by decide)]; exact h9
    · unfold HT; rw [hp_ne (by decide)]; exact hT z
    · rw [nfit_s]
      by_cases z : fts (famX σ0 f) (sgX σ0) a c = true
      · rw [if_pos z] at hv ⊢
        rw [hw1 (by omega), wr1 (by omega) (by omega)]; simp
      · rw [if_neg z] at hv ⊢
        rw [hw0 hv]; simp
    · rw [hp_rd]
      by_cases e : c' = c
      · rw [if_pos ⟨rfl, e⟩, e]; exact hv
      · rw [if_neg (fun z => e z.2)]; exact hr c' (by omega)
  refine ⟨fun h => ?_, fun h => ⟨fun h2 => ⟨⟨by omega, by omega⟩, Or.inl rfl, ?_⟩, fun h2 => ⟨⟨rfl, by omega, by omega, SGO_eq h9 (hf 20 (mf_no hk (by omega))) hG⟩, ?_⟩⟩⟩
  · have e : c = 100 := by omega
    subst e
    exact ⟨hf, h9, hM, hT, rfl, hr⟩
  · rintro σ1 rfl
    have hz : (0 : Int) = if fts (famX σ0 f) (sgX σ0) a c = true then 1 else 0 := by
      have : fts (famX σ0 f) (sgX σ0) a c = false := by
        unfold fts
        rw [decide_eq_false (by omega)]; rfl
      rw [this]; rfl
    rw [Int.toNat_natCast, show (19 + 10 : Nat) = 29 from rfl, hp_r1]
    exact ⟨⟨by omega, by omega⟩, fun _ => go (by omega) 0 hz _ (fun _ => rfl) (fun z => absurd rfl z), fun z => absurd rfl z⟩
  · rintro r3 σ2 ⟨rfl, rfl⟩
    have ef : fitB (fun d => σ2 28 ((c : Int).toNat * 10 + d)) (sgX σ2) a (sgX σ2).1 = fitB (wsn (famX σ0 f) c) (sgX σ0) a (sgX σ0).1 := by
      rw [hsg]
      refine fitB_ext _ (fun i hi => ?_)
      have hi' : i < (σ0 19 9).toNat := hi
      have hd := hG.2 i (by omega)
      have e1 : (sgX σ0).2.1 i = σ0 20 i := tr_in hi'
      rw [Int.toNat_natCast, e1]
      exact hT (by omega) c (by omega) _ (by omega)
    have eft : fts (famX σ0 f) (sgX σ0) a c = fitB (wsn (famX σ0 f) c) (sgX σ0) a (sgX σ0).1 := by
      unfold fts
      rw [decide_eq_true (by omega), Bool.true_and]
    rw [ef, ← eft, Int.toNat_natCast, show (19 + 10 : Nat) = 29 from rfl]
    refine ⟨fun h4 => ⟨⟨by omega, by omega⟩, Or.inl rfl, ?_⟩, fun h4 => ⟨⟨by omega, by omega⟩, Or.inr rfl, ?_⟩⟩
    · rintro σ4 rfl
      rw [hp_r1]
      exact ⟨⟨by omega, by omega⟩, fun _ => go (by omega) 0 h4.symm _ (fun _ => rfl) (fun z => absurd rfl z), fun z => absurd rfl z⟩
    · rintro σ5 rfl
      rw [hp_r1]
      have h1 : (1 : Int) = if fts (famX σ0 f) (sgX σ0) a c = true then 1 else 0 := by
        by_cases z : fts (famX σ0 f) (sgX σ0) a c = true
        · rw [if_pos z]
        · rw [if_neg z] at h4; exact absurd rfl h4
      exact ⟨⟨by omega, by omega⟩, fun z => absurd z (by decide), fun _ => go (by omega) 1 h1 _ (fun z => absurd z (by decide)) (fun _ => rfl)⟩
def Si_countFitting_I : List AV → Hp → Nat → Nat → List AV → List AV → Hp → Prop := fun as σ0 pc n st ls σ => (match as with
    | [.inr (.inr (.inl (k, 0, 6))), .inr (.inr (.inl (q1, 0, 1))), .inl a2] => (bif Nat.beq pc 17 then (match st, ls with
      | [], [.inr (.inr (.inl (k', 0, 6))), .inr (.inr (.inl (q1', 0, 1))), .inl a2', .inl v3, .inl v4] => k = k' ∧ q1 = q1' ∧ a2 = a2' ∧ Si_countFitting_I17 k q1 a2 σ0 n v3 v4 σ
      | _, _ => False) else False)
    | _ => False)
def Si_countFitting_ct : Nat → Ct := fun n => match n with
  | 0 => Si_makeHairs_cs
  | 1 => Si_fitsAll_cs
  | _ => Si_countFitting_cs
set_option maxRecDepth 20000 in
set_option maxHeartbeats 4000000 in
theorem Si_countFitting_met {l : Launch} {D : va_G} {ad : Nat → Nat} {ca : Nat → ClassId} {L : Nat} {fx : Nat → Int} : ax_MC l D ad ca L fx yX6_countFitting cX6_countFitting 5 (some .int) 7 Si_countFitting_cs := by
  refine ax_met (oc := 6) (ct := Si_countFitting_ct) (calls := Si_countFitting_cl) (bs := Si_countFitting_bk) (cut := fun pc => Nat.beq pc 17) (f := 8) (I := Si_countFitting_I) (by decide) rfl rfl Si_countFitting_ck (List.forall_mem_cons.mpr ⟨ax_cwV Si_makeHairs_met (by decide) (by decide) rfl (by decide) rfl (ax_m5 82 (by decide +kernel) rfl) Si_makeHairs_w rfl Si_makeHairs_ds, List.forall_mem_cons.mpr ⟨ax_cwV Si_fitsAll_met (by decide) (by decide) rfl (by decide) rfl (ax_m5 88 (by decide +kernel) rfl) Si_fitsAll_w rfl Si_fitsAll_ds, fun _ h => absurd h List.not_mem_nil⟩⟩) ?_ ?_
  · intro as σ0 hp hH
    match as, hp with
    | [.inr (.inr (.inl (k, 0, 6))), .inr (.inr (.inl (q1, 0, 1))), .inl a2], hp => exact ⟨rfl, Si_countFitting_p k q1 a2 σ0 hH hp⟩
  · intro as σ0 hp n pc st ls σ hH hI
    match as, hp, hI with
    | [.inr (.inr (.inl (k, 0, 6))), .inr (.inr (.inl (q1, 0, 1))), .inl a2], hp, hI =>
      rcases ax_bifE hI with ⟨hpc, hI⟩ | ⟨-, hI⟩
      · have := Nat.eq_of_beq_eq_true hpc
        subst this
        match st, ls, hI with
        | [], [.inr (.inr (.inl (k', 0, 6))), .inr (.inr (.inl (q1', 0, 1))), .inl a2', .inl v3, .inl v4], hI =>
          obtain ⟨rfl, rfl, rfl, hI⟩ := hI
          exact Si_countFitting_p17 k q1 a2 σ0 hp n v3 v4 σ hH hI
      exact False.elim hI
def Gst (P : Nat → Prop) (n : Nat) (r : Int) : Prop := (∃ i : Nat, i < n ∧ r = i ∧ P i ∧ ∀ j, i < j → j < n → ¬ P j) ∨ (r = -1 ∧ ∀ j, j < n → ¬ P j)
theorem Gst.uniq {P : Nat → Prop} {n : Nat} {r t : Int} (h : Gst P n r) (g : Gst P n t) : r = t := by
  rcases h with ⟨i, h1, rfl, h3, h4⟩ | ⟨rfl, h1⟩ <;> rcases g with ⟨j, g1, rfl, g3, g4⟩ | ⟨rfl, g1⟩
  · rcases Nat.lt_trichotomy i j with h | h | h
    · exact absurd g3 (h4 j h g1)
    · rw [h]
    · exact absurd h3 (g4 i h h1)
  · exact absurd h3 (g1 i (by assumption))
  · exact absurd g3 (h1 j (by assumption))
  · rfl
def Si_leastFitting_pre (k : Nat) (_σ : Hp) : Prop := k = 19
def Si_leastFitting_post (_k : Nat) (σ : Hp) (r : Int) (σ' : Hp) : Prop := σ' = σ ∧ Lst (fun c => ¬ σ 29 c = 0) 100 r
def Si_leastFitting_I2 (_k : Nat) (σ0 : Hp) (m : Nat) (v1 : Int) (σ : Hp) : Prop := ∃ c : Nat, v1 = c ∧ c ≤ 100 ∧ m = 100 - c ∧ σ = σ0 ∧ ∀ j, j < c → ¬ ¬ σ0 29 j = 0
def Si_leastFitting_bk : List (Nat × List Item) := [(0, [(.iconst 0, 1, [], []), (.istore_n 1, 1, [], [])]),
  (2, [(.iload_n 1, 1, [], []), (.bipush 100, 2, [], []), (.if_icmp .ge 20, 3, [25], []), (.aload_n 0, 1, [], []), (.getfield 39, 3, [6, 7, 4, 10, 3, 100], []), (.iload_n 1, 1, [], []), (.baload, 1, [], []), (.ifCond .eq 5, 3, [19], []), (.iload_n 1, 1, [], []), (.ireturn, 1, [], [])]),
  (19, [(.iinc 1 1, 3, [], []), (.goto (-20), 3, [2], [])]),
  (25, [(.iconst (-1), 1, [], []), (.ireturn, 1, [], [])])]
def Si_leastFitting_cl : List (Instr × Nat) := []
set_option maxRecDepth 20000 in
theorem Si_leastFitting_ck : Si_leastFitting_bk.all (fun b => ax_chB 6 2 cX6_leastFitting Si_leastFitting_cl b.1 b.2) = true := by decide +kernel
def Si_leastFitting_cs : Ct := (1, 7, 1, (0, 0), fun as σ => (match as with
    | [.inr (.inr (.inl (k, 0, 6)))] => Si_leastFitting_pre k σ
    | _ => False), fun as σ r σ' => (match as with
    | [.inr (.inr (.inl (k, 0, 6)))] => Si_leastFitting_post k σ r σ'
    | _ => False))
theorem Si_leastFitting_w : ∀ w ∈ ([.instanceMethod yX6_leastFitting, .selects yX6_leastFitting.cls yX6_leastFitting yX6_leastFitting, .initialized yX6_leastFitting.cls, .code yX6_leastFitting cX6_leastFitting 2 (some .int)] : List Cond), w ∈ ax_tb := ax_w4 (ax_m5 101 (by decide +kernel) rfl) (ax_m5 102 (by decide +kernel) rfl) (ax_m1 7 (by decide +kernel) rfl) (ax_m5 103 (by decide +kernel) rfl)
theorem Si_leastFitting_ds : yX6_leastFitting.cls ≠ "java/lang/invoke/MethodHandle" ∧ yX6_leastFitting.cls ≠ "java/lang/invoke/VarHandle" ∧ (parseMethodDescriptor yX6_leastFitting.desc).map (fun d => d.parameters.length) = some 0 := by decide +kernel
def Si_leastFitting_vc : Prop := ∀ (k : Nat) (σ : Hp), ax_H σ → Si_leastFitting_pre k σ →
  ∃ n' : Nat, k = k ∧ Si_leastFitting_I2 k σ n' 0 σ
def Si_leastFitting_vc2 : Prop := ∀ (k : Nat) (σ0 : Hp), Si_leastFitting_pre k σ0 → ∀ (n : Nat) (v1 : Int) (σ : Hp), ax_H σ → Si_leastFitting_I2 k σ0 n v1 σ →
  (100 ≤ v1 →
    Si_leastFitting_post k σ0 (-1) σ) ∧
  (¬ (100 ≤ v1) →
    (0 ≤ v1 ∧ v1 < 100) ∧
    (σ (k + 10) v1.toNat = 0 →
      ∃ n' : Nat, n' < n ∧ k = k ∧ Si_leastFitting_I2 k σ0 n' (wr (v1 + 1)) σ) ∧
    (¬ (σ (k + 10) v1.toNat = 0) →
      Si_leastFitting_post k σ0 v1 σ))
theorem Si_leastFitting_p : Si_leastFitting_vc := by
  intro k σ hH hp
  exact ⟨100, rfl, 0, rfl, by omega, rfl, rfl, fun j hj => absurd hj (Nat.not_lt_zero j)⟩
theorem Si_leastFitting_p2 : Si_leastFitting_vc2 := by
  intro k σ0 hp m v1 σ hH hI
  obtain ⟨rfl⟩ := hp
  obtain ⟨c, rfl, hc, rfl, rfl, hr⟩ := hI
  rw [Int.toNat_natCast, show (19 + 10 : Nat) = 29 from rfl]
  refine ⟨fun h => ⟨rfl, Or.inr ⟨rfl, fun j hj => hr j (by omega)⟩⟩, fun h => ⟨⟨by omega, by omega⟩, fun h2 => ⟨100 - (c + 1), by omega, rfl, c + 1, by rw [wr1 (by omega) (by omega)]; simp, by omega, rfl, rfl, fun j hj => ?_⟩, fun h2 => ⟨rfl, Or.inl ⟨c, by omega, rfl, h2, hr⟩⟩⟩⟩
  by_cases e : j = c
  · subst e; exact fun z => z h2
  · exact hr j (by omega)
def Si_leastFitting_I : List AV → Hp → Nat → Nat → List AV → List AV → Hp → Prop := fun as σ0 pc n st ls σ => (match as with
    | [.inr (.inr (.inl (k, 0, 6)))] => (bif Nat.beq pc 2 then (match st, ls with
      | [], [.inr (.inr (.inl (k', 0, 6))), .inl v1] => k = k' ∧ Si_leastFitting_I2 k σ0 n v1 σ
      | _, _ => False) else False)
    | _ => False)
def Si_leastFitting_ct : Nat → Ct := fun n => match n with
  | _ => Si_leastFitting_cs
set_option maxRecDepth 20000 in
set_option maxHeartbeats 4000000 in
theorem Si_leastFitting_met {l : Launch} {D : va_G} {ad : Nat → Nat} {ca : Nat → ClassId} {L : Nat} {fx : Nat → Int} : ax_MC l D ad ca L fx yX6_leastFitting cX6_leastFitting 2 (some .int) 1 Si_leastFitting_cs := by
  refine ax_met (oc := 6) (ct := Si_leastFitting_ct) (calls := Si_leastFitting_cl) (bs := Si_leastFitting_bk) (cut := fun pc => Nat.beq pc 2) (f := 5) (I := Si_leastFitting_I) (by decide) rfl rfl Si_leastFitting_ck (fun _ h => absurd h List.not_mem_nil) ?_ ?_
  · intro as σ0 hp hH
    match as, hp with
    | [.inr (.inr (.inl (k, 0, 6)))], hp => exact ⟨rfl, Si_leastFitting_p k σ0 hH hp⟩
  · intro as σ0 hp n pc st ls σ hH hI
    match as, hp, hI with
    | [.inr (.inr (.inl (k, 0, 6)))], hp, hI =>
      rcases ax_bifE hI with ⟨hpc, hI⟩ | ⟨-, hI⟩
      · have := Nat.eq_of_beq_eq_true hpc
        subst this
        match st, ls, hI with
        | [], [.inr (.inr (.inl (k', 0, 6))), .inl v1], hI =>
          obtain ⟨rfl, hI⟩ := hI
          exact Si_leastFitting_p2 k σ0 hp n v1 σ hH hI
      exact False.elim hI
def Si_greatestFitting_pre (k : Nat) (_σ : Hp) : Prop := k = 19
def Si_greatestFitting_post (_k : Nat) (σ : Hp) (r : Int) (σ' : Hp) : Prop := σ' = σ ∧ Gst (fun c => ¬ σ 29 c = 0) 100 r
def Si_greatestFitting_I3 (_k : Nat) (σ0 : Hp) (m : Nat) (v1 : Int) (σ : Hp) : Prop := ∃ c : Nat, v1 = (c : Int) - 1 ∧ c ≤ 100 ∧ m = c ∧ σ = σ0 ∧ ∀ j, c ≤ j → j < 100 → ¬ ¬ σ0 29 j = 0
def Si_greatestFitting_bk : List (Nat × List Item) := [(0, [(.bipush 99, 2, [], []), (.istore_n 1, 1, [], [])]),
  (3, [(.iload_n 1, 1, [], []), (.ifCond .lt 20, 3, [24], []), (.aload_n 0, 1, [], []), (.getfield 39, 3, [6, 7, 4, 10, 3, 100], []), (.iload_n 1, 1, [], []), (.baload, 1, [], []), (.ifCond .eq 5, 3, [18], []), (.iload_n 1, 1, [], []), (.ireturn, 1, [], [])]),
  (18, [(.iinc 1 (-1), 3, [], []), (.goto (-18), 3, [3], [])]),
  (24, [(.iconst (-1), 1, [], []), (.ireturn, 1, [], [])])]
def Si_greatestFitting_cl : List (Instr × Nat) := []
set_option maxRecDepth 20000 in
theorem Si_greatestFitting_ck : Si_greatestFitting_bk.all (fun b => ax_chB 6 2 cX6_greatestFitting Si_greatestFitting_cl b.1 b.2) = true := by decide +kernel
def Si_greatestFitting_cs : Ct := (1, 7, 1, (0, 0), fun as σ => (match as with
    | [.inr (.inr (.inl (k, 0, 6)))] => Si_greatestFitting_pre k σ
    | _ => False), fun as σ r σ' => (match as with
    | [.inr (.inr (.inl (k, 0, 6)))] => Si_greatestFitting_post k σ r σ'
    | _ => False))
theorem Si_greatestFitting_w : ∀ w ∈ ([.instanceMethod yX6_greatestFitting, .selects yX6_greatestFitting.cls yX6_greatestFitting yX6_greatestFitting, .initialized yX6_greatestFitting.cls, .code yX6_greatestFitting cX6_greatestFitting 2 (some .int)] : List Cond), w ∈ ax_tb := ax_w4 (ax_m5 105 (by decide +kernel) rfl) (ax_m5 106 (by decide +kernel) rfl) (ax_m1 7 (by decide +kernel) rfl) (ax_m5 107 (by decide +kernel) rfl)
theorem Si_greatestFitting_ds : yX6_greatestFitting.cls ≠ "java/lang/invoke/MethodHandle" ∧ yX6_greatestFitting.cls ≠ "java/lang/invoke/VarHandle" ∧ (parseMethodDescriptor yX6_greatestFitting.desc).map (fun d => d.parameters.length) = some 0 := by decide +kernel
def Si_greatestFitting_vc : Prop := ∀ (k : Nat) (σ : Hp), ax_H σ → Si_greatestFitting_pre k σ →
  ∃ n' : Nat, k = k ∧ Si_greatestFitting_I3 k σ n' 99 σ
def Si_greatestFitting_vc3 : Prop := ∀ (k : Nat) (σ0 : Hp), Si_greatestFitting_pre k σ0 → ∀ (n : Nat) (v1 : Int) (σ : Hp), ax_H σ → Si_greatestFitting_I3 k σ0 n v1 σ →
  (v1 < 0 →
    Si_greatestFitting_post k σ0 (-1) σ) ∧
  (¬ (v1 < 0) →
    (0 ≤ v1 ∧ v1 < 100) ∧
    (σ (k + 10) v1.toNat = 0 →
      ∃ n' : Nat, n' < n ∧ k = k ∧ Si_greatestFitting_I3 k σ0 n' (wr (v1 + (-1))) σ) ∧
    (¬ (σ (k + 10) v1.toNat = 0) →
      Si_greatestFitting_post k σ0 v1 σ))
theorem Si_greatestFitting_p : Si_greatestFitting_vc := by
  intro k σ hH hp
  exact ⟨100, rfl, 100, rfl, by omega, rfl, rfl, fun j h1 h2 => absurd h2 (by omega)⟩
theorem Si_greatestFitting_p3 : Si_greatestFitting_vc3 := by
  intro k σ0 hp m v1 σ hH hI
  obtain ⟨rfl⟩ := hp
  obtain ⟨c, rfl, hc, rfl, rfl, hr⟩ := hI
  rw [show (19 + 10 : Nat) = 29 from rfl]
  refine ⟨fun h => ⟨rfl, Or.inr ⟨rfl, fun j hj => hr j (by omega) hj⟩⟩, fun h => ?_⟩
  obtain ⟨d, rfl⟩ : ∃ d, m = d + 1 := ⟨m - 1, by omega⟩
  have e : (((d + 1 : Nat) : Int) - 1).toNat = d := by omega
  have e2 : ((d + 1 : Nat) : Int) - 1 = (d : Int) := by omega
  rw [e, e2]
  refine ⟨⟨by omega, by omega⟩, fun h2 => ⟨d, by omega, rfl, d, by rw [wr_id (by omega) (by omega)]; omega, by omega, rfl, rfl, fun j h1 h3 => ?_⟩, fun h2 => ⟨rfl, Or.inl ⟨d, by omega, rfl, h2, fun j h1 h3 => hr j (by omega) h3⟩⟩⟩
  by_cases e : j = d
  · subst e; exact fun z => z h2
  · exact hr j (by omega) h3
def Si_greatestFitting_I : List AV → Hp → Nat → Nat → List AV → List AV → Hp → Prop := fun as σ0 pc n st ls σ => (match as with
    | [.inr (.inr (.inl (k, 0, 6)))] => (bif Nat.beq pc 3 then (match st, ls with
      | [], [.inr (.inr (.inl (k', 0, 6))), .inl v1] => k = k' ∧ Si_greatestFitting_I3 k σ0 n v1 σ
      | _, _ => False) else False)
    | _ => False)
def Si_greatestFitting_ct : Nat → Ct := fun n => match n with
  | _ => Si_greatestFitting_cs
set_option maxRecDepth 20000 in
set_option maxHeartbeats 4000000 in
theorem Si_greatestFitting_met {l : Launch} {D : va_G} {ad : Nat → Nat} {ca : Nat → ClassId} {L : Nat} {fx : Nat → Int} : ax_MC l D ad ca L fx yX6_greatestFitting cX6_greatestFitting 2 (some .int) 1 Si_greatestFitting_cs := by
  refine ax_met (oc := 6) (ct := Si_greatestFitting_ct) (calls := Si_greatestFitting_cl) (bs := Si_greatestFitting_bk) (cut := fun pc => Nat.beq pc 3) (f := 5) (I := Si_greatestFitting_I) (by decide) rfl rfl Si_greatestFitting_ck (fun _ h => absurd h List.not_mem_nil) ?_ ?_
  · intro as σ0 hp hH
    match as, hp with
    | [.inr (.inr (.inl (k, 0, 6)))], hp => exact ⟨rfl, Si_greatestFitting_p k σ0 hH hp⟩
  · intro as σ0 hp n pc st ls σ hH hI
    match as, hp, hI with
    | [.inr (.inr (.inl (k, 0, 6)))], hp, hI =>
      rcases ax_bifE hI with ⟨hpc, hI⟩ | ⟨-, hI⟩
      · have := Nat.eq_of_beq_eq_true hpc
        subst this
        match st, ls, hI with
        | [], [.inr (.inr (.inl (k', 0, 6))), .inl v1], hI =>
          obtain ⟨rfl, hI⟩ := hI
          exact Si_greatestFitting_p3 k σ0 hp n v1 σ hH hI
      exact False.elim hI
/-- how many of the first m fit and had the hair there on that day -/
def lc (f h : Nat → Int) (d : Nat) (v : Int) : Nat → Nat
  | 0 => 0
  | m + 1 => lc f h d v m + (if ¬ f m = 0 ∧ h (m * 10 + d) = v then 1 else 0)
theorem lc_s (f h : Nat → Int) (d : Nat) (v : Int) (m : Nat) : lc f h d v (m + 1) = lc f h d v m + (if ¬ f m = 0 ∧ h (m * 10 + d) = v then 1 else 0) := rfl
theorem lc_le (f h : Nat → Int) (d : Nat) (v : Int) (m : Nat) : lc f h d v m ≤ m := by
  induction m with
  | zero => exact Nat.le_refl 0
  | succ m ih => rw [lc_s]; split <;> omega
def mx (g : Nat → Nat) : Nat → Nat
  | 0 => 0
  | n + 1 => max (mx g n) (g n)
theorem mx_s (g : Nat → Nat) (n : Nat) : mx g (n + 1) = max (mx g n) (g n) := rfl
theorem mx_ext {g h : Nat → Nat} : ∀ n, (∀ i, i < n → g i = h i) → mx g n = mx h n := by
  intro n
  induction n with
  | zero => intro _; rfl
  | succ n ih => intro e; rw [mx_s, mx_s, ih (fun i hi => e i (by omega)), e n (by omega)]
theorem mx_up {g h : Nat → Nat} {a : Nat} (e : ∀ i, ¬ i = a → h i = g i) (hle : g a ≤ h a) : ∀ n, a < n → mx h n = max (mx g n) (h a) := by
  intro n
  induction n with
  | zero => intro z; omega
  | succ n ih =>
    intro han
    rw [mx_s, mx_s]
    by_cases z : a = n
    · subst z
      rw [mx_ext (g := h) (h := g) a (fun i hi => e i (by omega))]
      omega
    · rw [ih (by omega), e n (by omega)]
      omega
def lmx (f h : Nat → Int) (d m : Nat) : Nat := mx (fun n => lc f h d ((n : Int) - 1) m) 7
def Si_mostLeft_pre (k : Nat) (a : Int) (σ : Hp) : Prop := k = 19 ∧ 0 ≤ a ∧ a < 10 ∧ ∀ c, c < 100 → -1 ≤ σ 28 (c * 10 + a.toNat) ∧ σ 28 (c * 10 + a.toNat) < 6
def Si_mostLeft_post (_k : Nat) (a : Int) (σ : Hp) (r : Int) (σ' : Hp) : Prop := Fr [30] σ σ' ∧ r = (lmx (σ 29) (σ 28) a.toNat 100 : Nat)
def Si_mostLeft_I2 (_k : Nat) (_a : Int) (σ0 : Hp) (m : Nat) (v2 : Int) (σ : Hp) : Prop := ∃ i : Nat, v2 = i ∧ i ≤ 7 ∧ m = 200 - i ∧ Fr [30] σ0 σ ∧ ∀ j, j < i → σ 30 j = 0
def Si_mostLeft_I28 (_k : Nat) (a : Int) (σ0 : Hp) (m : Nat) (v2 v3 : Int) (σ : Hp) : Prop := ∃ c : Nat, v3 = c ∧ c ≤ 100 ∧ m = 100 - c ∧ Fr [30] σ0 σ ∧ v2 = (lmx (σ0 29) (σ0 28) a.toNat c : Nat) ∧ ∀ n, n < 7 → σ 30 n = (lc (σ0 29) (σ0 28) a.toNat ((n : Int) - 1) c : Nat)
def Si_mostLeft_bk : List (Nat × List Item) := [(0, [(.iconst 0, 1, [], []), (.istore_n 2, 1, [], [])]),
  (2, [(.iload_n 2, 1, [], []), (.aload_n 0, 1, [], []), (.getfield 42, 3, [6, 8, 4, 11, 1, 7], []), (.arraylength, 1, [], []), (.if_icmp .ge 16, 3, [24], []), (.aload_n 0, 1, [], []), (.getfield 42, 3, [6, 8, 4, 11, 1, 7], []), (.iload_n 2, 1, [], []), (.iconst 0, 1, [], []), (.iastore, 1, [], []), (.iinc 2 1, 3, [], []), (.goto (-19), 3, [2], [])]),
  (24, [(.iconst 0, 1, [], []), (.istore_n 2, 1, [], []), (.iconst 0, 1, [], []), (.istore_n 3, 1, [], [])]),
  (28, [(.iload_n 3, 1, [], []), (.bipush 100, 2, [], []), (.if_icmp .ge 71, 3, [102], []), (.aload_n 0, 1, [], []), (.getfield 35, 3, [6, 6, 4, 9, 2, 1000], []), (.iload_n 3, 1, [], []), (.bipush 10, 2, [], []), (.imul, 1, [], []), (.iload_n 1, 1, [], []), (.iadd, 1, [], []), (.baload, 1, [], []), (.iconst 1, 1, [], []), (.iadd, 1, [], []), (.istore 4, 2, [], []), (.aload_n 0, 1, [], []), (.getfield 39, 3, [6, 7, 4, 10, 3, 100], []), (.iload_n 3, 1, [], []), (.baload, 1, [], []), (.ifCond .eq 41, 3, [96], []), (.iload 4, 2, [], []), (.ifCond .lt 36, 3, [96], []), (.iload 4, 2, [], []), (.aload_n 0, 1, [], []), (.getfield 42, 3, [6, 8, 4, 11, 1, 7], []), (.arraylength, 1, [], []), (.if_icmp .ge 26, 3, [96], []), (.aload_n 0, 1, [], []), (.getfield 42, 3, [6, 8, 4, 11, 1, 7], []), (.iload 4, 2, [], []), (.dup2, 1, [], []), (.iaload, 1, [], []), (.iconst 1, 1, [], []), (.iadd, 1, [], []), (.iastore, 1, [], []), (.iload_n 2, 1, [], []), (.aload_n 0, 1, [], []), (.getfield 42, 3, [6, 8, 4, 11, 1, 7], []), (.iload 4, 2, [], []), (.iaload, 1, [], []), (.invokestatic 83, 3, [0], []), (.istore_n 2, 1, [], [])]),
  (96, [(.iinc 3 1, 3, [], []), (.goto (-71), 3, [28], [])]),
  (102, [(.iload_n 2, 1, [], []), (.ireturn, 1, [], [])])]
def Si_mostLeft_cl : List (Instr × Nat) := [(.invokestatic 83, 0)]
set_option maxRecDepth 20000 in
theorem Si_mostLeft_ck : Si_mostLeft_bk.all (fun b => ax_chB 6 5 cX6_mostLeft Si_mostLeft_cl b.1 b.2) = true := by decide +kernel
def Si_mostLeft_cs : Ct := (2, 7, 1, (0, 0), fun as σ => (match as with
    | [.inr (.inr (.inl (k, 0, 6))), .inl a1] => Si_mostLeft_pre k a1 σ
    | _ => False), fun as σ r σ' => (match as with
    | [.inr (.inr (.inl (k, 0, 6))), .inl a1] => Si_mostLeft_post k a1 σ r σ'
    | _ => False))
theorem Si_mostLeft_w : ∀ w ∈ ([.instanceMethod yX6_mostLeft, .selects yX6_mostLeft.cls yX6_mostLeft yX6_mostLeft, .initialized yX6_mostLeft.cls, .code yX6_mostLeft cX6_mostLeft 5 (some .int)] : List Cond), w ∈ ax_tb := ax_w4 (ax_m5 117 (by decide +kernel) rfl) (ax_m5 118 (by decide +kernel) rfl) (ax_m1 7 (by decide +kernel) rfl) (ax_m5 119 (by decide +kernel) rfl)
theorem Si_mostLeft_ds : yX6_mostLeft.cls ≠ "java/lang/invoke/MethodHandle" ∧ yX6_mostLeft.cls ≠ "java/lang/invoke/VarHandle" ∧ (parseMethodDescriptor yX6_mostLeft.desc).map (fun d => d.parameters.length) = some 1 := by decide +kernel
def Si_mostLeft_vc : Prop := ∀ (k : Nat) (a1 : Int) (σ : Hp), ax_H σ → Si_mostLeft_pre k a1 σ →
  ∃ n' : Nat, k = k ∧ a1 = a1 ∧ Si_mostLeft_I2 k a1 σ n' 0 σ
def Si_mostLeft_vc2 : Prop := ∀ (k : Nat) (a1 : Int) (σ0 : Hp), Si_mostLeft_pre k a1 σ0 → ∀ (n : Nat) (v2 : Int) (σ : Hp), ax_H σ → Si_mostLeft_I2 k a1 σ0 n v2 σ →
  (7 ≤ v2 →
    ∃ n' : Nat, n' < n ∧ k = k ∧ a1 = a1 ∧ Si_mostLeft_I28 k a1 σ0 n' 0 0 σ) ∧
  (¬ (7 ≤ v2) →
    (0 ≤ v2 ∧ v2 < 7) ∧
    ∀ σ1 : Hp, σ1 = hp σ (k + 11) v2.toNat 0 →
    ∃ n' : Nat, n' < n ∧ k = k ∧ a1 = a1 ∧ Si_mostLeft_I2 k a1 σ0 n' (wr (v2 + 1)) σ1)
def Si_mostLeft_vc28 : Prop := ∀ (k : Nat) (a1 : Int) (σ0 : Hp), Si_mostLeft_pre k a1 σ0 → ∀ (n : Nat) (v2 : Int) (v3 : Int) (σ : Hp), ax_H σ → Si_mostLeft_I28 k a1 σ0 n v2 v3 σ →
  (100 ≤ v3 →
    Si_mostLeft_post k a1 σ0 v2 σ) ∧
  (¬ (100 ≤ v3) →
    (0 ≤ wr ((wr (v3 * 10)) + a1) ∧ wr ((wr (v3 * 10)) + a1) < 1000) ∧
    (0 ≤ v3 ∧ v3 < 100) ∧
    (σ (k + 10) v3.toNat = 0 →
      ∃ n' : Nat, n' < n ∧ k = k ∧ a1 = a1 ∧ Si_mostLeft_I28 k a1 σ0 n' v2 (wr (v3 + 1)) σ) ∧
    (¬ (σ (k + 10) v3.toNat = 0) →
      (wr ((σ (k + 9) (wr ((wr (v3 * 10)) + a1)).toNat) + 1) < 0 →
        ∃ n' : Nat, n' < n ∧ k = k ∧ a1 = a1 ∧ Si_mostLeft_I28 k a1 σ0 n' v2 (wr (v3 + 1)) σ) ∧
      (¬ (wr ((σ (k + 9) (wr ((wr (v3 * 10)) + a1)).toNat) + 1) < 0) →
        (7 ≤ wr ((σ (k + 9) (wr ((wr (v3 * 10)) + a1)).toNat) + 1) →
          ∃ n' : Nat, n' < n ∧ k = k ∧ a1 = a1 ∧ Si_mostLeft_I28 k a1 σ0 n' v2 (wr (v3 + 1)) σ) ∧
        (¬ (7 ≤ wr ((σ (k + 9) (wr ((wr (v3 * 10)) + a1)).toNat) + 1)) →
          (0 ≤ wr ((σ (k + 9) (wr ((wr (v3 * 10)) + a1)).toNat) + 1) ∧ wr ((σ (k + 9) (wr ((wr (v3 * 10)) + a1)).toNat) + 1) < 7) ∧
          (0 ≤ wr ((σ (k + 9) (wr ((wr (v3 * 10)) + a1)).toNat) + 1) ∧ wr ((σ (k + 9) (wr ((wr (v3 * 10)) + a1)).toNat) + 1) < 7) ∧
          ∀ σ1 : Hp, σ1 = hp σ (k + 11) (wr ((σ (k + 9) (wr ((wr (v3 * 10)) + a1)).toNat) + 1)).toNat (wr ((σ (k + 11) (wr ((σ (k + 9) (wr ((wr (v3 * 10)) + a1)).toNat) + 1)).toNat) + 1)) →
          (0 ≤ wr ((σ (k + 9) (wr ((wr (v3 * 10)) + a1)).toNat) + 1) ∧ wr ((σ (k + 9) (wr ((wr (v3 * 10)) + a1)).toNat) + 1) < 7) ∧
          Jm_max_pre v2 (σ1 (k + 11) (wr ((σ (k + 9) (wr ((wr (v3 * 10)) + a1)).toNat) + 1)).toNat) σ1 ∧
          ∀ (r3 : Int) (σ2 : Hp), Jm_max_post v2 (σ1 (k + 11) (wr ((σ (k + 9) (wr ((wr (v3 * 10)) + a1)).toNat) + 1)).toNat) σ1 r3 σ2 →
          ∃ n' : Nat, n' < n ∧ k = k ∧ a1 = a1 ∧ Si_mostLeft_I28 k a1 σ0 n' r3 (wr (v3 + 1)) σ2))))
theorem Si_mostLeft_p : Si_mostLeft_vc := by
  intro k a σ hH hp
  exact ⟨200, rfl, rfl, 0, rfl, by omega, rfl, Fr.rf, fun j hj => absurd hj (Nat.not_lt_zero j)⟩
theorem Si_mostLeft_p2 : Si_mostLeft_vc2 := by
  intro k a σ0 hp m v2 σ hH hI
  obtain ⟨rfl, a0, a1, hR⟩ := hp
  obtain ⟨i, rfl, hi, rfl, hf, hr⟩ := hI
  refine ⟨fun h => ⟨100, by omega, rfl, rfl, 0, rfl, by omega, rfl, hf, rfl, fun n hn => ?_⟩, fun h => ⟨⟨by omega, by omega⟩, ?_⟩⟩
  · rw [hr n (by omega)]; rfl
  · rintro σ1 rfl
    rw [Int.toNat_natCast, wr1 (by omega) (by omega)]
    refine ⟨200 - (i + 1), by omega, rfl, rfl, i + 1, by simp, by omega, rfl, Fr.hp hf (by simp), fun j hj => ?_⟩
    rw [hp_rd]
    by_cases e : j = i
    · rw [if_pos ⟨rfl, e⟩]
    · rw [if_neg (fun z => e z.2)]; exact hr j (by omega)
theorem Si_mostLeft_p28 : Si_mostLeft_vc28 := by
  intro k a σ0 hp m v2 v3 σ hH hI
  obtain ⟨rfl, a0, a1, hR⟩ := hp
  obtain ⟨c, rfl, hc, rfl, hf, rfl, hr⟩ := hI
  have e28 : σ (19 + 9) = σ0 28 := hf 28 (by decide)
  have e29 : σ (19 + 10) = σ0 29 := hf 29 (by decide)
  refine ⟨fun h => ⟨hf, by rw [show (100 : Nat) = c by omega]⟩, fun h => ?_⟩
  have ei : wr (wr ((c : Int) * 10) + a) = ((c * 10 + a.toNat : Nat) : Int) := by
    rw [wr_id (x := (c : Int) * 10) (by omega) (by omega), wr_id (by omega) (by omega)]; omega
  have hRc := hR c (by omega)
  rw [ei, Int.toNat_natCast, Int.toNat_natCast, e28, e29, wr1 (by omega) (by omega)]
  have e1 : wr (σ0 28 (c * 10 + a.toNat) + 1) = σ0 28 (c * 10 + a.toNat) + 1 := wr_id (by omega) (by omega)
  rw [e1]
  have skip : σ0 29 c = 0 → ∃ n' : Nat, n' < 100 - c ∧ (19 : Nat) = 19 ∧ a = a ∧ Si_mostLeft_I28 19 a σ0 n' (lmx (σ0 29) (σ0 28) a.toNat c : Nat) ((c : Int) + 1) σ := by
    intro h2
    have el : ∀ v, lc (σ0 29) (σ0 28) a.toNat v (c + 1) = lc (σ0 29) (σ0 28) a.toNat v c := fun v => by rw [lc_s, if_neg (fun z => z.1 h2), Nat.add_zero]
    refine ⟨100 - (c + 1), by omega, rfl, rfl, c + 1, by simp, by omega, rfl, hf, ?_, fun n hn => by rw [el]; exact hr n hn⟩
    unfold lmx
    simp only [el]
  refine ⟨⟨by omega, by omega⟩, ⟨by omega, by omega⟩, skip, fun h2 => ⟨fun h3 => absurd h3 (by omega), fun h3 => ⟨fun h4 => absurd h4 (by omega), fun h4 => ⟨⟨by omega, by omega⟩, ⟨by omega, by omega⟩, ?_⟩⟩⟩⟩
  generalize hnn : (σ0 28 (c * 10 + a.toNat) + 1).toNat = n0
  have hn0 : n0 < 7 := by omega
  have ev : (n0 : Int) - 1 = σ0 28 (c * 10 + a.toNat) := by omega
  have e30 : σ (19 + 11) n0 = (lc (σ0 29) (σ0 28) a.toNat ((n0 : Int) - 1) c : Nat) := hr n0 hn0
  have hle := lc_le (σ0 29) (σ0 28) a.toNat ((n0 : Int) - 1) c
  rw [e30, wr1 (by omega) (by omega)]
  rintro σ1 rfl
  rw [hp_r1]
  refine ⟨⟨by omega, by omega⟩, trivial, ?_⟩
  rintro r3 σ2 ⟨rfl, rfl⟩
  have el : ∀ n : Nat, ¬ n = n0 → lc (σ0 29) (σ0 28) a.toNat ((n : Int) - 1) (c + 1) = lc (σ0 29) (σ0 28) a.toNat ((n : Int) - 1) c := fun n hne => by rw [lc_s, if_neg (fun z => hne (by omega)), Nat.add_zero]
  have el0 : lc (σ0 29) (σ0 28) a.toNat ((n0 : Int) - 1) (c + 1) = lc (σ0 29) (σ0 28) a.toNat ((n0 : Int) - 1) c + 1 := by rw [lc_s, if_pos ⟨h2, ev.symm⟩]
  refine ⟨100 - (c + 1), by omega, rfl, rfl, c + 1, by simp, by omega, rfl, Fr.hp hf (by simp), ?_, fun n hn => ?_⟩
  · have := mx_up (g := fun n => lc (σ0 29) (σ0 28) a.toNat ((n : Int) - 1) c) (h := fun n => lc (σ0 29) (σ0 28) a.toNat ((n : Int) - 1) (c + 1)) (a := n0) (fun i hi => el i hi) (by show _ ≤ lc (σ0 29) (σ0 28) a.toNat ((n0 : Int) - 1) (c + 1); rw [el0]; omega) 7 hn0
    unfold lmx
    rw [this]
    show _ = ((max _ (lc (σ0 29) (σ0 28) a.toNat ((n0 : Int) - 1) (c + 1)) : Nat) : Int)
    rw [el0]
    omega
  · rw [hp_rd]
    by_cases e : n = n0
    · subst e; rw [if_pos ⟨rfl, rfl⟩, el0]; simp
    · rw [if_neg (fun z => e z.2), el n e]; exact hr n hn
def Si_mostLeft_I : List AV → Hp → Nat → Nat → List AV → List AV → Hp → Prop := fun as σ0 pc n st ls σ => (match as with
    | [.inr (.inr (.inl (k, 0, 6))), .inl a1] => (bif Nat.beq pc 2 then (match st, ls with
      | [], [.inr (.inr (.inl (k', 0, 6))), .inl a1', .inl v2, _, _] => k = k' ∧ a1 = a1' ∧ Si_mostLeft_I2 k a1 σ0 n v2 σ
      | _, _ => False) else (bif Nat.beq pc 28 then (match st, ls with
      | [], [.inr (.inr (.inl (k', 0, 6))), .inl a1', .inl v2, .inl v3, _] => k = k' ∧ a1 = a1' ∧ Si_mostLeft_I28 k a1 σ0 n v2 v3 σ
      | _, _ => False) else False))
    | _ => False)
def Si_mostLeft_ct : Nat → Ct := fun n => match n with
  | 0 => Jm_max_cs
  | _ => Si_mostLeft_cs
set_option maxRecDepth 20000 in
set_option maxHeartbeats 4000000 in
theorem Si_mostLeft_met {l : Launch} {D : va_G} {ad : Nat → Nat} {ca : Nat → ClassId} {L : Nat} {fx : Nat → Int} : ax_MC l D ad ca L fx yX6_mostLeft cX6_mostLeft 5 (some .int) 2 Si_mostLeft_cs := by
  refine ax_met (oc := 6) (ct := Si_mostLeft_ct) (calls := Si_mostLeft_cl) (bs := Si_mostLeft_bk) (cut := fun pc => Nat.beq pc 2 || Nat.beq pc 28) (f := 7) (I := Si_mostLeft_I) (by decide) rfl rfl Si_mostLeft_ck (List.forall_mem_cons.mpr ⟨ax_cwMax (by decide) (ax_m5 120 (by decide +kernel) rfl), fun _ h => absurd h List.not_mem_nil⟩) ?_ ?_
  · intro as σ0 hp hH
    match as, hp with
    | [.inr (.inr (.inl (k, 0, 6))), .inl a1], hp => exact ⟨rfl, Si_mostLeft_p k a1 σ0 hH hp⟩
  · intro as σ0 hp n pc st ls σ hH hI
    match as, hp, hI with
    | [.inr (.inr (.inl (k, 0, 6))), .inl a1], hp, hI =>
      rcases ax_bifE hI with ⟨hpc, hI⟩ | ⟨-, hI⟩
      · have := Nat.eq_of_beq_eq_true hpc
        subst this
        match st, ls, hI with
        | [], [.inr (.inr (.inl (k', 0, 6))), .inl a1', .inl v2, _, _], hI =>
          obtain ⟨rfl, rfl, hI⟩ := hI
          exact Si_mostLeft_p2 k a1 σ0 hp n v2 σ hH hI
      rcases ax_bifE hI with ⟨hpc, hI⟩ | ⟨-, hI⟩
      · have := Nat.eq_of_beq_eq_true hpc
        subst this
        match st, ls, hI with
        | [], [.inr (.inr (.inl (k', 0, 6))), .inl a1', .inl v2, .inl v3, _], hI =>
          obtain ⟨rfl, rfl, hI⟩ := hI
          exact Si_mostLeft_p28 k a1 σ0 hp n v2 v3 σ hH hI
      exact False.elim hI
/-- the first of the days 0 to n with the least -/
def bdy (g : Nat → Nat) : Nat → Nat
  | 0 => 0
  | n + 1 => if g (n + 1) < g (bdy g n) then n + 1 else bdy g n
theorem bdy_s (g : Nat → Nat) (n : Nat) : bdy g (n + 1) = if g (n + 1) < g (bdy g n) then n + 1 else bdy g n := rfl
def Si_bestDay_pre (k : Nat) (σ : Hp) : Prop := k = 19 ∧ ∀ c, c < 100 → ∀ d, d < 10 → -1 ≤ σ 28 (c * 10 + d) ∧ σ 28 (c * 10 + d) < 6
def Si_bestDay_post (_k : Nat) (σ : Hp) (r : Int) (σ' : Hp) : Prop := Fr [30] σ σ' ∧ r = (bdy (fun d => lmx (σ 29) (σ 28) d 100) 9 : Nat)
def Si_bestDay_I10 (_k : Nat) (σ0 : Hp) (m : Nat) (v1 v2 v3 : Int) (σ : Hp) : Prop := ∃ d : Nat, v3 = (d + 1 : Nat) ∧ d ≤ 9 ∧ m = 9 - d ∧ Fr [30] σ0 σ ∧ v1 = (bdy (fun d => lmx (σ0 29) (σ0 28) d 100) d : Nat) ∧ v2 = (lmx (σ0 29) (σ0 28) (bdy (fun d => lmx (σ0 29) (σ0 28) d 100) d) 100 : Nat)
def Si_bestDay_bk : List (Nat × List Item) := [(0, [(.iconst 0, 1, [], []), (.istore_n 1, 1, [], []), (.aload_n 0, 1, [], []), (.iconst 0, 1, [], []), (.invokevirtual 79, 3, [0], []), (.istore_n 2, 1, [], []), (.iconst 1, 1, [], []), (.istore_n 3, 1, [], [])]),
  (10, [(.iload_n 3, 1, [], []), (.bipush 10, 2, [], []), (.if_icmp .ge 27, 3, [40], []), (.aload_n 0, 1, [], []), (.iload_n 3, 1, [], []), (.invokevirtual 79, 3, [0], []), (.istore 4, 2, [], []), (.iload 4, 2, [], []), (.iload_n 2, 1, [], []), (.if_icmp .ge 8, 3, [34], []), (.iload 4, 2, [], []), (.istore_n 2, 1, [], []), (.iload_n 3, 1, [], []), (.istore_n 1, 1, [], [])]),
  (34, [(.iinc 3 1, 3, [], []), (.goto (-27), 3, [10], [])]),
  (40, [(.iload_n 1, 1, [], []), (.ireturn, 1, [], [])])]
def Si_bestDay_cl : List (Instr × Nat) := [(.invokevirtual 79, 0)]
set_option maxRecDepth 20000 in
theorem Si_bestDay_ck : Si_bestDay_bk.all (fun b => ax_chB 6 5 cX6_bestDay Si_bestDay_cl b.1 b.2) = true := by decide +kernel
def Si_bestDay_cs : Ct := (1, 7, 1, (0, 0), fun as σ => (match as with
    | [.inr (.inr (.inl (k, 0, 6)))] => Si_bestDay_pre k σ
    | _ => False), fun as σ r σ' => (match as with
    | [.inr (.inr (.inl (k, 0, 6)))] => Si_bestDay_post k σ r σ'
    | _ => False))
theorem Si_bestDay_w : ∀ w ∈ ([.instanceMethod yX6_bestDay, .selects yX6_bestDay.cls yX6_bestDay yX6_bestDay, .initialized yX6_bestDay.cls, .code yX6_bestDay cX6_bestDay 5 (some .int)] : List Cond), w ∈ ax_tb := ax_w4 (ax_m5 113 (by decide +kernel) rfl) (ax_m5 114 (by decide +kernel) rfl) (ax_m1 7 (by decide +kernel) rfl) (ax_m5 115 (by decide +kernel) rfl)
theorem Si_bestDay_ds : yX6_bestDay.cls ≠ "java/lang/invoke/MethodHandle" ∧ yX6_bestDay.cls ≠ "java/lang/invoke/VarHandle" ∧ (parseMethodDescriptor yX6_bestDay.desc).map (fun d => d.parameters.length) = some 0 := by decide +kernel
def Si_bestDay_vc : Prop := ∀ (k : Nat) (σ : Hp), ax_H σ → Si_bestDay_pre k σ →
  Si_mostLeft_pre k 0 σ ∧
  ∀ (r2 : Int) (σ1 : Hp), Si_mostLeft_post k 0 σ r2 σ1 →
  ∃ n' : Nat, k = k ∧ Si_bestDay_I10 k σ n' 0 r2 1 σ1
def Si_bestDay_vc10 : Prop := ∀ (k : Nat) (σ0 : Hp), Si_bestDay_pre k σ0 → ∀ (n : Nat) (v1 : Int) (v2 : Int) (v3 : Int) (σ : Hp), ax_H σ → Si_bestDay_I10 k σ0 n v1 v2 v3 σ →
  (10 ≤ v3 →
    Si_bestDay_post k σ0 v1 σ) ∧
  (¬ (10 ≤ v3) →
    Si_mostLeft_pre k v3 σ ∧
    ∀ (r2 : Int) (σ1 : Hp), Si_mostLeft_post k v3 σ r2 σ1 →
    (v2 ≤ r2 →
      ∃ n' : Nat, n' < n ∧ k = k ∧ Si_bestDay_I10 k σ0 n' v1 v2 (wr (v3 + 1)) σ1) ∧
    (¬ (v2 ≤ r2) →
      ∃ n' : Nat, n' < n ∧ k = k ∧ Si_bestDay_I10 k σ0 n' v3 r2 (wr (v3 + 1)) σ1))
theorem Si_bestDay_p : Si_bestDay_vc := by
  intro k σ hH hp
  obtain ⟨rfl, hR⟩ := hp
  refine ⟨⟨rfl, by decide, by decide, fun c hc => hR c hc 0 (by decide)⟩, ?_⟩
  rintro r2 σ1 ⟨hf, rfl⟩
  exact ⟨9, rfl, 0, rfl, by omega, rfl, hf, rfl, rfl⟩
theorem Si_bestDay_p10 : Si_bestDay_vc10 := by
  intro k σ0 hp m v1 v2 v3 σ hH hI
  obtain ⟨rfl, hR⟩ := hp
  obtain ⟨d, rfl, hd, rfl, hf, rfl, rfl⟩ := hI
  have e28 : σ 28 = σ0 28 := hf 28 (by decide)
  have e29 : σ 29 = σ0 29 := hf 29 (by decide)
  refine ⟨fun h => ⟨hf, by rw [show (9 : Nat) = d by omega]⟩, fun h => ⟨⟨rfl, by omega, by omega, fun c hc => by rw [e28]; exact hR c hc _ (by omega)⟩, ?_⟩⟩
  rintro r2 σ1 ⟨g1, rfl⟩
  rw [e28, e29, Int.toNat_natCast, wr1 (by omega) (by omega)]
  have hs := bdy_s (fun d => lmx (σ0 29) (σ0 28) d 100) d
  refine ⟨fun h2 => ⟨9 - (d + 1), by omega, rfl, d + 1, by simp, by omega, rfl, hf.tr g1, ?_⟩, fun h2 => ⟨9 - (d + 1), by omega, rfl, d + 1, by simp, by omega, rfl, hf.tr g1, ?_⟩⟩
  · rw [if_neg (by omega)] at hs
    rw [hs]; exact ⟨rfl, rfl⟩
  · rw [if_pos (by omega)] at hs
    rw [hs]; exact ⟨rfl, rfl⟩
def Si_bestDay_I : List AV → Hp → Nat → Nat → List AV → List AV → Hp → Prop := fun as σ0 pc n st ls σ => (match as with
    | [.inr (.inr (.inl (k, 0, 6)))] => (bif Nat.beq pc 10 then (match st, ls with
      | [], [.inr (.inr (.inl (k', 0, 6))), .inl v1, .inl v2, .inl v3, _] => k = k' ∧ Si_bestDay_I10 k σ0 n v1 v2 v3 σ
      | _, _ => False) else False)
    | _ => False)
def Si_bestDay_ct : Nat → Ct := fun n => match n with
  | 0 => Si_mostLeft_cs
  | _ => Si_bestDay_cs
set_option maxRecDepth 20000 in
set_option maxHeartbeats 4000000 in
theorem Si_bestDay_met {l : Launch} {D : va_G} {ad : Nat → Nat} {ca : Nat → ClassId} {L : Nat} {fx : Nat → Int} : ax_MC l D ad ca L fx yX6_bestDay cX6_bestDay 5 (some .int) 3 Si_bestDay_cs := by
  refine ax_met (oc := 6) (ct := Si_bestDay_ct) (calls := Si_bestDay_cl) (bs := Si_bestDay_bk) (cut := fun pc => Nat.beq pc 10) (f := 5) (I := Si_bestDay_I) (by decide) rfl rfl Si_bestDay_ck (List.forall_mem_cons.mpr ⟨ax_cwV Si_mostLeft_met (by decide) (by decide) rfl (by decide) rfl (ax_m5 116 (by decide +kernel) rfl) Si_mostLeft_w rfl Si_mostLeft_ds, fun _ h => absurd h List.not_mem_nil⟩) ?_ ?_
  · intro as σ0 hp hH
    match as, hp with
    | [.inr (.inr (.inl (k, 0, 6)))], hp => exact ⟨rfl, Si_bestDay_p k σ0 hH hp⟩
  · intro as σ0 hp n pc st ls σ hH hI
    match as, hp, hI with
    | [.inr (.inr (.inl (k, 0, 6)))], hp, hI =>
      rcases ax_bifE hI with ⟨hpc, hI⟩ | ⟨-, hI⟩
      · have := Nat.eq_of_beq_eq_true hpc
        subst this
        match st, ls, hI with
        | [], [.inr (.inr (.inl (k', 0, 6))), .inl v1, .inl v2, .inl v3, _], hI =>
          obtain ⟨rfl, hI⟩ := hI
          exact Si_bestDay_p10 k σ0 hp n v1 v2 v3 σ hH hI
      exact False.elim hI
