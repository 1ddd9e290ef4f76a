-- THE OUTLOOK: duels
/-- how good it is: to have it is better than not, else less care -/
def gd (h : Prop) [Decidable h] (t : Nat) : Int := (if h then 100 else 0) - (t : Int)
/-- at (x, y) neither would do better by another -/
def Rst (W : Nat → Int) (a b : Int) (x y : Nat) : Prop := (∀ o, o < 10 → gd (W (10 * o + y) = a) o ≤ gd (W (10 * x + y) = a) x) ∧ ∀ o, o < 10 → gd (W (10 * x + o) = b) o ≤ gd (W (10 * x + y) = b) y
/-- the least stake of the first ten that brings it, else 0 -/
def Bsk (V : Nat → Int) (a : Int) (r : Nat) : Prop := (r < 10 ∧ V r = a ∧ ∀ j, j < r → ¬ V j = a) ∨ (r = 0 ∧ ∀ j, j < 10 → ¬ V j = a)
theorem Bsk_gd {V : Nat → Int} {a : Int} {r x : Nat} (h : Bsk V a r) (hx : x < 10) : r = x ↔ ∀ o, o < 10 → gd (V o = a) o ≤ gd (V x = a) x := by
  unfold gd
  constructor
  · rintro rfl
    intro o ho
    rcases h with ⟨h1, h2, h3⟩ | ⟨rfl, h2⟩
    · rw [if_pos h2]
      by_cases hv : V o = a
      · rw [if_pos hv]
        have : ¬ o < r := fun z => h3 o z hv
        omega
      · rw [if_neg hv]; omega
    · rw [if_neg (h2 o ho), if_neg (h2 0 (by omega))]; omega
  · intro hm
    rcases h with ⟨h1, h2, h3⟩ | ⟨rfl, h2⟩
    · have m1 := hm r h1
      rw [if_pos h2] at m1
      by_cases hv : V x = a
      · rw [if_pos hv] at m1
        have : ¬ x < r := fun z => h3 x z hv
        omega
      · rw [if_neg hv] at m1; omega
    · have m1 := hm 0 (by omega)
      rw [if_neg (h2 0 (by omega)), if_neg (h2 x hx)] at m1
      omega
def Ou_bestStake_pre (k : Nat) (a s _p : Int) (_ : Hp) : Prop := k = 3 ∧ ((s = 10 ∧ 0 ≤ a ∧ a < 10) ∨ (s = 1 ∧ 0 ≤ a ∧ a ≤ 90))
def Ou_bestStake_post (_k : Nat) (a s p : Int) (σ : Hp) (r : Int) (σ' : Hp) : Prop := σ' = σ ∧ ∃ x : Nat, r = x ∧ Bsk (fun o => σ 11 (a.toNat + s.toNat * o)) p x
def Ou_bestStake_I3 (_k : Nat) (a s p : Int) (σ0 : Hp) (m : Nat) (v4 : Int) (σ : Hp) : Prop := ∃ i : Nat, v4 = i ∧ i ≤ 10 ∧ m = 10 - i ∧ σ = σ0 ∧ ∀ j, j < i → ¬ σ0 11 (a.toNat + s.toNat * j) = p
def Ou_bestStake_bk : List (Nat × List Item) := [(0, [(.iconst 0, 1, [], []), (.istore 4, 2, [], [])]),
  (3, [(.iload 4, 2, [], []), (.bipush 10, 2, [], []), (.if_icmp .ge 46, 3, [53], []), (.iload_n 1, 1, [], []), (.iload 4, 2, [], []), (.iload_n 2, 1, [], []), (.imul, 1, [], []), (.iadd, 1, [], []), (.istore 5, 2, [], []), (.iload 5, 2, [], []), (.ifCond .lt 27, 3, [47], []), (.iload 5, 2, [], []), (.aload_n 0, 1, [], []), (.getfield 31, 3, [4, 5, 4, 8, 1, 100], []), (.arraylength, 1, [], []), (.if_icmp .ge 17, 3, [47], []), (.aload_n 0, 1, [], []), (.getfield 31, 3, [4, 5, 4, 8, 1, 100], []), (.iload 5, 2, [], []), (.iaload, 1, [], []), (.iload_n 3, 1, [], []), (.if_icmp .ne 6, 3, [47], []), (.iload 4, 2, [], []), (.ireturn, 1, [], [])]),
  (47, [(.iinc 4 1, 3, [], []), (.goto (-47), 3, [3], [])]),
  (53, [(.iconst 0, 1, [], []), (.ireturn, 1, [], [])])]
def Ou_bestStake_cl : List (Instr × Nat) := []
set_option maxRecDepth 20000 in
theorem Ou_bestStake_ck : Ou_bestStake_bk.all (fun b => ax_chB 4 6 cX4_bestStake Ou_bestStake_cl b.1 b.2) = true := by decide +kernel
def Ou_bestStake_cs : Ct := (4, 5, 1, (0, 0), fun as σ => (match as with
    | [.inr (.inr (.inl (k, 0, 4))), .inl a1, .inl a2, .inl a3] => Ou_bestStake_pre k a1 a2 a3 σ
    | _ => False), fun as σ r σ' => (match as with
    | [.inr (.inr (.inl (k, 0, 4))), .inl a1, .inl a2, .inl a3] => Ou_bestStake_post k a1 a2 a3 σ r σ'
    | _ => False))
theorem Ou_bestStake_w : ∀ w ∈ ([.instanceMethod yX4_bestStake, .selects yX4_bestStake.cls yX4_bestStake yX4_bestStake, .initialized yX4_bestStake.cls, .code yX4_bestStake cX4_bestStake 6 (some .int)] : List Cond), w ∈ ax_tb := ax_w4 (ax_m5 21 (by decide +kernel) rfl) (ax_m5 22 (by decide +kernel) rfl) (ax_m1 3 (by decide +kernel) rfl) (ax_m5 23 (by decide +kernel) rfl)
theorem Ou_bestStake_ds : yX4_bestStake.cls ≠ "java/lang/invoke/MethodHandle" ∧ yX4_bestStake.cls ≠ "java/lang/invoke/VarHandle" ∧ (parseMethodDescriptor yX4_bestStake.desc).map (fun d => d.parameters.length) = some 3 := by decide +kernel
def Ou_bestStake_vc : Prop := ∀ (k : Nat) (a1 : Int) (a2 : Int) (a3 : Int) (σ : Hp), ax_H σ → Ou_bestStake_pre k a1 a2 a3 σ →
  ∃ n' : Nat, k = k ∧ a1 = a1 ∧ a2 = a2 ∧ a3 = a3 ∧ Ou_bestStake_I3 k a1 a2 a3 σ n' 0 σ
def Ou_bestStake_vc3 : Prop := ∀ (k : Nat) (a1 : Int) (a2 : Int) (a3 : Int) (σ0 : Hp), Ou_bestStake_pre k a1 a2 a3 σ0 → ∀ (n : Nat) (v4 : Int) (σ : Hp), ax_H σ → Ou_bestStake_I3 k a1 a2 a3 σ0 n v4 σ →
  (10 ≤ v4 →
    Ou_bestStake_post k a1 a2 a3 σ0 0 σ) ∧
  (¬ (10 ≤ v4) →
    (wr (a1 + (wr (v4 * a2))) < 0 →
      ∃ n' : Nat, n' < n ∧ k = k ∧ a1 = a1 ∧ a2 = a2 ∧ a3 = a3 ∧ Ou_bestStake_I3 k a1 a2 a3 σ0 n' (wr (v4 + 1)) σ) ∧
    (¬ (wr (a1 + (wr (v4 * a2))) < 0) →
      (100 ≤ wr (a1 + (wr (v4 * a2))) →
        ∃ n' : Nat, n' < n ∧ k = k ∧ a1 = a1 ∧ a2 = a2 ∧ a3 = a3 ∧ Ou_bestStake_I3 k a1 a2 a3 σ0 n' (wr (v4 + 1)) σ) ∧
      (¬ (100 ≤ wr (a1 + (wr (v4 * a2)))) →
        (0 ≤ wr (a1 + (wr (v4 * a2))) ∧ wr (a1 + (wr (v4 * a2))) < 100) ∧
        (¬ σ (k + 8) (wr (a1 + (wr (v4 * a2)))).toNat = a3 →
          ∃ n' : Nat, n' < n ∧ k = k ∧ a1 = a1 ∧ a2 = a2 ∧ a3 = a3 ∧ Ou_bestStake_I3 k a1 a2 a3 σ0 n' (wr (v4 + 1)) σ) ∧
        (¬ (¬ σ (k + 8) (wr (a1 + (wr (v4 * a2)))).toNat = a3) →
          Ou_bestStake_post k a1 a2 a3 σ0 v4 σ))))
theorem Ou_bestStake_p : Ou_bestStake_vc := by
  intro k a s p σ hH hp
  exact ⟨10, rfl, rfl, rfl, rfl, 0, rfl, by omega, rfl, rfl, fun j hj => absurd hj (Nat.not_lt_zero j)⟩
theorem Ou_bestStake_p3 : Ou_bestStake_vc3 := by
  intro k a s p σ0 hp m v4 σ hH hI
  obtain ⟨rfl, hs⟩ := hp
  obtain ⟨i, rfl, hi, rfl, rfl, hno⟩ := hI
  have e : i < 10 → wr (a + wr ((i : Int) * s)) = ((a.toNat + s.toNat * i : Nat) : Int) ∧ a.toNat + s.toNat * i < 100 := by
    intro h
    rcases hs with ⟨rfl, h1, h2⟩ | ⟨rfl, h1, h2⟩
    · constructor
      · unfold wr; simp; omega
      · simp; omega
    · constructor
      · unfold wr; simp; omega
      · simp; omega
  refine ⟨fun h => ⟨rfl, 0, rfl, Or.inr ⟨rfl, fun j hj => hno j (by omega)⟩⟩, fun h => ?_⟩
  obtain ⟨e1, e2⟩ := e (by omega)
  rw [e1, Int.toNat_natCast, wr1 (by omega) (by omega)]
  refine ⟨fun h2 => absurd h2 (by omega), fun h2 => ⟨fun h3 => absurd h3 (by omega), fun h3 => ⟨⟨by omega, by omega⟩, fun h4 => ⟨10 - (i + 1), by omega, rfl, rfl, rfl, rfl, i + 1, by simp, by omega, rfl, rfl, ?_⟩, fun h4 => ⟨rfl, i, rfl, Or.inl ⟨by omega, Classical.not_not.mp h4, hno⟩⟩⟩⟩⟩
  intro j hj
  by_cases hji : j = i
  · subst hji; exact h4
  · exact hno j (by omega)
def Ou_bestStake_I : List AV → Hp → Nat → Nat → List AV → List AV → Hp → Prop := fun as σ0 pc n st ls σ => (match as with
    | [.inr (.inr (.inl (k, 0, 4))), .inl a1, .inl a2, .inl a3] => (bif Nat.beq pc 3 then (match st, ls with
      | [], [.inr (.inr (.inl (k', 0, 4))), .inl a1', .inl a2', .inl a3', .inl v4, _] => k = k' ∧ a1 = a1' ∧ a2 = a2' ∧ a3 = a3' ∧ Ou_bestStake_I3 k a1 a2 a3 σ0 n v4 σ
      | _, _ => False) else False)
    | _ => False)
def Ou_bestStake_ct : Nat → Ct := fun n => match n with
  | _ => Ou_bestStake_cs
set_option maxRecDepth 20000 in
set_option maxHeartbeats 4000000 in
theorem Ou_bestStake_met {l : Launch} {D : va_G} {ad : Nat → Nat} {ca : Nat → ClassId} {L : Nat} {fx : Nat → Int} : ax_MC l D ad ca L fx yX4_bestStake cX4_bestStake 6 (some .int) 1 Ou_bestStake_cs := by
  refine ax_met (oc := 4) (ct := Ou_bestStake_ct) (calls := Ou_bestStake_cl) (bs := Ou_bestStake_bk) (cut := fun pc => Nat.beq pc 3) (f := 5) (I := Ou_bestStake_I) (by decide) rfl rfl Ou_bestStake_ck (fun _ h => absurd h List.not_mem_nil) ?_ ?_
  · intro as σ0 hp hH
    match as, hp with
    | [.inr (.inr (.inl (k, 0, 4))), .inl a1, .inl a2, .inl a3], hp => exact ⟨rfl, Ou_bestStake_p k a1 a2 a3 σ0 hH hp⟩
  · intro as σ0 hp n pc st ls σ hH hI
    match as, hp, hI with
    | [.inr (.inr (.inl (k, 0, 4))), .inl a1, .inl a2, .inl a3], hp, hI =>
      rcases ax_bifE hI with ⟨hpc, hI⟩ | ⟨-, hI⟩
      · have := Nat.eq_of_beq_eq_true hpc
        subst this
        match st, ls, hI with
        | [], [.inr (.inr (.inl (k', 0, 4))), .inl a1', .inl a2', .inl a3', .inl v4, _], hI =>
          obtain ⟨rfl, rfl, rfl, rfl, hI⟩ := hI
          exact Ou_bestStake_p3 k a1 a2 a3 σ0 hp n v4 σ hH hI
      exact False.elim hI
/-- whom it is on when both take on -/
def dlW (F : Fam) (s : Sta) (a b : Nat) (i : Nat) : Int := (itr F 0 (chg (chg s a ((i / 10 : Nat) : Int)) b ((i % 10 : Nat) : Int)) 1).2.2.1
def rsB (W : Nat → Int) (a b : Int) (x y : Nat) : Bool := (List.range 10).all (fun o => decide (gd (W (10 * o + y) = a) o ≤ gd (W (10 * x + y) = a) x)) && (List.range 10).all (fun o => decide (gd (W (10 * x + o) = b) o ≤ gd (W (10 * x + y) = b) y))
theorem rsB_iff {W : Nat → Int} {a b : Int} {x y : Nat} : rsB W a b x y = true ↔ Rst W a b x y := by
  unfold rsB Rst
  rw [Bool.and_eq_true, List.all_eq_true, List.all_eq_true]
  simp only [List.mem_range, decide_eq_true_eq]
def crs (W : Nat → Int) (a b : Int) : Nat → Nat
  | 0 => 0
  | i + 1 => crs W a b i + (if rsB W a b (i / 10) (i % 10) then 1 else 0)
theorem crs_s (W : Nat → Int) (a b : Int) (i : Nat) : crs W a b (i + 1) = crs W a b i + (if rsB W a b (i / 10) (i % 10) then 1 else 0) := rfl
theorem crs_le (W : Nat → Int) (a b : Int) (i : Nat) : crs W a b i ≤ i := by
  induction i with
  | zero => exact Nat.le_refl 0
  | succ i ih => rw [crs_s]; split <;> omega
/-- the first rest among the first n lies there -/
def DlF (W : Nat → Int) (a b : Int) (n : Nat) (L : Nat → Int) : Prop := crs W a b n = 0 ∨ ∃ i, i < n ∧ rsB W a b (i / 10) (i % 10) = true ∧ crs W a b i = 0 ∧ L 0 = ((i / 10 : Nat) : Int) ∧ L 1 = ((i % 10 : Nat) : Int)
theorem crs_mono (W : Nat → Int) (a b : Int) {i j : Nat} (h : i ≤ j) : crs W a b i ≤ crs W a b j := by
  induction j with
  | zero => have : i = 0 := by omega
            subst this; exact Nat.le_refl _
  | succ j ih =>
    by_cases hij : i = j + 1
    · subst hij; exact Nat.le_refl _
    · rw [crs_s]; have := ih (by omega); omega
def dl2 (F : Fam) (s : Sta) (a b i : Nat) : Sta := chg (chg s a ((i / 10 : Nat) : Int)) b ((i % 10 : Nat) : Int)
def Ou_countRests_pre (k f q : Nat) (a b : Int) (w n : Nat) (σ : Hp) : Prop := k = 3 ∧ q = 31 ∧ OW σ f ∧ 0 ≤ a ∧ a < 6 ∧ 0 ≤ b ∧ b < 6 ∧ w = 34 ∧ n = 6
def Ou_countRests_post (_k f _q : Nat) (a b : Int) (_w _n : Nat) (σ : Hp) (r : Int) (σ' : Hp) : Prop := Fr (34 :: 11 :: sg f 4) σ σ' ∧ r = (crs (dlW (famX σ f) (stX σ 31) a.toNat b.toNat) a b 100 : Nat) ∧ DlF (dlW (famX σ f) (stX σ 31) a.toNat b.toNat) a b 100 (σ' 34)
def Ou_countRests_I3 (_k f _q : Nat) (a b : Int) (_w _n : Nat) (σ0 : Hp) (m : Nat) (v6 : Int) (σ : Hp) : Prop := ∃ i : Nat, v6 = i ∧ i ≤ 100 ∧ m = 300 - i ∧ Fr (34 :: 11 :: sg f 4) σ0 σ ∧ ∀ j, j < i → σ 11 j = dlW (famX σ0 f) (stX σ0 31) a.toNat b.toNat j
def Ou_countRests_I82 (_k f _q : Nat) (a b : Int) (_w _n : Nat) (σ0 : Hp) (m : Nat) (v6 v7 : Int) (σ : Hp) : Prop := ∃ i : Nat, v7 = i ∧ i ≤ 100 ∧ m = 100 - i ∧ Fr (34 :: 11 :: sg f 4) σ0 σ ∧ (∀ j, j < 100 → σ 11 j = dlW (famX σ0 f) (stX σ0 31) a.toNat b.toNat j) ∧ v6 = (crs (dlW (famX σ0 f) (stX σ0 31) a.toNat b.toNat) a b i : Nat) ∧ DlF (dlW (famX σ0 f) (stX σ0 31) a.toNat b.toNat) a b i (σ 34)
def Ou_countRests_bk : List (Nat × List Item) := [(0, [(.iconst 0, 1, [], []), (.istore 6, 2, [], [])]),
  (3, [(.iload 6, 2, [], []), (.bipush 100, 2, [], []), (.if_icmp .ge 69, 3, [76], []), (.aload_n 0, 1, [], []), (.getfield 12, 3, [4, 0, 4, 1, 0, 7], []), (.aload_n 2, 1, [], []), (.invokevirtual 40, 3, [0], []), (.aload_n 0, 1, [], []), (.getfield 12, 3, [4, 0, 4, 1, 0, 7], []), (.iload_n 3, 1, [], []), (.iload 6, 2, [], []), (.bipush 10, 2, [], []), (.idiv, 1, [], []), (.invokevirtual 61, 3, [1], []), (.pop, 1, [], []), (.aload_n 0, 1, [], []), (.getfield 12, 3, [4, 0, 4, 1, 0, 7], []), (.iload 4, 2, [], []), (.iload 6, 2, [], []), (.bipush 10, 2, [], []), (.irem, 1, [], []), (.invokevirtual 61, 3, [1], []), (.pop, 1, [], []), (.aload_n 1, 1, [], []), (.aload_n 0, 1, [], []), (.getfield 12, 3, [4, 0, 4, 1, 0, 7], []), (.iconst 0, 1, [], []), (.invokevirtual 44, 3, [2], []), (.aload_n 0, 1, [], []), (.getfield 31, 3, [4, 5, 4, 8, 1, 100], []), (.iload 6, 2, [], []), (.aload_n 0, 1, [], []), (.getfield 12, 3, [4, 0, 4, 1, 0, 7], []), (.getfield 65, 3, [7, 2, 0, 0, 0, 0], []), (.iastore, 1, [], []), (.iinc 6 1, 3, [], []), (.goto (-70), 3, [3], [])]),
  (76, [(.iconst 0, 1, [], []), (.istore 6, 2, [], []), (.iconst 0, 1, [], []), (.istore 7, 2, [], [])]),
  (82, [(.iload 7, 2, [], []), (.bipush 100, 2, [], []), (.if_icmp .ge 84, 3, [170], []), (.iload 7, 2, [], []), (.bipush 10, 2, [], []), (.idiv, 1, [], []), (.istore 8, 2, [], []), (.iload 7, 2, [], []), (.bipush 10, 2, [], []), (.irem, 1, [], []), (.istore 9, 2, [], []), (.aload_n 0, 1, [], []), (.iload 9, 2, [], []), (.bipush 10, 2, [], []), (.iload_n 3, 1, [], []), (.invokevirtual 158, 3, [3], []), (.iload 8, 2, [], []), (.if_icmp .ne 50, 3, [164], []), (.aload_n 0, 1, [], []), (.iload 8, 2, [], []), (.bipush 10, 2, [], []), (.imul, 1, [], []), (.iconst 1, 1, [], []), (.iload 4, 2, [], []), (.invokevirtual 158, 3, [3], []), (.iload 9, 2, [], []), (.if_icmp .eq 6, 3, [137], []), (.goto 30, 3, [164], [])]),
  (137, [(.iload 6, 2, [], []), (.ifCond .ne 22, 3, [161], []), (.aload 5, 2, [], []), (.arraylength, 1, [], []), (.iconst 1, 1, [], []), (.if_icmp .le 15, 3, [161], []), (.aload 5, 2, [], []), (.iconst 0, 1, [], []), (.iload 8, 2, [], []), (.iastore, 1, [], []), (.aload 5, 2, [], []), (.iconst 1, 1, [], []), (.iload 9, 2, [], []), (.iastore, 1, [], [])]),
  (161, [(.iinc 6 1, 3, [], [])]),
  (164, [(.iinc 7 1, 3, [], []), (.goto (-85), 3, [82], [])]),
  (170, [(.iload 6, 2, [], []), (.ireturn, 1, [], [])])]
def Ou_countRests_cl : List (Instr × Nat) := [(.invokevirtual 40, 0), (.invokevirtual 61, 1), (.invokevirtual 44, 2), (.invokevirtual 158, 3)]
set_option maxRecDepth 20000 in
theorem Ou_countRests_ck : Ou_countRests_bk.all (fun b => ax_chB 4 10 cX4_countRests Ou_countRests_cl b.1 b.2) = true := by decide +kernel
def Ou_countRests_cs : Ct := (6, 5, 1, (0, 0), fun as σ => (match as with
    | [.inr (.inr (.inl (k, 0, 4))), .inr (.inr (.inl (q1, 0, 1))), .inr (.inr (.inl (q2, 0, 7))), .inl a3, .inl a4, .inr (.inr (.inl (q5, 1, n5)))] => Ou_countRests_pre k q1 q2 a3 a4 q5 n5 σ
    | _ => False), fun as σ r σ' => (match as with
    | [.inr (.inr (.inl (k, 0, 4))), .inr (.inr (.inl (q1, 0, 1))), .inr (.inr (.inl (q2, 0, 7))), .inl a3, .inl a4, .inr (.inr (.inl (q5, 1, n5)))] => Ou_countRests_post k q1 q2 a3 a4 q5 n5 σ r σ'
    | _ => False))
theorem Ou_countRests_w : ∀ w ∈ ([.instanceMethod yX4_countRests, .selects yX4_countRests.cls yX4_countRests yX4_countRests, .initialized yX4_countRests.cls, .code yX4_countRests cX4_countRests 10 (some .int)] : List Cond), w ∈ ax_tb := ax_w4 (ax_m5 17 (by decide +kernel) rfl) (ax_m5 18 (by decide +kernel) rfl) (ax_m1 3 (by decide +kernel) rfl) (ax_m5 19 (by decide +kernel) rfl)
theorem Ou_countRests_ds : yX4_countRests.cls ≠ "java/lang/invoke/MethodHandle" ∧ yX4_countRests.cls ≠ "java/lang/invoke/VarHandle" ∧ (parseMethodDescriptor yX4_countRests.desc).map (fun d => d.parameters.length) = some 5 := by decide +kernel
def Ou_countRests_vc : Prop := ∀ (k : Nat) (q1 : Nat) (q2 : Nat) (a3 : Int) (a4 : Int) (q5 : Nat) (n5 : Nat) (σ : Hp), ax_H σ → Ou_countRests_pre k q1 q2 a3 a4 q5 n5 σ →
  ∃ n' : Nat, k = k ∧ q1 = q1 ∧ q2 = q2 ∧ a3 = a3 ∧ a4 = a4 ∧ n5 = n5 ∧ q5 = q5 ∧ Ou_countRests_I3 k q1 q2 a3 a4 q5 n5 σ n' 0 σ
def Ou_countRests_vc3 : Prop := ∀ (k : Nat) (q1 : Nat) (q2 : Nat) (a3 : Int) (a4 : Int) (q5 : Nat) (n5 : Nat) (σ0 : Hp), Ou_countRests_pre k q1 q2 a3 a4 q5 n5 σ0 → ∀ (n : Nat) (v6 : Int) (σ : Hp), ax_H σ → Ou_countRests_I3 k q1 q2 a3 a4 q5 n5 σ0 n v6 σ →
  (100 ≤ v6 →
    ∃ n' : Nat, n' < n ∧ k = k ∧ q1 = q1 ∧ q2 = q2 ∧ a3 = a3 ∧ a4 = a4 ∧ n5 = n5 ∧ q5 = q5 ∧ Ou_countRests_I82 k q1 q2 a3 a4 q5 n5 σ0 n' 0 0 σ) ∧
  (¬ (100 ≤ v6) →
    St_copy_pre (k + 1) q2 σ ∧
    ∀ σ1 : Hp, St_copy_post (k + 1) q2 σ σ1 →
    ¬ (10 : Int) = 0 ∧
    St_change_pre (k + 1) a3 (iDiv v6 10) σ1 ∧
    ∀ (r3 : Int) (σ2 : Hp), St_change_post (k + 1) a3 (iDiv v6 10) σ1 r3 σ2 →
    ¬ (10 : Int) = 0 ∧
    St_change_pre (k + 1) a4 (iRem v6 10) σ2 ∧
    ∀ (r5 : Int) (σ4 : Hp), St_change_post (k + 1) a4 (iRem v6 10) σ2 r5 σ4 →
    Fa_pass_pre q1 (k + 1) 0 σ4 ∧
    ∀ σ6 : Hp, Fa_pass_post q1 (k + 1) 0 σ4 σ6 →
    (0 ≤ v6 ∧ v6 < 100) ∧
    ∀ σ7 : Hp, σ7 = hp σ6 (k + 8) v6.toNat (σ6 (k + 1) 2) →
    ∃ n' : Nat, n' < n ∧ k = k ∧ q1 = q1 ∧ q2 = q2 ∧ a3 = a3 ∧ a4 = a4 ∧ n5 = n5 ∧ q5 = q5 ∧ Ou_countRests_I3 k q1 q2 a3 a4 q5 n5 σ0 n' (wr (v6 + 1)) σ7)
def Ou_countRests_vc82 : Prop := ∀ (k : Nat) (q1 : Nat) (q2 : Nat) (a3 : Int) (a4 : Int) (q5 : Nat) (n5 : Nat) (σ0 : Hp), Ou_countRests_pre k q1 q2 a3 a4 q5 n5 σ0 → ∀ (n : Nat) (v6 : Int) (v7 : Int) (σ : Hp), ax_H σ → Ou_countRests_I82 k q1 q2 a3 a4 q5 n5 σ0 n v6 v7 σ →
  (100 ≤ v7 →
    Ou_countRests_post k q1 q2 a3 a4 q5 n5 σ0 v6 σ) ∧
  (¬ (100 ≤ v7) →
    ¬ (10 : Int) = 0 ∧
    ¬ (10 : Int) = 0 ∧
    Ou_bestStake_pre k (iRem v7 10) 10 a3 σ ∧
    ∀ (r2 : Int) (σ1 : Hp), Ou_bestStake_post k (iRem v7 10) 10 a3 σ r2 σ1 →
    (¬ r2 = iDiv v7 10 →
      ∃ n' : Nat, n' < n ∧ k = k ∧ q1 = q1 ∧ q2 = q2 ∧ a3 = a3 ∧ a4 = a4 ∧ n5 = n5 ∧ q5 = q5 ∧ Ou_countRests_I82 k q1 q2 a3 a4 q5 n5 σ0 n' v6 (wr (v7 + 1)) σ1) ∧
    (¬ (¬ r2 = iDiv v7 10) →
      Ou_bestStake_pre k (wr ((iDiv v7 10) * 10)) 1 a4 σ1 ∧
      ∀ (r4 : Int) (σ3 : Hp), Ou_bestStake_post k (wr ((iDiv v7 10) * 10)) 1 a4 σ1 r4 σ3 →
      (r4 = iRem v7 10 →
        (¬ v6 = 0 →
          ∃ n' : Nat, n' < n ∧ k = k ∧ q1 = q1 ∧ q2 = q2 ∧ a3 = a3 ∧ a4 = a4 ∧ n5 = n5 ∧ q5 = q5 ∧ Ou_countRests_I82 k q1 q2 a3 a4 q5 n5 σ0 n' (wr (v6 + 1)) (wr (v7 + 1)) σ3) ∧
        (¬ (¬ v6 = 0) →
          ((n5 : Int) ≤ 1 →
            ∃ n' : Nat, n' < n ∧ k = k ∧ q1 = q1 ∧ q2 = q2 ∧ a3 = a3 ∧ a4 = a4 ∧ n5 = n5 ∧ q5 = q5 ∧ Ou_countRests_I82 k q1 q2 a3 a4 q5 n5 σ0 n' (wr (v6 + 1)) (wr (v7 + 1)) σ3) ∧
          (¬ ((n5 : Int) ≤ 1) →
            (0 ≤ (0 : Int) ∧ (0 : Int) < (n5 : Int)) ∧
            ∀ σ5 : Hp, σ5 = hp σ3 q5 0 (iDiv v7 10) →
            (0 ≤ (1 : Int) ∧ (1 : Int) < (n5 : Int)) ∧
            ∀ σ6 : Hp, σ6 = hp σ5 q5 1 (iRem v7 10) →
            ∃ n' : Nat, n' < n ∧ k = k ∧ q1 = q1 ∧ q2 = q2 ∧ a3 = a3 ∧ a4 = a4 ∧ n5 = n5 ∧ q5 = q5 ∧ Ou_countRests_I82 k q1 q2 a3 a4 q5 n5 σ0 n' (wr (v6 + 1)) (wr (v7 + 1)) σ6))) ∧
      (¬ (r4 = iRem v7 10) →
        ∃ n' : Nat, n' < n ∧ k = k ∧ q1 = q1 ∧ q2 = q2 ∧ a3 = a3 ∧ a4 = a4 ∧ n5 = n5 ∧ q5 = q5 ∧ Ou_countRests_I82 k q1 q2 a3 a4 q5 n5 σ0 n' v6 (wr (v7 + 1)) σ3)))
theorem Ou_countRests_p : Ou_countRests_vc := by
  intro k f q a b w n σ hH hp
  exact ⟨300, rfl, rfl, rfl, rfl, rfl, rfl, rfl, 0, rfl, by omega, rfl, Fr.rf, fun j hj => absurd hj (Nat.not_lt_zero j)⟩
theorem m31 {f : Nat} : ∀ c ∈ (34 :: 11 :: sg f 4 : List Nat), c ∈ sg f 4 ∨ c = 3 ∨ (7 ≤ c ∧ c ≤ 13) ∨ c = 34 := by
  intro c hc
  rcases List.mem_cons.mp hc with rfl | hc
  · exact Or.inr (Or.inr (Or.inr rfl))
  · rcases List.mem_cons.mp hc with rfl | hc
    · exact Or.inr (Or.inr (Or.inl ⟨by decide, by decide⟩))
    · exact Or.inl hc
theorem fo11 {f : Nat} (hk : FO f) : (11 : Nat) ∉ sg f 4 := by
  rcases hk with rfl | rfl <;> decide
theorem Ou_countRests_p3 : Ou_countRests_vc3 := by
  intro k f q a b w n σ0 hp m v6 σ hH hI
  obtain ⟨rfl, rfl, hW, a0, a6, b0, b6, rfl, rfl⟩ := hp
  obtain ⟨i, rfl, hi, rfl, hf, hr⟩ := hI
  refine ⟨fun h => ⟨100, by omega, rfl, rfl, rfl, rfl, rfl, rfl, rfl, 0, rfl, by omega, rfl, hf, fun j hj => hr j (by omega), rfl, Or.inl rfl⟩, fun h => ⟨⟨Or.inl rfl, Or.inr (Or.inr rfl), by decide⟩, ?_⟩⟩
  obtain ⟨hW1, hfam, hnow⟩ := hW.keep hf m31
  have hst : stX σ 31 = stX σ0 31 := stX_eq hnow
  rintro σ1 ⟨hf1, hs1⟩
  rw [hst] at hs1
  have ed : iDiv (i : Int) 10 = ((i / 10 : Nat) : Int) := iDiv_n (b := 10) (by omega) (by omega) (by omega)
  have er : iRem (i : Int) 10 = ((i % 10 : Nat) : Int) := iRem_n (b := 10) (by omega) (by omega) (by omega)
  rw [ed, er]
  have hok1 : OKs 999 (stX σ1 4) := by rw [hs1]; exact hW.2.2.1
  refine ⟨by decide, ⟨a0, a6, by omega, by omega, hok1.ss⟩, ?_⟩
  rintro r3 σ2 ⟨rfl, rfl⟩
  have e1 : σ1 5 a.toNat = (stX σ0 31).1 a.toNat := by rw [← hs1]; exact (tr_in (by omega)).symm
  have hs2 : stX (hp σ1 5 a.toNat (wth (σ1 5 a.toNat + ((i / 10 : Nat) : Int)) 99)) 4 = chg (stX σ0 31) a.toNat ((i / 10 : Nat) : Int) := by
    rw [stX_care (q := 4) (by omega), hs1, e1]; rfl
  have hf2 : Fr (34 :: 11 :: sg f 4) σ0 (hp σ1 5 a.toNat (wth (σ1 5 a.toNat + ((i / 10 : Nat) : Int)) 99)) := Fr.hp (hf.tr (hf1.mono (by simp [sg]))) (by simp [sg])
  have hr1 : ∀ j, j < i → hp σ1 5 a.toNat (wth (σ1 5 a.toNat + ((i / 10 : Nat) : Int)) 99) 11 j = dlW (famX σ0 f) (stX σ0 31) a.toNat b.toNat j := by
    intro j hj
    rw [hp_ne (by decide), hf1 11 (by decide)]; exact hr j hj
  show ¬ (10 : Int) = 0 ∧ _
  simp only [show (3 + 1 + 1 : Nat) = 5 from rfl, show (3 + 1 : Nat) = 4 from rfl, show (4 + 1 : Nat) = 5 from rfl] at *
  generalize hp σ1 5 a.toNat (wth (σ1 5 a.toNat + ((i / 10 : Nat) : Int)) 99) = τ at *
  have hok2 : OKs 999 (stX τ 4) := by rw [hs2]; exact hW.2.2.1.chg _ _
  refine ⟨by decide, ⟨b0, b6, by omega, by omega, hok2.ss⟩, ?_⟩
  rintro r5 σ4 ⟨rfl, rfl⟩
  have e2 : τ 5 b.toNat = (chg (stX σ0 31) a.toNat ((i / 10 : Nat) : Int)).1 b.toNat := by rw [← hs2]; exact (tr_in (by omega)).symm
  have hs4 : stX (hp τ 5 b.toNat (wth (τ 5 b.toNat + ((i % 10 : Nat) : Int)) 99)) 4 = itr (famX σ0 f) 0 (dl2 (famX σ0 f) (stX σ0 31) a.toNat b.toNat i) 0 := by
    rw [stX_care (q := 4) (by omega), hs2, e2]; rfl
  have hf4 : Fr (34 :: 11 :: sg f 4) σ0 (hp τ 5 b.toNat (wth (τ 5 b.toNat + ((i % 10 : Nat) : Int)) 99)) := Fr.hp hf2 (by simp [sg])
  have hr4 : ∀ j, j < i → hp τ 5 b.toNat (wth (τ 5 b.toNat + ((i % 10 : Nat) : Int)) 99) 11 j = dlW (famX σ0 f) (stX σ0 31) a.toNat b.toNat j := by
    intro j hj
    rw [hp_ne (by decide)]; exact hr1 j hj
  obtain ⟨p1, p2⟩ := hW.day hf4 m31 (by omega) ((hW.2.2.1.chg _ _).chg _ _) hs4
  refine ⟨p1, fun σ6 h6 => ⟨⟨by omega, by omega⟩, ?_⟩⟩
  obtain ⟨g1, g2⟩ := p2 σ6 h6
  rintro σ7 rfl
  have e6 : σ6 4 2 = dlW (famX σ0 f) (stX σ0 31) a.toNat b.toNat i := congrArg (fun x => x.2.2.1) g2
  rw [wr1 (by omega) (by omega), e6]
  refine ⟨300 - (i + 1), by omega, trivial, trivial, trivial, trivial, trivial, trivial, trivial, i + 1, by simp, by omega, rfl, Fr.hp (hf4.tr (g1.mono (fun c hc => List.mem_cons_of_mem _ (List.mem_cons_of_mem _ hc)))) (by simp), ?_⟩
  intro j hj
  show hp σ6 11 (i : Int).toNat _ 11 j = _
  rw [hp_rd, Int.toNat_natCast]
  by_cases hji : j = i
  · rw [if_pos ⟨rfl, hji⟩, hji]
  · rw [if_neg (fun z => hji z.2), g1 11 (fo11 hW.1)]; exact hr4 j (by omega)
theorem Ou_countRests_p82 : Ou_countRests_vc82 := by
  intro k f q a b w n σ0 hp m v6 v7 σ hH hI
  obtain ⟨rfl, rfl, hW, a0, a6, b0, b6, rfl, rfl⟩ := hp
  obtain ⟨i, rfl, hi, rfl, hf, hr, rfl, hD⟩ := hI
  generalize hWd : dlW (famX σ0 f) (stX σ0 31) a.toNat b.toNat = V at *
  have hcl := crs_le V a b i
  refine ⟨fun h => ?_, fun h => ⟨by decide, by decide, ?_⟩⟩
  · have e : i = 100 := by omega
    subst e
    exact ⟨hf, by rw [hWd], by rw [hWd]; exact hD⟩
  have ed : iDiv (i : Int) 10 = ((i / 10 : Nat) : Int) := iDiv_n (b := 10) (by omega) (by omega) (by omega)
  have er : iRem (i : Int) 10 = ((i % 10 : Nat) : Int) := iRem_n (b := 10) (by omega) (by omega) (by omega)
  rw [ed, er]
  have em : wr (((i / 10 : Nat) : Int) * 10) = ((10 * (i / 10) : Nat) : Int) := by unfold wr; omega
  rw [em]
  have skip : ∀ σ2 : Hp, σ2 = σ → ¬ rsB V a b (i / 10) (i % 10) = true → ∃ n' : Nat, n' < 100 - i ∧ (3 : Nat) = 3 ∧ f = f ∧ (31 : Nat) = 31 ∧ a = a ∧ b = b ∧ (6 : Nat) = 6 ∧ (34 : Nat) = 34 ∧ Ou_countRests_I82 3 f 31 a b 34 6 σ0 n' (crs V a b i : Nat) (wr ((i : Int) + 1)) σ2 := by
    rintro σ2 rfl hno
    rw [wr1 (by omega) (by omega)]
    refine ⟨100 - (i + 1), by omega, rfl, rfl, rfl, rfl, rfl, rfl, rfl, i + 1, by simp, by omega, rfl, hf, by rw [hWd]; exact hr, ?_, ?_⟩
    · rw [hWd, crs_s, if_neg hno]; rfl
    · rw [hWd]
      rcases hD with hD | ⟨j, hj, h1, h2, h3⟩
      · left; rw [crs_s, if_neg hno, hD]
      · right; exact ⟨j, by omega, h1, h2, h3⟩
  refine ⟨⟨rfl, Or.inl ⟨rfl, by omega, by omega⟩⟩, ?_⟩
  rintro r2 σ1 ⟨rfl, x, rfl, hx⟩
  have hx' : Bsk (fun o => V (10 * o + i % 10)) a x := by
    have : (fun o => σ1 11 (((i % 10 : Nat) : Int).toNat + (10 : Int).toNat * o)) = fun o => σ1 11 (10 * o + i % 10) := by
      funext o; rw [Int.toNat_natCast]; show σ1 11 (i % 10 + 10 * o) = _; rw [Nat.add_comm]
    rw [this] at hx
    unfold Bsk at hx ⊢
    rcases hx with ⟨h1, h2, h3⟩ | ⟨h1, h2⟩
    · exact Or.inl ⟨h1, by simp only at h2 ⊢; rw [← hr _ (by omega)]; exact h2, fun j hj => by simp only; rw [← hr _ (by omega)]; exact h3 j hj⟩
    · exact Or.inr ⟨h1, fun j hj => by simp only; rw [← hr _ (by omega)]; exact h2 j hj⟩
  have i1 := Bsk_gd hx' (x := i / 10) (by omega)
  refine ⟨fun h2 => skip σ1 rfl (fun z => h2 ?_), fun h2 => ⟨⟨rfl, Or.inr ⟨rfl, by omega, by omega⟩⟩, ?_⟩⟩
  · have := (rsB_iff.mp z).1
    rw [i1.mpr this]
  have hxx : x = i / 10 := by have := Classical.not_not.mp h2; omega
  rintro r4 σ3 ⟨rfl, y, rfl, hy⟩
  have hy' : Bsk (fun o => V (10 * (i / 10) + o)) b y := by
    have : (fun o => σ3 11 (((10 * (i / 10) : Nat) : Int).toNat + (1 : Int).toNat * o)) = fun o => σ3 11 (10 * (i / 10) + o) := by
      funext o; rw [Int.toNat_natCast]; show σ3 11 (10 * (i / 10) + 1 * o) = _; rw [Nat.one_mul]
    rw [this] at hy
    unfold Bsk at hy ⊢
    rcases hy with ⟨h1, h2, h3⟩ | ⟨h1, h2⟩
    · exact Or.inl ⟨h1, by simp only at h2 ⊢; rw [← hr _ (by omega)]; exact h2, fun j hj => by simp only; rw [← hr _ (by omega)]; exact h3 j hj⟩
    · exact Or.inr ⟨h1, fun j hj => by simp only; rw [← hr _ (by omega)]; exact h2 j hj⟩
  have i2 := Bsk_gd hy' (x := i % 10) (by omega)
  refine ⟨fun h4 => ?_, fun h4 => skip σ3 rfl (fun z => h4 ?_)⟩
  · have hyy : y = i % 10 := by omega
    have hres : rsB V a b (i / 10) (i % 10) = true := rsB_iff.mpr ⟨i1.mp hxx, i2.mp hyy⟩
    have e10 : 10 * (i / 10) + i % 10 = i := by omega
    rw [wr1 (by omega) (by omega), wr1 (by omega) (by omega)]
    refine ⟨fun h5 => ?_, fun h5 => ⟨fun h6 => absurd h6 (by decide), fun h6 => ⟨by decide, ?_⟩⟩⟩
    · refine ⟨100 - (i + 1), by omega, rfl, rfl, rfl, rfl, rfl, rfl, rfl, i + 1, by simp, by omega, rfl, hf, by rw [hWd]; exact hr, ?_, ?_⟩
      · rw [hWd, crs_s, if_pos hres]; simp
      · rw [hWd]
        rcases hD with hD | ⟨j, hj, h1, h2, h3⟩
        · omega
        · right; exact ⟨j, by omega, h1, h2, h3⟩
    · rintro σ5 rfl
      refine ⟨by decide, ?_⟩
      rintro σ6 rfl
      have h0 : crs V a b i = 0 := by have := Classical.not_not.mp h5; omega
      refine ⟨100 - (i + 1), by omega, rfl, rfl, rfl, rfl, rfl, rfl, rfl, i + 1, by simp, by omega, rfl, Fr.hp (Fr.hp hf (by simp)) (by simp), ?_, ?_, ?_⟩
      · rw [hWd]
        intro j hj
        rw [hp_ne (by decide), hp_ne (by decide)]; exact hr j hj
      · rw [hWd, crs_s, if_pos hres]; simp
      · rw [hWd]
        right
        refine ⟨i, by omega, hres, h0, ?_, ?_⟩
        · rw [hp_r2 (by omega), hp_r1]
        · rw [hp_r1]
  · have := (rsB_iff.mp z).2
    rw [i2.mpr this]
def Ou_countRests_I : List AV → Hp → Nat → Nat → List AV → List AV → Hp → Prop := fun as σ0 pc n st ls σ => (match as with
    | [.inr (.inr (.inl (k, 0, 4))), .inr (.inr (.inl (q1, 0, 1))), .inr (.inr (.inl (q2, 0, 7))), .inl a3, .inl a4, .inr (.inr (.inl (q5, 1, n5)))] => (bif Nat.beq pc 3 then (match st, ls with
      | [], [.inr (.inr (.inl (k', 0, 4))), .inr (.inr (.inl (q1', 0, 1))), .inr (.inr (.inl (q2', 0, 7))), .inl a3', .inl a4', .inr (.inr (.inl (q5', 1, n5'))), .inl v6, _, _, _] => k = k' ∧ q1 = q1' ∧ q2 = q2' ∧ a3 = a3' ∧ a4 = a4' ∧ n5 = n5' ∧ q5 = q5' ∧ Ou_countRests_I3 k q1 q2 a3 a4 q5 n5 σ0 n v6 σ
      | _, _ => False) else (bif Nat.beq pc 82 then (match st, ls with
      | [], [.inr (.inr (.inl (k', 0, 4))), .inr (.inr (.inl (q1', 0, 1))), .inr (.inr (.inl (q2', 0, 7))), .inl a3', .inl a4', .inr (.inr (.inl (q5', 1, n5'))), .inl v6, .inl v7, _, _] => k = k' ∧ q1 = q1' ∧ q2 = q2' ∧ a3 = a3' ∧ a4 = a4' ∧ n5 = n5' ∧ q5 = q5' ∧ Ou_countRests_I82 k q1 q2 a3 a4 q5 n5 σ0 n v6 v7 σ
      | _, _ => False) else False))
    | _ => False)
def Ou_countRests_ct : Nat → Ct := fun n => match n with
  | 0 => St_copy_cs
  | 1 => St_change_cs
  | 2 => Fa_pass_cs
  | 3 => Ou_bestStake_cs
  | _ => Ou_countRests_cs
set_option maxRecDepth 20000 in
set_option maxHeartbeats 4000000 in
theorem Ou_countRests_met {l : Launch} {D : va_G} {ad : Nat → Nat} {ca : Nat → ClassId} {L : Nat} {fx : Nat → Int} : ax_MC l D ad ca L fx yX4_countRests cX4_countRests 10 (some .int) 6 Ou_countRests_cs := by
  refine ax_met (oc := 4) (ct := Ou_countRests_ct) (calls := Ou_countRests_cl) (bs := Ou_countRests_bk) (cut := fun pc => Nat.beq pc 3 || Nat.beq pc 82) (f := 9) (I := Ou_countRests_I) (by decide) rfl rfl Ou_countRests_ck (List.forall_mem_cons.mpr ⟨ax_cwV St_copy_met (by decide) (by decide) rfl (by decide) rfl (ax_m4 85 (by decide +kernel) rfl) St_copy_w rfl St_copy_ds, List.forall_mem_cons.mpr ⟨ax_cwV St_change_met (by decide) (by decide) rfl (by decide) rfl (ax_m4 113 (by decide +kernel) rfl) St_change_w rfl St_change_ds, List.forall_mem_cons.mpr ⟨ax_cwV Fa_pass_met (by decide) (by decide) rfl (by decide) rfl (ax_m4 89 (by decide +kernel) rfl) Fa_pass_w rfl Fa_pass_ds, List.forall_mem_cons.mpr ⟨ax_cwV Ou_bestStake_met (by decide) (by decide) rfl (by decide) rfl (ax_m5 20 (by decide +kernel) rfl) Ou_bestStake_w rfl Ou_bestStake_ds, fun _ h => absurd h List.not_mem_nil⟩⟩⟩⟩) ?_ ?_
  · intro as σ0 hp hH
    match as, hp with
    | [.inr (.inr (.inl (k, 0, 4))), .inr (.inr (.inl (q1, 0, 1))), .inr (.inr (.inl (q2, 0, 7))), .inl a3, .inl a4, .inr (.inr (.inl (q5, 1, n5)))], hp => exact ⟨rfl, Ou_countRests_p k q1 q2 a3 a4 q5 n5 σ0 hH hp⟩
  · intro as σ0 hp n pc st ls σ hH hI
    match as, hp, hI with
    | [.inr (.inr (.inl (k, 0, 4))), .inr (.inr (.inl (q1, 0, 1))), .inr (.inr (.inl (q2, 0, 7))), .inl a3, .inl a4, .inr (.inr (.inl (q5, 1, n5)))], hp, hI =>
      rcases ax_bifE hI with ⟨hpc, hI⟩ | ⟨-, hI⟩
      · have := Nat.eq_of_beq_eq_true hpc
        subst this
        match st, ls, hI with
        | [], [.inr (.inr (.inl (k', 0, 4))), .inr (.inr (.inl (q1', 0, 1))), .inr (.inr (.inl (q2', 0, 7))), .inl a3', .inl a4', .inr (.inr (.inl (q5', 1, n5'))), .inl v6, _, _, _], hI =>
          obtain ⟨rfl, rfl, rfl, rfl, rfl, rfl, rfl, hI⟩ := hI
          exact Ou_countRests_p3 k q1 q2 a3 a4 q5 n5 σ0 hp n v6 σ hH hI
      rcases ax_bifE hI with ⟨hpc, hI⟩ | ⟨-, hI⟩
      · have := Nat.eq_of_beq_eq_true hpc
        subst this
        match st, ls, hI with
        | [], [.inr (.inr (.inl (k', 0, 4))), .inr (.inr (.inl (q1', 0, 1))), .inr (.inr (.inl (q2', 0, 7))), .inl a3', .inl a4', .inr (.inr (.inl (q5', 1, n5'))), .inl v6, .inl v7, _, _], hI =>
          obtain ⟨rfl, rfl, rfl, rfl, rfl, rfl, rfl, hI⟩ := hI
          exact Ou_countRests_p82 k q1 q2 a3 a4 q5 n5 σ0 hp n v6 v7 σ hH hI
      exact False.elim hI
