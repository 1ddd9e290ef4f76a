-- THE MODEL: duel
def Mo_good_pre (_a b : Int) (_ : Hp) : Prop := 0 ≤ b ∧ b ≤ 9
def Mo_good_post (a b : Int) (σ : Hp) (r : Int) (σ' : Hp) : Prop := σ' = σ ∧ r = (if a = 0 then 0 else 100) - b
def Mo_good_bk : List (Nat × List Item) := [(0, [(.iload_n 0, 1, [], []), (.ifCond .eq 8, 3, [9], []), (.bipush 100, 2, [], []), (.goto 4, 3, [10], [])]),
  (9, [(.iconst 0, 1, [], [])]),
  (10, [(.iload_n 1, 1, [], []), (.isub, 1, [], []), (.ireturn, 1, [], [])])]
def Mo_good_cl : List (Instr × Nat) := []
set_option maxRecDepth 20000 in
theorem Mo_good_ck : Mo_good_bk.all (fun b => ax_chB 9 2 cX9_good Mo_good_cl b.1 b.2) = true := by decide +kernel
def Mo_good_cs : Ct := (2, 0, 1, (0, 0), fun as σ => (match as with
    | [.inl a1, .inl a2] => Mo_good_pre a1 a2 σ
    | _ => False), fun as σ r σ' => (match as with
    | [.inl a1, .inl a2] => Mo_good_post a1 a2 σ r σ'
    | _ => False))
theorem Mo_good_w : ∀ w ∈ ([.static yX9_good, .initialized yX9_good.cls, .code yX9_good cX9_good 2 (some .int)] : List Cond), w ∈ ax_tb := ax_w3 (ax_m8 46 (by decide +kernel) rfl) (ax_m1 10 (by decide +kernel) rfl) (ax_m8 47 (by decide +kernel) rfl)
theorem Mo_good_ds : yX9_good.cls ≠ "java/lang/invoke/MethodHandle" ∧ yX9_good.cls ≠ "java/lang/invoke/VarHandle" ∧ (parseMethodDescriptor yX9_good.desc).map (fun d => d.parameters.length) = some 2 := by decide +kernel
def Mo_good_vc : Prop := ∀ (a1 : Int) (a2 : Int) (σ : Hp), ax_H σ → Mo_good_pre a1 a2 σ →
  (a1 = 0 →
    Mo_good_post a1 a2 σ (wr (0 - a2)) σ) ∧
  (¬ (a1 = 0) →
    Mo_good_post a1 a2 σ (wr (100 - a2)) σ)
theorem Mo_good_p : Mo_good_vc := by
  intro a b σ hH hp
  obtain ⟨b0, b9⟩ := hp
  exact ⟨fun h => ⟨rfl, by rw [if_pos h, wr_id (by omega) (by omega)]⟩, fun h => ⟨rfl, by rw [if_neg h, wr_id (by omega) (by omega)]⟩⟩
def Mo_good_I : List AV → Hp → Nat → Nat → List AV → List AV → Hp → Prop := fun as σ0 pc n st ls σ => (match as with
    | [.inl a1, .inl a2] => False
    | _ => False)
def Mo_good_ct : Nat → Ct := fun n => match n with
  | _ => Mo_good_cs
set_option maxRecDepth 20000 in
set_option maxHeartbeats 4000000 in
theorem Mo_good_met {l : Launch} {D : va_G} {ad : Nat → Nat} {ca : Nat → ClassId} {L : Nat} {fx : Nat → Int} : ax_MC l D ad ca L fx yX9_good cX9_good 2 (some .int) 1 Mo_good_cs := by
  refine ax_met (oc := 9) (ct := Mo_good_ct) (calls := Mo_good_cl) (bs := Mo_good_bk) (cut := fun pc => false) (f := 4) (I := Mo_good_I) (by decide) rfl rfl Mo_good_ck (fun _ h => absurd h List.not_mem_nil) ?_ ?_
  · intro as σ0 hp hH
    match as, hp with
    | [.inl a1, .inl a2], hp => exact ⟨rfl, Mo_good_p a1 a2 σ0 hH hp⟩
  · intro as σ0 hp n pc st ls σ hH hI
    match as, hp, hI with
    | [.inl a1, .inl a2], hp, hI => exact False.elim hI
theorem gd_y {h : Prop} [Decidable h] {t : Nat} (z : h) : gd h t = 100 - (t : Int) := by unfold gd; rw [if_pos z]
theorem gd_n {h : Prop} [Decidable h] {t : Nat} (z : ¬ h) : gd h t = 0 - (t : Int) := by unfold gd; rw [if_neg z]
/-- two goods are weighed -/
theorem rest4 {σ : Hp} {a : Int} {u v t1 t2 : Nat} {U V T1 T2 : Int} {K : Int → Hp → Prop} (hU : U = (u : Int)) (hV : V = (v : Int)) (hu : u < 100) (hv : v < 100) (hT1 : T1 = (t1 : Int)) (hT2 : T2 = (t2 : Int)) (h1 : t1 < 10) (h2 : t2 < 10) (K0 : gd (σ 98 v = a) t2 < gd (σ 98 u = a) t1 → K 0 σ) (K1 : ¬ gd (σ 98 v = a) t2 < gd (σ 98 u = a) t1 → K 1 σ) :
    (0 ≤ U ∧ U < 100) ∧
      (¬ σ (67 + 31) U.toNat = a →
        Mo_good_pre 0 T1 σ ∧
        ∀ (r2 : Int) (σ1 : Hp), Mo_good_post 0 T1 σ r2 σ1 →
        (0 ≤ V ∧ V < 100) ∧
        (¬ σ1 (67 + 31) V.toNat = a →
          Mo_good_pre 0 T2 σ1 ∧
          ∀ (r4 : Int) (σ3 : Hp), Mo_good_post 0 T2 σ1 r4 σ3 →
          (r4 < r2 → K 0 σ3) ∧ (¬ (r4 < r2) → K 1 σ3)) ∧
        (¬ (¬ σ1 (67 + 31) V.toNat = a) →
          Mo_good_pre 1 T2 σ1 ∧
          ∀ (r6 : Int) (σ5 : Hp), Mo_good_post 1 T2 σ1 r6 σ5 →
          (r6 < r2 → K 0 σ5) ∧ (¬ (r6 < r2) → K 1 σ5))) ∧
      (¬ (¬ σ (67 + 31) U.toNat = a) →
        Mo_good_pre 1 T1 σ ∧
        ∀ (r8 : Int) (σ7 : Hp), Mo_good_post 1 T1 σ r8 σ7 →
        (0 ≤ V ∧ V < 100) ∧
        (¬ σ7 (67 + 31) V.toNat = a →
          Mo_good_pre 0 T2 σ7 ∧
          ∀ (r10 : Int) (σ9 : Hp), Mo_good_post 0 T2 σ7 r10 σ9 →
          (r10 < r8 → K 0 σ9) ∧ (¬ (r10 < r8) → K 1 σ9)) ∧
        (¬ (¬ σ7 (67 + 31) V.toNat = a) →
          Mo_good_pre 1 T2 σ7 ∧
          ∀ (r12 : Int) (σ11 : Hp), Mo_good_post 1 T2 σ7 r12 σ11 →
          (r12 < r8 → K 0 σ11) ∧ (¬ (r12 < r8) → K 1 σ11))) := by
  subst hU hV hT1 hT2
  rw [Int.toNat_natCast, Int.toNat_natCast, show (67 + 31 : Nat) = 98 from rfl]
  have e0 : (if (0 : Int) = 0 then (0 : Int) else 100) = 0 := rfl
  have e1 : (if (1 : Int) = 0 then (0 : Int) else 100) = 100 := rfl
  refine ⟨⟨by omega, by omega⟩, fun x1 => ⟨⟨by omega, by omega⟩, ?_⟩, fun x1 => ⟨⟨by omega, by omega⟩, ?_⟩⟩
  · rintro r2 σ1 ⟨rfl, rfl⟩
    rw [gd_n x1] at K0 K1
    refine ⟨⟨by omega, by omega⟩, fun x2 => ⟨⟨by omega, by omega⟩, ?_⟩, fun x2 => ⟨⟨by omega, by omega⟩, ?_⟩⟩
    · rintro r4 σ3 ⟨rfl, rfl⟩
      rw [gd_n x2] at K0 K1
      rw [e0]
      exact ⟨K0, K1⟩
    · rintro r4 σ3 ⟨rfl, rfl⟩
      rw [gd_y (Classical.not_not.mp x2)] at K0 K1
      rw [e0, e1]
      exact ⟨K0, K1⟩
  · rintro r2 σ1 ⟨rfl, rfl⟩
    rw [gd_y (Classical.not_not.mp x1)] at K0 K1
    refine ⟨⟨by omega, by omega⟩, fun x2 => ⟨⟨by omega, by omega⟩, ?_⟩, fun x2 => ⟨⟨by omega, by omega⟩, ?_⟩⟩
    · rintro r4 σ3 ⟨rfl, rfl⟩
      rw [gd_n x2] at K0 K1
      rw [e0, e1]
      exact ⟨K0, K1⟩
    · rintro r4 σ3 ⟨rfl, rfl⟩
      rw [gd_y (Classical.not_not.mp x2)] at K0 K1
      rw [e1]
      exact ⟨K0, K1⟩
def rA (W : Nat → Int) (a : Int) (x y o : Nat) : Prop := gd (W (10 * o + y) = a) o ≤ gd (W (10 * x + y) = a) x
def rB (W : Nat → Int) (b : Int) (x y o : Nat) : Prop := gd (W (10 * x + o) = b) o ≤ gd (W (10 * x + y) = b) y
theorem rAB {W : Nat → Int} {a b : Int} {x y : Nat} : rsB W a b x y = true ↔ ∀ o, o < 10 → rA W a x y o ∧ rB W b x y o := by
  rw [rsB_iff]
  exact ⟨fun h o ho => ⟨h.1 o ho, h.2 o ho⟩, fun h => ⟨fun o ho => (h o ho).1, fun o ho => (h o ho).2⟩⟩
def Mo_isRest_pre (k : Nat) (_a x _b y : Int) (_σ : Hp) : Prop := k = 67 ∧ (0 ≤ x ∧ x < 10) ∧ 0 ≤ y ∧ y < 10
def Mo_isRest_post (_k : Nat) (a x b y : Int) (σ : Hp) (r : Int) (σ' : Hp) : Prop := σ' = σ ∧ ((r = 1 ∧ rsB (σ 98) a b x.toNat y.toNat = true) ∨ (r = 0 ∧ ¬ rsB (σ 98) a b x.toNat y.toNat = true))
def Mo_isRest_I6 (_k : Nat) (a x b y : Int) (σ0 : Hp) (n : Nat) (v5 v6 : Int) (σ : Hp) : Prop := ∃ i : Nat, v6 = i ∧ i ≤ 10 ∧ n = 2 * (11 - i) ∧ σ = σ0 ∧ ((v5 = 1 ∧ ∀ o, o < i → rA (σ0 98) a x.toNat y.toNat o ∧ rB (σ0 98) b x.toNat y.toNat o) ∨ (v5 = 0 ∧ ¬ rsB (σ0 98) a b x.toNat y.toNat = true))
def Mo_isRest_I78 (_k : Nat) (a x b y : Int) (σ0 : Hp) (n : Nat) (s0 _v5 v6 : Int) (σ : Hp) : Prop := ∃ i : Nat, v6 = i ∧ i < 10 ∧ n = 2 * (11 - i) - 1 ∧ σ = σ0 ∧ ((s0 = 1 ∧ (∀ o, o < i → rA (σ0 98) a x.toNat y.toNat o ∧ rB (σ0 98) b x.toNat y.toNat o) ∧ rA (σ0 98) a x.toNat y.toNat i) ∨ (s0 = 0 ∧ ¬ rsB (σ0 98) a b x.toNat y.toNat = true))
def Mo_isRest_bk : List (Nat × List Item) := [(0, [(.iconst 1, 1, [], []), (.istore 5, 2, [], []), (.iconst 0, 1, [], []), (.istore 6, 2, [], [])]),
  (6, [(.iload 6, 2, [], []), (.bipush 9, 2, [], []), (.if_icmp .gt 143, 3, [153], []), (.iload 5, 2, [], []), (.ifCond .eq 62, 3, [77], []), (.aload_n 0, 1, [], []), (.getfield 109, 3, [9, 58, 4, 31, 1, 100], []), (.bipush 10, 2, [], []), (.iload 6, 2, [], []), (.imul, 1, [], []), (.iload 4, 2, [], []), (.iadd, 1, [], []), (.iaload, 1, [], []), (.iload_n 1, 1, [], []), (.if_icmp .ne 7, 3, [39], []), (.iconst 1, 1, [], []), (.goto 4, 3, [40], [])]),
  (39, [(.iconst 0, 1, [], [])]),
  (40, [(.iload 6, 2, [], []), (.invokestatic 466, 3, [0], []), (.aload_n 0, 1, [], []), (.getfield 109, 3, [9, 58, 4, 31, 1, 100], []), (.bipush 10, 2, [], []), (.iload_n 2, 1, [], []), (.imul, 1, [], []), (.iload 4, 2, [], []), (.iadd, 1, [], []), (.iaload, 1, [], []), (.iload_n 1, 1, [], []), (.if_icmp .ne 7, 3, [65], []), (.iconst 1, 1, [], []), (.goto 4, 3, [66], [])]),
  (65, [(.iconst 0, 1, [], [])]),
  (66, [(.iload_n 2, 1, [], []), (.invokestatic 466, 3, [0], []), (.if_icmp .gt 7, 3, [77], []), (.iconst 1, 1, [], []), (.goto 4, 3, [78], [])]),
  (77, [(.iconst 0, 1, [], [])]),
  (78, [(.istore 5, 2, [], []), (.iload 5, 2, [], []), (.ifCond .eq 62, 3, [144], []), (.aload_n 0, 1, [], []), (.getfield 109, 3, [9, 58, 4, 31, 1, 100], []), (.bipush 10, 2, [], []), (.iload_n 2, 1, [], []), (.imul, 1, [], []), (.iload 6, 2, [], []), (.iadd, 1, [], []), (.iaload, 1, [], []), (.iload_n 3, 1, [], []), (.if_icmp .ne 7, 3, [105], []), (.iconst 1, 1, [], []), (.goto 4, 3, [106], [])]),
  (105, [(.iconst 0, 1, [], [])]),
  (106, [(.iload 6, 2, [], []), (.invokestatic 466, 3, [0], []), (.aload_n 0, 1, [], []), (.getfield 109, 3, [9, 58, 4, 31, 1, 100], []), (.bipush 10, 2, [], []), (.iload_n 2, 1, [], []), (.imul, 1, [], []), (.iload 4, 2, [], []), (.iadd, 1, [], []), (.iaload, 1, [], []), (.iload_n 3, 1, [], []), (.if_icmp .ne 7, 3, [131], []), (.iconst 1, 1, [], []), (.goto 4, 3, [132], [])]),
  (131, [(.iconst 0, 1, [], [])]),
  (132, [(.iload 4, 2, [], []), (.invokestatic 466, 3, [0], []), (.if_icmp .gt 7, 3, [144], []), (.iconst 1, 1, [], []), (.goto 4, 3, [145], [])]),
  (144, [(.iconst 0, 1, [], [])]),
  (145, [(.istore 5, 2, [], []), (.iinc 6 1, 3, [], []), (.goto (-144), 3, [6], [])]),
  (153, [(.iload 5, 2, [], []), (.ireturn, 1, [], [])])]
def Mo_isRest_cl : List (Instr × Nat) := [(.invokestatic 466, 0)]
set_option maxRecDepth 20000 in
theorem Mo_isRest_ck : Mo_isRest_bk.all (fun b => ax_chB 9 7 cX9_isRest Mo_isRest_cl b.1 b.2) = true := by decide +kernel
def Mo_isRest_cs : Ct := (5, 10, 2, (0, 0), fun as σ => (match as with
    | [.inr (.inr (.inl (k, 0, 9))), .inl a1, .inl a2, .inl a3, .inl a4] => Mo_isRest_pre k a1 a2 a3 a4 σ
    | _ => False), fun as σ r σ' => (match as with
    | [.inr (.inr (.inl (k, 0, 9))), .inl a1, .inl a2, .inl a3, .inl a4] => Mo_isRest_post k a1 a2 a3 a4 σ r σ'
    | _ => False))
theorem Mo_isRest_w : ∀ w ∈ ([.instanceMethod yX9_isRest, .selects yX9_isRest.cls yX9_isRest yX9_isRest, .initialized yX9_isRest.cls, .code yX9_isRest cX9_isRest 7 (some .boolean)] : List Cond), w ∈ ax_tb := ax_w4 (ax_m8 43 (by decide +kernel) rfl) (ax_m0 59 (by decide +kernel) rfl) (ax_m1 10 (by decide +kernel) rfl) (ax_m8 44 (by decide +kernel) rfl)
theorem Mo_isRest_ds : yX9_isRest.cls ≠ "java/lang/invoke/MethodHandle" ∧ yX9_isRest.cls ≠ "java/lang/invoke/VarHandle" ∧ (parseMethodDescriptor yX9_isRest.desc).map (fun d => d.parameters.length) = some 4 := by decide +kernel
def Mo_isRest_vc : Prop := ∀ (k : Nat) (a1 : Int) (a2 : Int) (a3 : Int) (a4 : Int) (σ : Hp), ax_H σ → Mo_isRest_pre k a1 a2 a3 a4 σ →
  ∃ n' : Nat, k = k ∧ a1 = a1 ∧ a2 = a2 ∧ a3 = a3 ∧ a4 = a4 ∧ Mo_isRest_I6 k a1 a2 a3 a4 σ n' 1 0 σ
def Mo_isRest_vc6 : Prop := ∀ (k : Nat) (a1 : Int) (a2 : Int) (a3 : Int) (a4 : Int) (σ0 : Hp), Mo_isRest_pre k a1 a2 a3 a4 σ0 → ∀ (n : Nat) (v5 : Int) (v6 : Int) (σ : Hp), ax_H σ → Mo_isRest_I6 k a1 a2 a3 a4 σ0 n v5 v6 σ →
  (9 < v6 →
    (v5 = 0 ∨ v5 = 1) ∧ Mo_isRest_post k a1 a2 a3 a4 σ0 v5 σ) ∧
  (¬ (9 < v6) →
    (v5 = 0 →
      ∃ n' : Nat, n' < n ∧ k = k ∧ a1 = a1 ∧ a2 = a2 ∧ a3 = a3 ∧ a4 = a4 ∧ Mo_isRest_I78 k a1 a2 a3 a4 σ0 n' 0 v5 v6 σ) ∧
    (¬ (v5 = 0) →
      (0 ≤ wr ((wr (10 * v6)) + a4) ∧ wr ((wr (10 * v6)) + a4) < 100) ∧
      (¬ σ (k + 31) (wr ((wr (10 * v6)) + a4)).toNat = a1 →
        Mo_good_pre 0 v6 σ ∧
        ∀ (r2 : Int) (σ1 : Hp), Mo_good_post 0 v6 σ r2 σ1 →
        (0 ≤ wr ((wr (10 * a2)) + a4) ∧ wr ((wr (10 * a2)) + a4) < 100) ∧
        (¬ σ1 (k + 31) (wr ((wr (10 * a2)) + a4)).toNat = a1 →
          Mo_good_pre 0 a2 σ1 ∧
          ∀ (r4 : Int) (σ3 : Hp), Mo_good_post 0 a2 σ1 r4 σ3 →
          (r4 < r2 →
            ∃ n' : Nat, n' < n ∧ k = k ∧ a1 = a1 ∧ a2 = a2 ∧ a3 = a3 ∧ a4 = a4 ∧ Mo_isRest_I78 k a1 a2 a3 a4 σ0 n' 0 v5 v6 σ3) ∧
          (¬ (r4 < r2) →
            ∃ n' : Nat, n' < n ∧ k = k ∧ a1 = a1 ∧ a2 = a2 ∧ a3 = a3 ∧ a4 = a4 ∧ Mo_isRest_I78 k a1 a2 a3 a4 σ0 n' 1 v5 v6 σ3)) ∧
        (¬ (¬ σ1 (k + 31) (wr ((wr (10 * a2)) + a4)).toNat = a1) →
          Mo_good_pre 1 a2 σ1 ∧
          ∀ (r6 : Int) (σ5 : Hp), Mo_good_post 1 a2 σ1 r6 σ5 →
          (r6 < r2 →
            ∃ n' : Nat, n' < n ∧ k = k ∧ a1 = a1 ∧ a2 = a2 ∧ a3 = a3 ∧ a4 = a4 ∧ Mo_isRest_I78 k a1 a2 a3 a4 σ0 n' 0 v5 v6 σ5) ∧
          (¬ (r6 < r2) →
            ∃ n' : Nat, n' < n ∧ k = k ∧ a1 = a1 ∧ a2 = a2 ∧ a3 = a3 ∧ a4 = a4 ∧ Mo_isRest_I78 k a1 a2 a3 a4 σ0 n' 1 v5 v6 σ5))) ∧
      (¬ (¬ σ (k + 31) (wr ((wr (10 * v6)) + a4)).toNat = a1) →
        Mo_good_pre 1 v6 σ ∧
        ∀ (r8 : Int) (σ7 : Hp), Mo_good_post 1 v6 σ r8 σ7 →
        (0 ≤ wr ((wr (10 * a2)) + a4) ∧ wr ((wr (10 * a2)) + a4) < 100) ∧
        (¬ σ7 (k + 31) (wr ((wr (10 * a2)) + a4)).toNat = a1 →
          Mo_good_pre 0 a2 σ7 ∧
          ∀ (r10 : Int) (σ9 : Hp), Mo_good_post 0 a2 σ7 r10 σ9 →
          (r10 < r8 →
            ∃ n' : Nat, n' < n ∧ k = k ∧ a1 = a1 ∧ a2 = a2 ∧ a3 = a3 ∧ a4 = a4 ∧ Mo_isRest_I78 k a1 a2 a3 a4 σ0 n' 0 v5 v6 σ9) ∧
          (¬ (r10 < r8) →
            ∃ n' : Nat, n' < n ∧ k = k ∧ a1 = a1 ∧ a2 = a2 ∧ a3 = a3 ∧ a4 = a4 ∧ Mo_isRest_I78 k a1 a2 a3 a4 σ0 n' 1 v5 v6 σ9)) ∧
        (¬ (¬ σ7 (k + 31) (wr ((wr (10 * a2)) + a4)).toNat = a1) →
          Mo_good_pre 1 a2 σ7 ∧
          ∀ (r12 : Int) (σ11 : Hp), Mo_good_post 1 a2 σ7 r12 σ11 →
          (r12 < r8 →
            ∃ n' : Nat, n' < n ∧ k = k ∧ a1 = a1 ∧ a2 = a2 ∧ a3 = a3 ∧ a4 = a4 ∧ Mo_isRest_I78 k a1 a2 a3 a4 σ0 n' 0 v5 v6 σ11) ∧
          (¬ (r12 < r8) →
            ∃ n' : Nat, n' < n ∧ k = k ∧ a1 = a1 ∧ a2 = a2 ∧ a3 = a3 ∧ a4 = a4 ∧ Mo_isRest_I78 k a1 a2 a3 a4 σ0 n' 1 v5 v6 σ11)))))
def Mo_isRest_vc78 : Prop := ∀ (k : Nat) (a1 : Int) (a2 : Int) (a3 : Int) (a4 : Int) (σ0 : Hp), Mo_isRest_pre k a1 a2 a3 a4 σ0 → ∀ (n : Nat) (s0 : Int) (v5 : Int) (v6 : Int) (σ : Hp), ax_H σ → Mo_isRest_I78 k a1 a2 a3 a4 σ0 n s0 v5 v6 σ →
  (s0 = 0 →
    ∃ n' : Nat, n' < n ∧ k = k ∧ a1 = a1 ∧ a2 = a2 ∧ a3 = a3 ∧ a4 = a4 ∧ Mo_isRest_I6 k a1 a2 a3 a4 σ0 n' 0 (wr (v6 + 1)) σ) ∧
  (¬ (s0 = 0) →
    (0 ≤ wr ((wr (10 * a2)) + v6) ∧ wr ((wr (10 * a2)) + v6) < 100) ∧
    (¬ σ (k + 31) (wr ((wr (10 * a2)) + v6)).toNat = a3 →
      Mo_good_pre 0 v6 σ ∧
      ∀ (r2 : Int) (σ1 : Hp), Mo_good_post 0 v6 σ r2 σ1 →
      (0 ≤ wr ((wr (10 * a2)) + a4) ∧ wr ((wr (10 * a2)) + a4) < 100) ∧
      (¬ σ1 (k + 31) (wr ((wr (10 * a2)) + a4)).toNat = a3 →
        Mo_good_pre 0 a4 σ1 ∧
        ∀ (r4 : Int) (σ3 : Hp), Mo_good_post 0 a4 σ1 r4 σ3 →
        (r4 < r2 →
          ∃ n' : Nat, n' < n ∧ k = k ∧ a1 = a1 ∧ a2 = a2 ∧ a3 = a3 ∧ a4 = a4 ∧ Mo_isRest_I6 k a1 a2 a3 a4 σ0 n' 0 (wr (v6 + 1)) σ3) ∧
        (¬ (r4 < r2) →
          ∃ n' : Nat, n' < n ∧ k = k ∧ a1 = a1 ∧ a2 = a2 ∧ a3 = a3 ∧ a4 = a4 ∧ Mo_isRest_I6 k a1 a2 a3 a4 σ0 n' 1 (wr (v6 + 1)) σ3)) ∧
      (¬ (¬ σ1 (k + 31) (wr ((wr (10 * a2)) + a4)).toNat = a3) →
        Mo_good_pre 1 a4 σ1 ∧
        ∀ (r6 : Int) (σ5 : Hp), Mo_good_post 1 a4 σ1 r6 σ5 →
        (r6 < r2 →
          ∃ n' : Nat, n' < n ∧ k = k ∧ a1 = a1 ∧ a2 = a2 ∧ a3 = a3 ∧ a4 = a4 ∧ Mo_isRest_I6 k a1 a2 a3 a4 σ0 n' 0 (wr (v6 + 1)) σ5) ∧
        (¬ (r6 < r2) →
          ∃ n' : Nat, n' < n ∧ k = k ∧ a1 = a1 ∧ a2 = a2 ∧ a3 = a3 ∧ a4 = a4 ∧ Mo_isRest_I6 k a1 a2 a3 a4 σ0 n' 1 (wr (v6 + 1)) σ5))) ∧
    (¬ (¬ σ (k + 31) (wr ((wr (10 * a2)) + v6)).toNat = a3) →
      Mo_good_pre 1 v6 σ ∧
      ∀ (r8 : Int) (σ7 : Hp), Mo_good_post 1 v6 σ r8 σ7 →
      (0 ≤ wr ((wr (10 * a2)) + a4) ∧ wr ((wr (10 * a2)) + a4) < 100) ∧
      (¬ σ7 (k + 31) (wr ((wr (10 * a2)) + a4)).toNat = a3 →
        Mo_good_pre 0 a4 σ7 ∧
        ∀ (r10 : Int) (σ9 : Hp), Mo_good_post 0 a4 σ7 r10 σ9 →
        (r10 < r8 →
          ∃ n' : Nat, n' < n ∧ k = k ∧ a1 = a1 ∧ a2 = a2 ∧ a3 = a3 ∧ a4 = a4 ∧ Mo_isRest_I6 k a1 a2 a3 a4 σ0 n' 0 (wr (v6 + 1)) σ9) ∧
        (¬ (r10 < r8) →
          ∃ n' : Nat, n' < n ∧ k = k ∧ a1 = a1 ∧ a2 = a2 ∧ a3 = a3 ∧ a4 = a4 ∧ Mo_isRest_I6 k a1 a2 a3 a4 σ0 n' 1 (wr (v6 + 1)) σ9)) ∧
      (¬ (¬ σ7 (k + 31) (wr ((wr (10 * a2)) + a4)).toNat = a3) →
        Mo_good_pre 1 a4 σ7 ∧
        ∀ (r12 : Int) (σ11 : Hp), Mo_good_post 1 a4 σ7 r12 σ11 →
        (r12 < r8 →
          ∃ n' : Nat, n' < n ∧ k = k ∧ a1 = a1 ∧ a2 = a2 ∧ a3 = a3 ∧ a4 = a4 ∧ Mo_isRest_I6 k a1 a2 a3 a4 σ0 n' 0 (wr (v6 + 1)) σ11) ∧
        (¬ (r12 < r8) →
          ∃ n' : Nat, n' < n ∧ k = k ∧ a1 = a1 ∧ a2 = a2 ∧ a3 = a3 ∧ a4 = a4 ∧ Mo_isRest_I6 k a1 a2 a3 a4 σ0 n' 1 (wr (v6 + 1)) σ11))))
theorem Mo_isRest_p : Mo_isRest_vc := by
  intro k a x b y σ hH hp
  exact ⟨22, rfl, rfl, rfl, rfl, rfl, 0, rfl, by omega, rfl, rfl, Or.inl ⟨rfl, fun o ho => absurd ho (Nat.not_lt_zero o)⟩⟩
theorem Mo_isRest_p6 : Mo_isRest_vc6 := by
  intro k a x b y σ0 hp n v5 v6 σ hH hI
  obtain ⟨rfl, hx, hy⟩ := hp
  obtain ⟨i, rfl, hi, rfl, rfl, hv⟩ := hI
  refine ⟨fun h => ?_, fun h => ⟨fun h2 => ?_, fun h2 => ?_⟩⟩
  · have ei : i = 10 := by omega
    subst ei
    rcases hv with ⟨z, q⟩ | ⟨z, q⟩
    · exact ⟨Or.inr z, rfl, Or.inl ⟨z, rAB.mpr q⟩⟩
    · exact ⟨Or.inl z, rfl, Or.inr ⟨z, q⟩⟩
  · rcases hv with ⟨z, -⟩ | ⟨-, q⟩
    · omega
    · exact ⟨2 * (11 - i) - 1, by omega, rfl, rfl, rfl, rfl, rfl, i, rfl, by omega, rfl, rfl, Or.inr ⟨rfl, q⟩⟩
  · rcases hv with ⟨-, q⟩ | ⟨z, -⟩
    · refine rest4 (u := 10 * i + y.toNat) (v := 10 * x.toNat + y.toNat) (t1 := i) (t2 := x.toNat) (K := fun s σ' => ∃ n' : Nat, n' < 2 * (11 - i) ∧ (67 : Nat) = 67 ∧ a = a ∧ x = x ∧ b = b ∧ y = y ∧ Mo_isRest_I78 67 a x b y σ n' s v5 i σ') ?_ ?_ (by omega) (by omega) rfl (by omega) (by omega) (by omega) (fun z => ?_) (fun z => ?_)
      · rw [wr_id (x := 10 * (i : Int)) (by omega) (by omega), wr_id (by omega) (by omega)]; omega
      · rw [wr_id (x := 10 * x) (by omega) (by omega), wr_id (by omega) (by omega)]; omega
      · refine ⟨2 * (11 - i) - 1, by omega, rfl, rfl, rfl, rfl, rfl, i, rfl, by omega, rfl, rfl, Or.inr ⟨rfl, fun y' => ?_⟩⟩
        have := (rAB.mp y' i (by omega)).1
        unfold rA at this
        omega
      · refine ⟨2 * (11 - i) - 1, by omega, rfl, rfl, rfl, rfl, rfl, i, rfl, by omega, rfl, rfl, Or.inl ⟨rfl, q, ?_⟩⟩
        unfold rA
        omega
    · exact absurd z h2
theorem Mo_isRest_p78 : Mo_isRest_vc78 := by
  intro k a x b y σ0 hp n s0 v5 v6 σ hH hI
  obtain ⟨rfl, hx, hy⟩ := hp
  obtain ⟨i, rfl, hi, rfl, rfl, hv⟩ := hI
  rw [wr1 (i := (i : Int)) (by omega) (by omega)]
  refine ⟨fun h2 => ?_, fun h2 => ?_⟩
  · rcases hv with ⟨z, -⟩ | ⟨-, q⟩
    · omega
    · exact ⟨2 * (11 - (i + 1)), by omega, rfl, rfl, rfl, rfl, rfl, i + 1, by simp, by omega, rfl, rfl, Or.inr ⟨rfl, q⟩⟩
  · rcases hv with ⟨-, q, qa⟩ | ⟨z, -⟩
    · refine rest4 (u := 10 * x.toNat + i) (v := 10 * x.toNat + y.toNat) (t1 := i) (t2 := y.toNat) (K := fun s σ' => ∃ n' : Nat, n' < 2 * (11 - i) - 1 ∧ (67 : Nat) = 67 ∧ a = a ∧ x = x ∧ b = b ∧ y = y ∧ Mo_isRest_I6 67 a x b y σ n' s ((i : Int) + 1) σ') ?_ ?_ (by omega) (by omega) rfl (by omega) (by omega) (by omega) (fun z => ?_) (fun z => ?_)
      · rw [wr_id (x := 10 * x) (by omega) (by omega), wr_id (by omega) (by omega)]; omega
      · rw [wr_id (x := 10 * x) (by omega) (by omega), wr_id (by omega) (by omega)]; omega
      · refine ⟨2 * (11 - (i + 1)), by omega, rfl, rfl, rfl, rfl, rfl, i + 1, by simp, by omega, rfl, rfl, Or.inr ⟨rfl, fun y' => ?_⟩⟩
        have := (rAB.mp y' i (by omega)).2
        unfold rB at this
        omega
      · refine ⟨2 * (11 - (i + 1)), by omega, rfl, rfl, rfl, rfl, rfl, i + 1, by simp, by omega, rfl, rfl, Or.inl ⟨rfl, fun o ho => ?_⟩⟩
        by_cases e : o = i
        · subst e
          refine ⟨qa, ?_⟩
          unfold rB
          omega
        · exact q o (by omega)
    · exact absurd z h2
def Mo_isRest_I : List AV → Hp → Nat → Nat → List AV → List AV → Hp → Prop := fun as σ0 pc n st ls σ => (match as with
    | [.inr (.inr (.inl (k, 0, 9))), .inl a1, .inl a2, .inl a3, .inl a4] => (bif Nat.beq pc 6 then (match st, ls with
      | [], [.inr (.inr (.inl (k', 0, 9))), .inl a1', .inl a2', .inl a3', .inl a4', .inl v5, .inl v6] => k = k' ∧ a1 = a1' ∧ a2 = a2' ∧ a3 = a3' ∧ a4 = a4' ∧ Mo_isRest_I6 k a1 a2 a3 a4 σ0 n v5 v6 σ
      | _, _ => False) else (bif Nat.beq pc 78 then (match st, ls with
      | [.inl s0], [.inr (.inr (.inl (k', 0, 9))), .inl a1', .inl a2', .inl a3', .inl a4', .inl v5, .inl v6] => k = k' ∧ a1 = a1' ∧ a2 = a2' ∧ a3 = a3' ∧ a4 = a4' ∧ Mo_isRest_I78 k a1 a2 a3 a4 σ0 n s0 v5 v6 σ
      | _, _ => False) else False))
    | _ => False)
def Mo_isRest_ct : Nat → Ct := fun n => match n with
  | 0 => Mo_good_cs
  | _ => Mo_isRest_cs
set_option maxRecDepth 20000 in
set_option maxHeartbeats 4000000 in
theorem Mo_isRest_met {l : Launch} {D : va_G} {ad : Nat → Nat} {ca : Nat → ClassId} {L : Nat} {fx : Nat → Int} : ax_MC l D ad ca L fx yX9_isRest cX9_isRest 7 (some .boolean) 2 Mo_isRest_cs := by
  refine ax_met (oc := 9) (ct := Mo_isRest_ct) (calls := Mo_isRest_cl) (bs := Mo_isRest_bk) (cut := fun pc => Nat.beq pc 6 || Nat.beq pc 78) (f := 16) (I := Mo_isRest_I) (by decide) rfl rfl Mo_isRest_ck (List.forall_mem_cons.mpr ⟨ax_cwS Mo_good_met (by decide) (by decide) (ax_m8 45 (by decide +kernel) rfl) Mo_good_w rfl Mo_good_ds, fun _ h => absurd h List.not_mem_nil⟩) ?_ ?_
  · intro as σ0 hp hH
    match as, hp with
    | [.inr (.inr (.inl (k, 0, 9))), .inl a1, .inl a2, .inl a3, .inl a4], hp => exact ⟨rfl, Mo_isRest_p k a1 a2 a3 a4 σ0 hH hp⟩
  · intro as σ0 hp n pc st ls σ hH hI
    match as, hp, hI with
    | [.inr (.inr (.inl (k, 0, 9))), .inl a1, .inl a2, .inl a3, .inl a4], hp, hI =>
      rcases ax_bifE hI with ⟨hpc, hI⟩ | ⟨-, hI⟩
      · have := Nat.eq_of_beq_eq_true hpc
        subst this
        match st, ls, hI with
        | [], [.inr (.inr (.inl (k', 0, 9))), .inl a1', .inl a2', .inl a3', .inl a4', .inl v5, .inl v6], hI =>
          obtain ⟨rfl, rfl, rfl, rfl, rfl, hI⟩ := hI
          exact Mo_isRest_p6 k a1 a2 a3 a4 σ0 hp n v5 v6 σ hH hI
      rcases ax_bifE hI with ⟨hpc, hI⟩ | ⟨-, hI⟩
      · have := Nat.eq_of_beq_eq_true hpc
        subst this
        match st, ls, hI with
        | [.inl s0], [.inr (.inr (.inl (k', 0, 9))), .inl a1', .inl a2', .inl a3', .inl a4', .inl v5, .inl v6], hI =>
          obtain ⟨rfl, rfl, rfl, rfl, rfl, hI⟩ := hI
          exact Mo_isRest_p78 k a1 a2 a3 a4 σ0 hp n s0 v5 v6 σ hH hI
      exact False.elim hI
theorem NP.any {σ0 σ : Hp} (h : NP σ0) (h23 : σ 67 23 = σ0 67 23) (h42 : σ 67 42 = σ0 67 42) (h43 : σ 67 43 = σ0 67 43) (hc : ∀ c, (73 ≤ c ∧ c ≤ 75) ∨ (85 ≤ c ∧ c ≤ 90) → σ c = σ0 c) : NP σ ∧ (∀ d, famM d σ = famM d σ0) ∧ nowM σ = nowM σ0 := by
  have K := h.1.keep (σ' := σ) h42 h43 h23 (fun c z => hc c (by omega))
  have en := nowM_eq (hc 90 (by omega))
  exact ⟨⟨K.1, by rw [en]; exact h.2.1, by rw [en, h42]; exact h.2.2⟩, K.2, en⟩
def dlf : List Nat := 67 :: 97 :: 98 :: af
def Mo_duel_pre (k : Nat) (_a _b : Int) (σ : Hp) : Prop := k = 67 ∧ MP σ
def Mo_duel_post (_k : Nat) (a b : Int) (σ : Hp) (r : Int) (σ' : Hp) : Prop := MQo σ σ' ∧ ∀ d, s_duel (mA d σ) a b r (mA d σ')
def Mo_duel_I18 (_k : Nat) (a b : Int) (σ0 : Hp) (n : Nat) (v3 : Int) (σ : Hp) : Prop := ∃ i : Nat, v3 = i ∧ i ≤ 100 ∧ n = 400 - i ∧ twoM σ0 a b ∧ (∀ c, ¬ c ∈ dlf → σ c = σ0 c) ∧ (∀ j, ¬ j = 56 → σ 67 j = σ0 67 j) ∧ σ 67 56 = 0 ∧ ∀ d, ∀ j, j < i → σ 98 j = dlW (famM d σ0) (nowM σ0) a.toNat b.toNat j
def Mo_duel_I100 (_k : Nat) (a b : Int) (σ0 : Hp) (n : Nat) (v3 v4 : Int) (σ : Hp) : Prop := ∃ i : Nat, v4 = i ∧ i ≤ 100 ∧ n = 100 - i ∧ twoM σ0 a b ∧ (∀ c, ¬ c ∈ dlf → σ c = σ0 c) ∧ (∀ j, ¬ j = 56 → σ 67 j = σ0 67 j) ∧ (∀ d, ∀ j, j < 100 → σ 98 j = dlW (famM d σ0) (nowM σ0) a.toNat b.toNat j) ∧ σ 67 56 = (if v3 = 0 then 0 else 2) ∧ v3 = (crs (σ 98) a b i : Nat) ∧ DlF (σ 98) a b i (σ 97)
def Mo_duel_bk : List (Nat × List Item) := [(0, [(.aload_n 0, 1, [], []), (.iconst 0, 1, [], []), (.putfield 376, 3, [9, 56, 0, 0, 0, 0], []), (.aload_n 0, 1, [], []), (.iload_n 1, 1, [], []), (.iload_n 2, 1, [], []), (.invokevirtual 419, 3, [0], []), (.ifCond .ne 5, 3, [16], []), (.iconst (-1), 1, [], []), (.ireturn, 1, [], [])]),
  (16, [(.iconst 0, 1, [], []), (.istore_n 3, 1, [], [])]),
  (18, [(.iload_n 3, 1, [], []), (.bipush 100, 2, [], []), (.if_icmp .ge 74, 3, [95], []), (.aload_n 0, 1, [], []), (.invokevirtual 401, 3, [1], []), (.aload_n 0, 1, [], []), (.getfield 88, 3, [9, 47, 4, 24, 1, 16], []), (.iload_n 1, 1, [], []), (.aload_n 0, 1, [], []), (.getfield 88, 3, [9, 47, 4, 24, 1, 16], []), (.iload_n 1, 1, [], []), (.iaload, 1, [], []), (.iload_n 3, 1, [], []), (.bipush 10, 2, [], []), (.idiv, 1, [], []), (.iadd, 1, [], []), (.bipush 99, 2, [], []), (.invokestatic 386, 3, [2], []), (.iastore, 1, [], []), (.aload_n 0, 1, [], []), (.getfield 88, 3, [9, 47, 4, 24, 1, 16], []), (.iload_n 2, 1, [], []), (.aload_n 0, 1, [], []), (.getfield 88, 3, [9, 47, 4, 24, 1, 16], []), (.iload_n 2, 1, [], []), (.iaload, 1, [], []), (.iload_n 3, 1, [], []), (.bipush 10, 2, [], []), (.irem, 1, [], []), (.iadd, 1, [], []), (.bipush 99, 2, [], []), (.invokestatic 386, 3, [2], []), (.iastore, 1, [], []), (.aload_n 0, 1, [], []), (.invokevirtual 435, 3, [3], []), (.aload_n 0, 1, [], []), (.getfield 109, 3, [9, 58, 4, 31, 1, 100], []), (.iload_n 3, 1, [], []), (.aload_n 0, 1, [], []), (.getfield 88, 3, [9, 47, 4, 24, 1, 16], []), (.bipush 12, 2, [], []), (.iaload, 1, [], []), (.iastore, 1, [], []), (.iinc 3 1, 3, [], []), (.goto (-74), 3, [18], [])]),
  (95, [(.iconst 0, 1, [], []), (.istore_n 3, 1, [], []), (.iconst 0, 1, [], []), (.istore 4, 2, [], [])]),
  (100, [(.iload 4, 2, [], []), (.bipush 100, 2, [], []), (.if_icmp .ge 65, 3, [169], []), (.aload_n 0, 1, [], []), (.iload_n 1, 1, [], []), (.iload 4, 2, [], []), (.bipush 10, 2, [], []), (.idiv, 1, [], []), (.iload_n 2, 1, [], []), (.iload 4, 2, [], []), (.bipush 10, 2, [], []), (.irem, 1, [], []), (.invokevirtual 470, 3, [4], []), (.ifCond .ne 6, 3, [129], []), (.goto 37, 3, [163], [])]),
  (129, [(.iload_n 3, 1, [], []), (.ifCond .ne 30, 3, [160], []), (.aload_n 0, 1, [], []), (.getfield 106, 3, [9, 55, 4, 30, 1, 6], []), (.iconst 0, 1, [], []), (.iload 4, 2, [], []), (.bipush 10, 2, [], []), (.idiv, 1, [], []), (.iastore, 1, [], []), (.aload_n 0, 1, [], []), (.getfield 106, 3, [9, 55, 4, 30, 1, 6], []), (.iconst 1, 1, [], []), (.iload 4, 2, [], []), (.bipush 10, 2, [], []), (.irem, 1, [], []), (.iastore, 1, [], []), (.aload_n 0, 1, [], []), (.iconst 2, 1, [], []), (.putfield 376, 3, [9, 56, 0, 0, 0, 0], [])]),
  (160, [(.iinc 3 1, 3, [], [])]),
  (163, [(.iinc 4 1, 3, [], []), (.goto (-66), 3, [100], [])]),
  (169, [(.iload_n 3, 1, [], []), (.ireturn, 1, [], [])])]
def Mo_duel_cl : List (Instr × Nat) := [(.invokevirtual 419, 0), (.invokevirtual 401, 1), (.invokestatic 386, 2), (.invokevirtual 435, 3), (.invokevirtual 470, 4)]
set_option maxRecDepth 20000 in
theorem Mo_duel_ck : Mo_duel_bk.all (fun b => ax_chB 9 5 cX9_duel Mo_duel_cl b.1 b.2) = true := by decide +kernel
def Mo_duel_cs : Ct := (3, 10, 1, (0, 0), fun as σ => (match as with
    | [.inr (.inr (.inl (k, 0, 9))), .inl a1, .inl a2] => Mo_duel_pre k a1 a2 σ
    | _ => False), fun as σ r σ' => (match as with
    | [.inr (.inr (.inl (k, 0, 9))), .inl a1, .inl a2] => Mo_duel_post k a1 a2 σ r σ'
    | _ => False))
theorem Mo_duel_w : ∀ w ∈ ([.instanceMethod yX9_duel, .selects yX9_duel.cls yX9_duel yX9_duel, .initialized yX9_duel.cls, .code yX9_duel cX9_duel 5 (some .int)] : List Cond), w ∈ ax_tb := ax_w4 (ax_m8 38 (by decide +kernel) rfl) (ax_m8 39 (by decide +kernel) rfl) (ax_m1 10 (by decide +kernel) rfl) (ax_m8 40 (by decide +kernel) rfl)
theorem Mo_duel_ds : yX9_duel.cls ≠ "java/lang/invoke/MethodHandle" ∧ yX9_duel.cls ≠ "java/lang/invoke/VarHandle" ∧ (parseMethodDescriptor yX9_duel.desc).map (fun d => d.parameters.length) = some 2 := by decide +kernel
def Mo_duel_vc : Prop := ∀ (k : Nat) (a1 : Int) (a2 : Int) (σ : Hp), ax_H σ → Mo_duel_pre k a1 a2 σ →
  ∀ σ1 : Hp, σ1 = hp σ k 56 0 →
  Mo_areTwo_pre k a1 a2 σ1 ∧
  ∀ (r3 : Int) (σ2 : Hp), Mo_areTwo_post k a1 a2 σ1 r3 σ2 →
  (¬ r3 = 0 →
    ∃ n' : Nat, k = k ∧ a1 = a1 ∧ a2 = a2 ∧ Mo_duel_I18 k a1 a2 σ n' 0 σ2) ∧
  (¬ (¬ r3 = 0) →
    Mo_duel_post k a1 a2 σ (-1) σ2)
def Mo_duel_vc18 : Prop := ∀ (k : Nat) (a1 : Int) (a2 : Int) (σ0 : Hp), Mo_duel_pre k a1 a2 σ0 → ∀ (n : Nat) (v3 : Int) (σ : Hp), ax_H σ → Mo_duel_I18 k a1 a2 σ0 n v3 σ →
  (100 ≤ v3 →
    ∃ n' : Nat, n' < n ∧ k = k ∧ a1 = a1 ∧ a2 = a2 ∧ Mo_duel_I100 k a1 a2 σ0 n' 0 0 σ) ∧
  (¬ (100 ≤ v3) →
    Mo_load_pre k σ ∧
    ∀ σ1 : Hp, Mo_load_post k σ σ1 →
    (0 ≤ a1 ∧ a1 < 16) ∧
    ¬ (10 : Int) = 0 ∧
    Mo_within_pre (wr ((σ1 (k + 24) a1.toNat) + (iDiv v3 10))) 99 σ1 ∧
    ∀ (r3 : Int) (σ2 : Hp), Mo_within_post (wr ((σ1 (k + 24) a1.toNat) + (iDiv v3 10))) 99 σ1 r3 σ2 →
    (0 ≤ a1 ∧ a1 < 16) ∧
    ∀ σ4 : Hp, σ4 = hp σ2 (k + 24) a1.toNat r3 →
    (0 ≤ a2 ∧ a2 < 16) ∧
    ¬ (10 : Int) = 0 ∧
    Mo_within_pre (wr ((σ4 (k + 24) a2.toNat) + (iRem v3 10))) 99 σ4 ∧
    ∀ (r6 : Int) (σ5 : Hp), Mo_within_post (wr ((σ4 (k + 24) a2.toNat) + (iRem v3 10))) 99 σ4 r6 σ5 →
    (0 ≤ a2 ∧ a2 < 16) ∧
    ∀ σ7 : Hp, σ7 = hp σ5 (k + 24) a2.toNat r6 →
    Mo_goDay_pre k σ7 ∧
    ∀ σ8 : Hp, Mo_goDay_post k σ7 σ8 →
    (0 ≤ (12 : Int) ∧ (12 : Int) < 16) ∧
    (0 ≤ v3 ∧ v3 < 100) ∧
    ∀ σ9 : Hp, σ9 = hp σ8 (k + 31) v3.toNat (σ8 (k + 24) 12) →
    ∃ n' : Nat, n' < n ∧ k = k ∧ a1 = a1 ∧ a2 = a2 ∧ Mo_duel_I18 k a1 a2 σ0 n' (wr (v3 + 1)) σ9)
def Mo_duel_vc100 : Prop := ∀ (k : Nat) (a1 : Int) (a2 : Int) (σ0 : Hp), Mo_duel_pre k a1 a2 σ0 → ∀ (n : Nat) (v3 : Int) (v4 : Int) (σ : Hp), ax_H σ → Mo_duel_I100 k a1 a2 σ0 n v3 v4 σ →
  (100 ≤ v4 →
    Mo_duel_post k a1 a2 σ0 v3 σ) ∧
  (¬ (100 ≤ v4) →
    ¬ (10 : Int) = 0 ∧
    ¬ (10 : Int) = 0 ∧
    Mo_isRest_pre k a1 (iDiv v4 10) a2 (iRem v4 10) σ ∧
    ∀ (r2 : Int) (σ1 : Hp), Mo_isRest_post k a1 (iDiv v4 10) a2 (iRem v4 10) σ r2 σ1 →
    (¬ r2 = 0 →
      (¬ v3 = 0 →
        ∃ n' : Nat, n' < n ∧ k = k ∧ a1 = a1 ∧ a2 = a2 ∧ Mo_duel_I100 k a1 a2 σ0 n' (wr (v3 + 1)) (wr (v4 + 1)) σ1) ∧
      (¬ (¬ v3 = 0) →
        ¬ (10 : Int) = 0 ∧
        (0 ≤ (0 : Int) ∧ (0 : Int) < 6) ∧
        ∀ σ3 : Hp, σ3 = hp σ1 (k + 30) 0 (iDiv v4 10) →
        ¬ (10 : Int) = 0 ∧
        (0 ≤ (1 : Int) ∧ (1 : Int) < 6) ∧
        ∀ σ4 : Hp, σ4 = hp σ3 (k + 30) 1 (iRem v4 10) →
        ∀ σ5 : Hp, σ5 = hp σ4 k 56 2 →
        ∃ n' : Nat, n' < n ∧ k = k ∧ a1 = a1 ∧ a2 = a2 ∧ Mo_duel_I100 k a1 a2 σ0 n' (wr (v3 + 1)) (wr (v4 + 1)) σ5)) ∧
    (¬ (¬ r2 = 0) →
      ∃ n' : Nat, n' < n ∧ k = k ∧ a1 = a1 ∧ a2 = a2 ∧ Mo_duel_I100 k a1 a2 σ0 n' v3 (wr (v4 + 1)) σ1))
theorem Mo_duel_p : Mo_duel_vc := by
  intro k a b σ hH hp0
  obtain ⟨rfl, hP⟩ := hp0
  intro σ1 h1
  have q67 : ∀ j, ¬ j = 56 → σ1 67 j = σ 67 j := fun j hj => by rw [h1, hp_r2 (fun z => hj z.2)]
  have qc : ∀ c, ¬ c = 67 → σ1 c = σ c := fun c hc => by rw [h1, hp_ne hc]
  have z56 : σ1 67 56 = 0 := by rw [h1, hp_r1]
  have tw : twoM σ1 a b ↔ twoM σ a b := by unfold twoM; rw [q67 42 (by decide)]
  refine ⟨⟨rfl, by rw [q67 42 (by decide)]; exact hP.n6⟩, ?_⟩
  rintro r3 σ2 ⟨rfl, hr⟩
  refine ⟨fun h => ?_, fun h => ?_⟩
  · have h2 : twoM σ a b := by
      rcases hr with ⟨-, y⟩ | ⟨y, -⟩
      · exact tw.mp y
      · exact absurd y h
    exact ⟨400, rfl, rfl, rfl, 0, rfl, by omega, rfl, h2, fun c hc => qc c (fun z => hc (by rw [z]; simp [dlf])), q67, z56, fun d j hj => absurd hj (Nat.not_lt_zero j)⟩
  · have h2 : ¬ twoM σ a b := by
      rcases hr with ⟨y, -⟩ | ⟨-, y⟩
      · omega
      · exact fun z => y (tw.mpr z)
    have M := mA_L hP.1 (σ' := σ2) (fun j _ hj => q67 j hj) (fun c hc _ => qc c (fun z => by rw [z] at hc; unfold shC at hc; omega)) (by rw [z56]; exact ⟨by decide, by decide⟩)
    refine ⟨M.1, fun d => ?_⟩
    unfold s_duel
    rw [if_neg (show ¬ two (mA d σ) a b from h2), M.2 d, z56]
    exact ⟨rfl, by rw [show (0 : Int).toNat = 0 from rfl, tr_0]⟩
theorem nd {c : Nat} (h : (73 ≤ c ∧ c ≤ 75) ∨ (85 ≤ c ∧ c ≤ 90)) : ¬ c ∈ dlf := by simp [dlf, af]; omega
theorem Mo_duel_p18 : Mo_duel_vc18 := by
  intro k a b σ0 hp0 n v3 σ hH hI
  obtain ⟨rfl, hP⟩ := hp0
  obtain ⟨i, rfl, hi, rfl, hab, hc, h67, h56, hw⟩ := hI
  have hn := hP.n6
  have hN := hP.np
  have NA := hN.any (h67 23 (by decide)) (h67 42 (by decide)) (h67 43 (by decide)) (fun c h => hc c (nd h))
  have hab2 := hab
  obtain ⟨⟨ha, hb⟩, hne⟩ := hab2
  refine ⟨fun h => ?_, fun h => ⟨rfl, fun σ1 g => ?_⟩⟩
  · have ei : i = 100 := by omega
    subst ei
    exact ⟨100, by omega, rfl, rfl, rfl, 0, rfl, by omega, rfl, hab, hc, h67, hw, h56, rfl, Or.inl rfl⟩
  · have L := NA.1.load g
    have La : airM σ1 = nowM σ0 := by rw [L.2.2, NA.2.2]
    have Lf : ∀ d, famM d σ1 = famM d σ0 := fun d => (L.2.1 d).trans (NA.2.1 d)
    have e42 : σ1 67 42 = σ0 67 42 := by rw [g.1 67 (by decide)]; exact h67 42 (by decide)
    have ea0 : σ1 (67 + 24) a.toNat = (nowM σ0).1 a.toNat := by rw [← La]; exact (air_c (by omega)).symm
    have hcA := hN.2.1.1 a.toNat
    have d10 : iDiv (i : Int) 10 = ((i / 10 : Nat) : Int) := iDiv_n (b := 10) (by omega) (by decide) (by decide)
    have r10 : iRem (i : Int) 10 = ((i % 10 : Nat) : Int) := iRem_n (b := 10) (by omega) (by decide) (by decide)
    rw [ea0, d10, r10, wr_id (x := (nowM σ0).1 a.toNat + _) (by omega) (by omega), wr1 (i := (i : Int)) (by omega) (by omega), Int.toNat_natCast]
    refine ⟨⟨ha.1, by omega⟩, by decide, by show (0 : Int) ≤ 99; decide, ?_⟩
    rintro r3 σ2 ⟨rfl, rfl⟩
    refine ⟨⟨ha.1, by omega⟩, ?_⟩
    intro σ4 hs4
    have U := L.1.up (b := a.toNat) (v := wth ((nowM σ0).1 a.toNat + ((i / 10 : Nat) : Int)) 99) (by rw [e42]; omega) (wth_R _ 99 (by decide))
    rw [show hp σ2 91 a.toNat (wth ((nowM σ0).1 a.toNat + ((i / 10 : Nat) : Int)) 99) = σ4 from hs4.symm] at U
    have a4 : airM σ4 = chg (nowM σ0) a.toNat ((i / 10 : Nat) : Int) := by
      rw [hs4]; exact (air_up (by omega)).trans (by rw [La]; rfl)
    have eb0 : σ4 (67 + 24) b.toNat = (chg (nowM σ0) a.toNat ((i / 10 : Nat) : Int)).1 b.toNat := by rw [← a4]; exact (air_c (by omega)).symm
    have hcB := (hN.2.1.chg a.toNat ((i / 10 : Nat) : Int)).1 b.toNat
    rw [eb0, wr_id (by omega) (by omega)]
    refine ⟨⟨hb.1, by omega⟩, by decide, by show (0 : Int) ≤ 99; decide, ?_⟩
    rintro r6 σ5 ⟨rfl, rfl⟩
    refine ⟨⟨hb.1, by omega⟩, ?_⟩
    intro σ7 hs7
    have e42' : σ5 67 42 = σ0 67 42 := by rw [hs4]; exact (congrFun (hp_ne (by decide)) 42).trans e42
    have U2 := U.1.up (b := b.toNat) (v := wth ((chg (nowM σ0) a.toNat ((i / 10 : Nat) : Int)).1 b.toNat + ((i % 10 : Nat) : Int)) 99) (by rw [e42']; omega) (wth_R _ 99 (by decide))
    rw [show hp σ5 91 b.toNat (wth ((chg (nowM σ0) a.toNat ((i / 10 : Nat) : Int)).1 b.toNat + ((i % 10 : Nat) : Int)) 99) = σ7 from hs7.symm] at U2
    have a7 : airM σ7 = chg (chg (nowM σ0) a.toNat ((i / 10 : Nat) : Int)) b.toNat ((i % 10 : Nat) : Int) := by
      rw [hs7]; exact (air_up (by omega)).trans (by rw [a4]; rfl)
    have R : Rn σ0 σ7 (chg (chg (nowM σ0) a.toNat ((i / 10 : Nat) : Int)) b.toNat ((i % 10 : Nat) : Int)) 0 0 := ⟨U2.1, fun d => (U2.2 d).trans ((U.2 d).trans (Lf d)), fun d => a7, hN.2.1.2.2.1.2⟩
    obtain ⟨p1, p2⟩ := R.day (by omega)
    refine ⟨p1, fun σ8 g8 => ⟨by decide, ⟨by omega, by omega⟩, ?_⟩⟩
    obtain ⟨q1, q2⟩ := p2 σ8 g8
    intro σ9 hs9
    have k91 : ∀ c, ¬ c ∈ af → σ8 c = σ c := fun c hcc => by
      have c91 : ¬ c = 91 := fun z => hcc (by rw [z]; simp [af])
      rw [q1 c hcc, hs7, hp_ne c91, hs4, hp_ne c91, g.1 c (by simp; exact c91)]
    have q98 : ∀ j, σ9 98 j = if j = i then σ8 91 12 else σ 98 j := fun j => by
      rw [hs9]
      show hp σ8 98 i (σ8 91 12) 98 j = _
      by_cases e : j = i
      · rw [e, hp_r1, if_pos rfl]
      · rw [hp_r2 (fun z => e z.2), if_neg e, k91 98 (by decide)]
    have qc : ∀ c, ¬ c = 98 → σ9 c = σ8 c := fun c hcc => by rw [hs9]; exact hp_ne hcc
    refine ⟨400 - (i + 1), by omega, rfl, rfl, rfl, i + 1, by simp, by omega, rfl, hab, fun c hcc => ?_, fun j hj => ?_, ?_, fun d j hj => ?_⟩
    · rw [qc c (fun z => hcc (by rw [z]; simp [dlf])), k91 c (fun z => hcc (by simp [dlf]; right; right; right; exact z))]
      exact hc c hcc
    · rw [qc 67 (by decide), k91 67 (by decide)]; exact h67 j hj
    · rw [qc 67 (by decide), k91 67 (by decide)]; exact h56
    · rw [q98]
      by_cases e : j = i
      · rw [if_pos e, e]; exact q2.h d
      · rw [if_neg e]; exact hw d j (by omega)
theorem Mo_duel_p100 : Mo_duel_vc100 := by
  intro k a b σ0 hp0 n v3 v4 σ hH hI
  obtain ⟨rfl, hP⟩ := hp0
  obtain ⟨i, rfl, hi, rfl, hab, hc, h67, hw, h56, hv, hD⟩ := hI
  have hl := crs_le (σ 98) a b i
  refine ⟨fun h => ?_, fun h => ?_⟩
  · have ei : i = 100 := by omega
    subst ei
    have M := mA_L hP.1 (σ' := σ) (fun j _ hj => h67 j hj) (fun c hcc h97 => hc c (fun z => by simp [dlf, af] at z; unfold shC at hcc; omega)) (by rw [h56]; split <;> exact ⟨by decide, by decide⟩)
    refine ⟨M.1, fun d => ?_⟩
    have ew : ∀ j, j < 100 → σ 98 j = dlW (famM d σ0) (nowM σ0) a.toNat b.toNat j := hw d
    have rs : ∀ x y, x < 10 → y < 10 → rsB (σ 98) a b x y = rsB (dlW (famM d σ0) (nowM σ0) a.toNat b.toNat) a b x y := by
      intro x y hx hy
      have : rsB (σ 98) a b x y = true ↔ rsB (dlW (famM d σ0) (nowM σ0) a.toNat b.toNat) a b x y = true := by
        rw [rAB, rAB]
        refine ⟨fun h o ho => ?_, fun h o ho => ?_⟩
        · have := h o ho
          unfold rA rB at this ⊢
          rw [ew _ (by omega), ew _ (by omega), ew _ (by omega)] at this
          exact this
        · have := h o ho
          unfold rA rB at this ⊢
          rw [ew _ (by omega), ew _ (by omega), ew _ (by omega)]
          exact this
      cases h1 : rsB (σ 98) a b x y <;> cases h2 : rsB (dlW (famM d σ0) (nowM σ0) a.toNat b.toNat) a b x y <;> simp_all
    have cr : ∀ m, m ≤ 100 → crs (σ 98) a b m = crs (dlW (famM d σ0) (nowM σ0) a.toNat b.toNat) a b m := by
      intro m
      induction m with
      | zero => intro _; rfl
      | succ m ih => intro hm; rw [crs_s, crs_s, ih (by omega), rs _ _ (by omega) (by omega)]
    unfold s_duel
    rw [if_pos (show two (mA d σ0) a b from hab)]
    refine ⟨by rw [hv, cr 100 (by omega)]; rfl, σ 97, ?_, ?_⟩
    · rcases hD with z | ⟨m, z1, z2, z3, z4, z5⟩
      · exact Or.inl ((cr 100 (by omega)).symm.trans z)
      · exact Or.inr ⟨m, z1, by rw [← z2]; exact (rs _ _ (by omega) (by omega)).symm, by rw [← z3]; exact (cr m (by omega)).symm, z4, z5⟩
    · rw [M.2 d, h56]
      by_cases z : v3 = 0
      · rw [if_pos z, if_pos z, show (0 : Int).toNat = 0 from rfl, tr_0]
      · rw [if_neg z, if_neg z]; rfl
  · have d10 : iDiv (i : Int) 10 = ((i / 10 : Nat) : Int) := iDiv_n (b := 10) (by omega) (by decide) (by decide)
    have r10 : iRem (i : Int) 10 = ((i % 10 : Nat) : Int) := iRem_n (b := 10) (by omega) (by decide) (by decide)
    rw [d10, r10, wr1 (i := (i : Int)) (by omega) (by omega), wr1 (i := v3) (by omega) (by omega)]
    refine ⟨by decide, by decide, ⟨rfl, by omega, by omega⟩, ?_⟩
    rintro r2 σ1 ⟨rfl, hr⟩
    rw [Int.toNat_natCast, Int.toNat_natCast] at hr
    have keepD : ¬ crs (σ1 98) a b i = 0 → ∀ L, L = σ1 97 → DlF (σ1 98) a b (i + 1) L := by
      intro hz L hL
      rw [hL]
      rcases hD with z | ⟨m, z1, z2⟩
      · exact absurd z hz
      · exact Or.inr ⟨m, by omega, z2⟩
    refine ⟨fun h2 => ?_, fun h2 => ?_⟩
    · have hy : rsB (σ1 98) a b (i / 10) (i % 10) = true := by
        rcases hr with ⟨-, y⟩ | ⟨y, -⟩
        · exact y
        · exact absurd y h2
      refine ⟨fun h3 => ?_, fun h3 => ⟨by decide, ⟨by decide, by decide⟩, ?_⟩⟩
      · refine ⟨100 - (i + 1), by omega, rfl, rfl, rfl, i + 1, by simp, by omega, rfl, hab, hc, h67, hw, ?_, ?_, keepD (by omega) _ rfl⟩
        · rw [h56, if_neg h3, if_neg (by omega)]
        · rw [crs_s, hy, hv]; simp
      · have h3' : v3 = 0 := Classical.not_not.mp h3
        intro σ3 hs3
        refine ⟨by decide, ⟨by decide, by decide⟩, ?_⟩
        intro σ4 hs4 σ5 hs5
        have e98 : σ5 98 = σ1 98 := by rw [hs5, hp_ne (by decide), hs4, hp_ne (by decide), hs3, hp_ne (by decide)]
        have q0 : σ5 97 0 = ((i / 10 : Nat) : Int) := by
          rw [hs5, hp_ne (by decide), hs4]
          show hp σ3 97 1 _ 97 0 = _
          rw [hp_r2 (fun z => by omega), hs3]; exact hp_r1
        have q1 : σ5 97 1 = ((i % 10 : Nat) : Int) := by
          rw [hs5, hp_ne (by decide), hs4]; exact hp_r1
        refine ⟨100 - (i + 1), by omega, rfl, rfl, rfl, i + 1, by simp, by omega, rfl, hab, fun c hcc => ?_, fun j hj => ?_, by rw [e98]; exact hw, ?_, ?_, ?_⟩
        · have c67 : ¬ c = 67 := fun z => hcc (by rw [z]; simp [dlf])
          have c97 : ¬ c = 97 := fun z => hcc (by rw [z]; simp [dlf])
          rw [hs5, hp_ne c67, hs4, hp_ne c97, hs3, hp_ne c97]; exact hc c hcc
        · rw [hs5, hp_r2 (fun z => hj z.2), hs4, hp_ne (by decide), hs3, hp_ne (by decide)]; exact h67 j hj
        · rw [hs5, hp_r1, if_neg (by omega)]
        · rw [e98, crs_s, hy, hv]; simp
        · rw [e98]
          exact Or.inr ⟨i, by omega, hy, by omega, q0, q1⟩
    · have hy : ¬ rsB (σ1 98) a b (i / 10) (i % 10) = true := by
        rcases hr with ⟨y, -⟩ | ⟨-, y⟩
        · omega
        · exact y
      refine ⟨100 - (i + 1), by omega, rfl, rfl, rfl, i + 1, by simp, by omega, rfl, hab, hc, h67, hw, h56, ?_, ?_⟩
      · rw [crs_s, if_neg hy, hv]; simp
      · rcases hD with z | ⟨m, z1, z2⟩
        · left; rw [crs_s, if_neg hy, z]
        · exact Or.inr ⟨m, by omega, z2⟩
def Mo_duel_I : List AV → Hp → Nat → Nat → List AV → List AV → Hp → Prop := fun as σ0 pc n st ls σ => (match as with
    | [.inr (.inr (.inl (k, 0, 9))), .inl a1, .inl a2] => (bif Nat.beq pc 18 then (match st, ls with
      | [], [.inr (.inr (.inl (k', 0, 9))), .inl a1', .inl a2', .inl v3, _] => k = k' ∧ a1 = a1' ∧ a2 = a2' ∧ Mo_duel_I18 k a1 a2 σ0 n v3 σ
      | _, _ => False) else (bif Nat.beq pc 100 then (match st, ls with
      | [], [.inr (.inr (.inl (k', 0, 9))), .inl a1', .inl a2', .inl v3, .inl v4] => k = k' ∧ a1 = a1' ∧ a2 = a2' ∧ Mo_duel_I100 k a1 a2 σ0 n v3 v4 σ
      | _, _ => False) else False))
    | _ => False)
def Mo_duel_ct : Nat → Ct := fun n => match n with
  | 0 => Mo_areTwo_cs
  | 1 => Mo_load_cs
  | 2 => Mo_within_cs
  | 3 => Mo_goDay_cs
  | 4 => Mo_isRest_cs
  | _ => Mo_duel_cs
set_option maxRecDepth 20000 in
set_option maxHeartbeats 4000000 in
theorem Mo_duel_met {l : Launch} {D : va_G} {ad : Nat → Nat} {ca : Nat → ClassId} {L : Nat} {fx : Nat → Int} : ax_MC l D ad ca L fx yX9_duel cX9_duel 5 (some .int) 8 Mo_duel_cs := by
  refine ax_met (oc := 9) (ct := Mo_duel_ct) (calls := Mo_duel_cl) (bs := Mo_duel_bk) (cut := fun pc => Nat.beq pc 18 || Nat.beq pc 100) (f := 10) (I := Mo_duel_I) (by decide) rfl rfl Mo_duel_ck (List.forall_mem_cons.mpr ⟨ax_cwV Mo_areTwo_met (by decide) (by decide) rfl (by decide) rfl (ax_m7 134 (by decide +kernel) rfl) Mo_areTwo_w rfl Mo_areTwo_ds, List.forall_mem_cons.mpr ⟨ax_cwV Mo_load_met (by decide) (by decide) rfl (by decide) rfl (ax_m7 86 (by decide +kernel) rfl) Mo_load_w rfl Mo_load_ds, List.forall_mem_cons.mpr ⟨ax_cwS Mo_within_met (by decide) (by decide) (ax_m7 64 (by decide +kernel) rfl) Mo_within_w rfl Mo_within_ds, List.forall_mem_cons.mpr ⟨ax_cwV Mo_goDay_met (by decide) (by decide) rfl (by decide) rfl (ax_m7 189 (by decide +kernel) rfl) Mo_goDay_w rfl Mo_goDay_ds, List.forall_mem_cons.mpr ⟨ax_cwV Mo_isRest_met (by decide) (by decide) rfl (by decide) rfl (ax_m8 41 (by decide +kernel) rfl) Mo_isRest_w rfl Mo_isRest_ds, fun _ h => absurd h List.not_mem_nil⟩⟩⟩⟩⟩) ?_ ?_
  · intro as σ0 hp hH
    match as, hp with
    | [.inr (.inr (.inl (k, 0, 9))), .inl a1, .inl a2], hp => exact ⟨rfl, Mo_duel_p k a1 a2 σ0 hH hp⟩
  · intro as σ0 hp n pc st ls σ hH hI
    match as, hp, hI with
    | [.inr (.inr (.inl (k, 0, 9))), .inl a1, .inl a2], hp, hI =>
      rcases ax_bifE hI with ⟨hpc, hI⟩ | ⟨-, hI⟩
      · have := Nat.eq_of_beq_eq_true hpc
        subst this
        match st, ls, hI with
        | [], [.inr (.inr (.inl (k', 0, 9))), .inl a1', .inl a2', .inl v3, _], hI =>
          obtain ⟨rfl, rfl, rfl, hI⟩ := hI
          exact Mo_duel_p18 k a1 a2 σ0 hp n v3 σ hH hI
      rcases ax_bifE hI with ⟨hpc, hI⟩ | ⟨-, hI⟩
      · have := Nat.eq_of_beq_eq_true hpc
        subst this
        match st, ls, hI with
        | [], [.inr (.inr (.inl (k', 0, 9))), .inl a1', .inl a2', .inl v3, .inl v4], hI =>
          obtain ⟨rfl, rfl, rfl, hI⟩ := hI
          exact Mo_duel_p100 k a1 a2 σ0 hp n v3 v4 σ hH hI
      exact False.elim hI
