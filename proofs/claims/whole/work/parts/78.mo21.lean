-- THE MODEL: wed
def WQ (σ0 σ : Hp) : Prop := Fr [67, 96, 97] σ0 σ ∧ ∀ j, ¬ j = 56 → ¬ j = 57 → σ 67 j = σ0 67 j
theorem WQ.np {σ0 σ : Hp} (h : WQ σ0 σ) (hN : NP σ0) : NP σ ∧ (∀ d, famM d σ = famM d σ0) ∧ nowM σ = nowM σ0 :=
  hN.any (h.2 23 (by decide) (by decide)) (h.2 42 (by decide) (by decide)) (h.2 43 (by decide) (by decide)) (fun c hc => h.1 c (by simp; omega))
theorem WQ.ly {σ0 σ σ' : Hp} {x : Nat} {r : Int} (h : WQ σ0 σ) (hN : NP σ0) (g : lyR σ σ' x r) : lyR σ0 σ' x r := by
  obtain ⟨-, e1, e2⟩ := h.np hN
  have e3 := h.2 42 (by decide) (by decide)
  unfold lyR lyM Fz at g ⊢
  rw [e1 0, e2, e3] at g
  exact g
theorem WQ.on {σ0 σ σ1 σ' : Hp} {a r : Int} (h : WQ σ0 σ) (hN : NP σ0) (e : σ1 = σ) (g : Mo_layRow_post 67 a σ1 r σ') : WQ σ0 σ' ∧ lyR σ0 σ' a.toNat r ∧ σ' 67 56 = σ 67 56 := by
  subst e
  obtain ⟨g1, g2, g3⟩ := g
  exact ⟨⟨h.1.tr (g1.mono (by simp)), fun j h1 h2 => by rw [g2 j h2]; exact h.2 j h1 h2⟩, h.ly hN g3, g2 56 (by decide)⟩
def gdW (F : Fam) (s : Sta) (x : Nat) : Prop := okD F (dg x) ∧ ¬ wc F s (dg x) = -1
theorem okD_ext {F : Fam} {D E : Nat → Nat} (h : ∀ j, j < wA F → D j = E j) (k : okD F D) : okD F E := fun j hj => by rw [← h j hj]; exact k j hj
theorem gdW_of {F : Fam} {s : Sta} {D : Nat → Nat} (hn : fN F ≤ 6) (h : okD F D) (h1 : ¬ wc F s D = -1) : cdB 7 D (wA F) < 7 ^ wA F ∧ gdW F s (cdB 7 D (wA F)) ∧ wc F s (dg (cdB 7 D (wA F))) = wc F s D := by
  have hl := okD_lt h hn
  have e : ∀ j, j < wA F → dg (cdB 7 D (wA F)) j = D j := fun j hj => cdB_dig (by decide) _ D hl j hj
  have e2 : wc F s (dg (cdB 7 D (wA F))) = wc F s D := wc_ext e
  exact ⟨cdB_lt (by decide) _ D hl, ⟨okD_ext (fun j hj => (e j hj).symm) h, by rw [e2]; exact h1⟩, e2⟩
theorem ly_good {σ0 σ' : Hp} {x : Nat} {r : Int} (hN : NP σ0) (h : lyR σ0 σ' x r) : (r < 0 → ¬ gdW (Fz σ0) (nowM σ0) x) ∧ (¬ r < 0 → r ≤ 198 ∧ ∃ wed : Nat, σ' 67 57 = (wed : Int) ∧ (wed < min (wA (Fz σ0)) (wB (Fz σ0)) → ¬ gdW (Fz σ0) (nowM σ0) x) ∧ (¬ wed < min (wA (Fz σ0)) (wB (Fz σ0)) → gdW (Fz σ0) (nowM σ0) x ∧ wc (Fz σ0) (nowM σ0) (dg x) = r)) := by
  have hcost : ∀ o, lyM σ0 x (wA (Fz σ0)) = o → wc (Fz σ0) (nowM σ0) (dg x) = (match o with
    | none => -1
    | some y => if y.2.1 = min (wA (Fz σ0)) (wB (Fz σ0)) then y.2.2 else -1) := by
    intro o ho
    unfold wc wcost
    rw [show lay (hi (Fz σ0) 0 (fN (Fz σ0))) (nowM σ0).1 (wA (Fz σ0)) (dg x) (wA (Fz σ0)) = o from ho]
    cases o <;> rfl
  rcases h with ⟨h1, h2⟩ | ⟨h1, had, wed, h2, h3, h4, -⟩
  · refine ⟨fun _ z => ?_, fun z => absurd (by omega) z⟩
    rcases h2 with y | y
    · exact y z.1
    · exact z.2 (hcost none y)
  · refine ⟨fun z => absurd z (by omega), fun _ => ⟨h3.2, wed, h4, fun hw z => ?_, fun hw => ?_⟩⟩
    · refine z.2 ?_
      rw [hcost _ h2]
      show (if wed = min (wA (Fz σ0)) (wB (Fz σ0)) then r else -1) = -1
      rw [if_neg (by omega)]
    · obtain ⟨c1, c2, c3⟩ := lay_cnt (F := Fz σ0) (wA (Fz σ0)) h1 had wed r h2
      have c4 : pcn had (fN (Fz σ0)) ≤ wB (Fz σ0) := pcn_hz (F := Fz σ0) (fN (Fz σ0)) (fun o _ ho => (c2 o ho).2.1)
      have e : wc (Fz σ0) (nowM σ0) (dg x) = r := by
        rw [hcost _ h2]
        show (if wed = min (wA (Fz σ0)) (wB (Fz σ0)) then r else -1) = r
        rw [if_pos (by omega)]
      exact ⟨⟨h1, by rw [e]; omega⟩, e⟩
def dgp (F : Fam) (x p : Nat) : Nat := dg x (wA F - 1 - hz F 0 p)
def bsW (F : Fam) (s : Sta) (x : Nat) (v3 v4 : Int) : Prop := (v4 = -1 ∧ v3 = 1000000 ∧ ∀ y, y < x → ¬ gdW F s y) ∨ (∃ b : Nat, v4 = b ∧ b < x ∧ gdW F s b ∧ v3 = wc F s (dg b) ∧ ∀ y, y < x → gdW F s y → v3 < wc F s (dg y) ∨ (v3 = wc F s (dg y) ∧ b ≤ y))
def Mo_wed_pre (k : Nat) (σ : Hp) : Prop := k = 67 ∧ MP σ
def Mo_wed_post (_k : Nat) (σ : Hp) (r : Int) (σ' : Hp) : Prop := MQo σ σ' ∧ ∀ d, s_wed (mA d σ) r (mA d σ')
def Mo_wed_I9 (_k : Nat) (σ0 : Hp) (n : Nat) (v1 v2 : Int) (σ : Hp) : Prop := ∃ i : Nat, v2 = i ∧ i ≤ (σ0 67 42).toNat ∧ n = 3000000 + (6 - i) ∧ WQ σ0 σ ∧ σ 67 56 = 0 ∧ v1 = (hz (Fz σ0) 0 i : Nat)
def Mo_wed_I71 (_k : Nat) (σ0 : Hp) (n : Nat) (v1 v2 v3 v4 v5 : Int) (σ : Hp) : Prop := ∃ x : Nat, v5 = x ∧ x ≤ 7 ^ wA (Fz σ0) ∧ n = 2000000 - x ∧ WQ σ0 σ ∧ v1 = (wA (Fz σ0) : Nat) ∧ v2 = (min (wA (Fz σ0)) (wB (Fz σ0)) : Nat) ∧ ¬ min (wA (Fz σ0)) (wB (Fz σ0)) = 0 ∧ bsW (Fz σ0) (nowM σ0) x v3 v4
def rowW (σ0 σ : Hp) (x : Nat) : Prop := okD (Fz σ0) (dg x) ∧ (∀ i l, i < l → l < wA (Fz σ0) → ¬ dg x i = 6 → ¬ dg x l = 6 → ¬ dg x i = dg x l) ∧ ∀ p, p < (σ0 67 42).toNat → σ 96 p = if fHou (Fz σ0) p = 1 then 6 else (dgp (Fz σ0) x p : Int)
def Mo_wed_I135 (_k : Nat) (σ0 : Hp) (n : Nat) (_v1 _v2 v3 v4 v5 : Int) (σ : Hp) : Prop := ∃ i x : Nat, v5 = i ∧ i ≤ (σ0 67 42).toNat ∧ n = 1000 - i ∧ WQ σ0 σ ∧ ¬ min (wA (Fz σ0)) (wB (Fz σ0)) = 0 ∧ v4 = x ∧ WedB (Fz σ0) (nowM σ0) (dg x) ∧ v3 = wc (Fz σ0) (nowM σ0) (dg x) ∧ rowW σ0 σ x ∧ ∀ q, q < i → σ 97 q = -1
def lieW (F : Fam) (N x i : Nat) (f : Nat → Int) : Prop := (∀ p, p < i → p < N → fHou F p = 0 → ¬ dgp F x p = 6 → f p = (dgp F x p : Int) ∧ f (dgp F x p) = (p : Int)) ∧ ∀ q, q < N → (∀ p, p < i → fHou F p = 0 → ¬ dgp F x p = 6 → ¬ q = p ∧ ¬ q = dgp F x p) → f q = -1
def Mo_wed_I161 (_k : Nat) (σ0 : Hp) (n : Nat) (_v1 _v2 v3 v4 v5 : Int) (σ : Hp) : Prop := ∃ i x : Nat, v5 = i ∧ i ≤ (σ0 67 42).toNat ∧ n = 100 - i ∧ WQ σ0 σ ∧ ¬ min (wA (Fz σ0)) (wB (Fz σ0)) = 0 ∧ v4 = x ∧ WedB (Fz σ0) (nowM σ0) (dg x) ∧ v3 = wc (Fz σ0) (nowM σ0) (dg x) ∧ rowW σ0 σ x ∧ lieW (Fz σ0) (σ0 67 42).toNat x i (σ 97)
def Mo_wed_bk : List (Nat × List Item) := [(0, [(.aload_n 0, 1, [], []), (.iconst 0, 1, [], []), (.putfield 376, 3, [9, 56, 0, 0, 0, 0], []), (.iconst 0, 1, [], []), (.istore_n 1, 1, [], []), (.iconst 0, 1, [], []), (.istore_n 2, 1, [], [])]),
  (9, [(.iload_n 2, 1, [], []), (.aload_n 0, 1, [], []), (.getfield 304, 3, [9, 42, 0, 0, 0, 0], []), (.if_icmp .ge 20, 3, [34], []), (.iload_n 1, 1, [], []), (.iconst 1, 1, [], []), (.aload_n 0, 1, [], []), (.getfield 67, 3, [9, 32, 4, 18, 1, 6], []), (.iload_n 2, 1, [], []), (.iaload, 1, [], []), (.isub, 1, [], []), (.iadd, 1, [], []), (.istore_n 1, 1, [], []), (.iinc 2 1, 3, [], []), (.goto (-22), 3, [9], [])]),
  (34, [(.iload_n 1, 1, [], []), (.aload_n 0, 1, [], []), (.getfield 304, 3, [9, 42, 0, 0, 0, 0], []), (.iload_n 1, 1, [], []), (.isub, 1, [], []), (.if_icmp .ge 7, 3, [48], []), (.iload_n 1, 1, [], []), (.goto 9, 3, [54], [])]),
  (48, [(.aload_n 0, 1, [], []), (.getfield 304, 3, [9, 42, 0, 0, 0, 0], []), (.iload_n 1, 1, [], []), (.isub, 1, [], [])]),
  (54, [(.istore_n 2, 1, [], []), (.iload_n 2, 1, [], []), (.ifCond .ne 5, 3, [61], []), (.iconst (-1), 1, [], []), (.ireturn, 1, [], [])]),
  (61, [(.ldc_w 450, 3, [], [(1000000, 0)]), (.istore_n 3, 1, [], []), (.iconst (-1), 1, [], []), (.istore 4, 2, [], []), (.iconst 0, 1, [], []), (.istore 5, 2, [], [])]),
  (71, [(.iload 5, 2, [], []), (.bipush 7, 2, [], []), (.iload_n 1, 1, [], []), (.invokestatic 451, 3, [0], []), (.if_icmp .ge 46, 3, [125], []), (.aload_n 0, 1, [], []), (.iload 5, 2, [], []), (.invokevirtual 454, 3, [1], []), (.istore 6, 2, [], []), (.iload 6, 2, [], []), (.ifCond .lt 27, 3, [119], []), (.aload_n 0, 1, [], []), (.getfield 447, 3, [9, 57, 0, 0, 0, 0], []), (.iload_n 2, 1, [], []), (.if_icmp .lt 19, 3, [119], []), (.iload 6, 2, [], []), (.iload_n 3, 1, [], []), (.if_icmp .lt 6, 3, [112], []), (.goto 10, 3, [119], [])]),
  (112, [(.iload 6, 2, [], []), (.istore_n 3, 1, [], []), (.iload 5, 2, [], []), (.istore 4, 2, [], [])]),
  (119, [(.iinc 5 1, 3, [], []), (.goto (-51), 3, [71], [])]),
  (125, [(.aload_n 0, 1, [], []), (.iload 4, 2, [], []), (.invokevirtual 454, 3, [1], []), (.pop, 1, [], []), (.iconst 0, 1, [], []), (.istore 5, 2, [], [])]),
  (135, [(.iload 5, 2, [], []), (.aload_n 0, 1, [], []), (.getfield 304, 3, [9, 42, 0, 0, 0, 0], []), (.if_icmp .ge 17, 3, [158], []), (.aload_n 0, 1, [], []), (.getfield 106, 3, [9, 55, 4, 30, 1, 6], []), (.iload 5, 2, [], []), (.iconst (-1), 1, [], []), (.iastore, 1, [], []), (.iinc 5 1, 3, [], []), (.goto (-20), 3, [135], [])]),
  (158, [(.iconst 0, 1, [], []), (.istore 5, 2, [], [])]),
  (161, [(.iload 5, 2, [], []), (.aload_n 0, 1, [], []), (.getfield 304, 3, [9, 42, 0, 0, 0, 0], []), (.if_icmp .ge 52, 3, [219], []), (.aload_n 0, 1, [], []), (.getfield 103, 3, [9, 54, 4, 29, 1, 6], []), (.iload 5, 2, [], []), (.iaload, 1, [], []), (.bipush 6, 2, [], []), (.if_icmp .ne 6, 3, [185], []), (.goto 31, 3, [213], [])]),
  (185, [(.aload_n 0, 1, [], []), (.getfield 106, 3, [9, 55, 4, 30, 1, 6], []), (.iload 5, 2, [], []), (.aload_n 0, 1, [], []), (.getfield 103, 3, [9, 54, 4, 29, 1, 6], []), (.iload 5, 2, [], []), (.iaload, 1, [], []), (.iastore, 1, [], []), (.aload_n 0, 1, [], []), (.getfield 106, 3, [9, 55, 4, 30, 1, 6], []), (.aload_n 0, 1, [], []), (.getfield 103, 3, [9, 54, 4, 29, 1, 6], []), (.iload 5, 2, [], []), (.iaload, 1, [], []), (.iload 5, 2, [], []), (.iastore, 1, [], [])]),
  (213, [(.iinc 5 1, 3, [], []), (.goto (-55), 3, [161], [])]),
  (219, [(.aload_n 0, 1, [], []), (.aload_n 0, 1, [], []), (.getfield 304, 3, [9, 42, 0, 0, 0, 0], []), (.putfield 376, 3, [9, 56, 0, 0, 0, 0], []), (.iload_n 3, 1, [], []), (.ireturn, 1, [], [])])]
def Mo_wed_cl : List (Instr × Nat) := [(.invokestatic 451, 0), (.invokevirtual 454, 1)]
set_option maxRecDepth 20000 in
theorem Mo_wed_ck : Mo_wed_bk.all (fun b => ax_chB 9 7 cX9_wed Mo_wed_cl b.1 b.2) = true := by decide +kernel
def Mo_wed_cs : Ct := (1, 10, 1, (0, 0), fun as σ => (match as with
    | [.inr (.inr (.inl (k, 0, 9)))] => Mo_wed_pre k σ
    | _ => False), fun as σ r σ' => (match as with
    | [.inr (.inr (.inl (k, 0, 9)))] => Mo_wed_post k σ r σ'
    | _ => False))
theorem Mo_wed_w : ∀ w ∈ ([.instanceMethod yX9_wed, .selects yX9_wed.cls yX9_wed yX9_wed, .initialized yX9_wed.cls, .code yX9_wed cX9_wed 7 (some .int)] : List Cond), w ∈ ax_tb := ax_w4 (ax_m7 222 (by decide +kernel) rfl) (ax_m7 223 (by decide +kernel) rfl) (ax_m1 10 (by decide +kernel) rfl) (ax_m7 224 (by decide +kernel) rfl)
theorem Mo_wed_ds : yX9_wed.cls ≠ "java/lang/invoke/MethodHandle" ∧ yX9_wed.cls ≠ "java/lang/invoke/VarHandle" ∧ (parseMethodDescriptor yX9_wed.desc).map (fun d => d.parameters.length) = some 0 := by decide +kernel
def Mo_wed_vc : Prop := ∀ (k : Nat) (σ : Hp), ax_H σ → Mo_wed_pre k σ →
  ∀ σ1 : Hp, σ1 = hp σ k 56 0 →
  ∃ n' : Nat, k = k ∧ Mo_wed_I9 k σ n' 0 0 σ1
def Mo_wed_vc9 : Prop := ∀ (k : Nat) (σ0 : Hp), Mo_wed_pre k σ0 → ∀ (n : Nat) (v1 : Int) (v2 : Int) (σ : Hp), ax_H σ → Mo_wed_I9 k σ0 n v1 v2 σ →
  (σ k 42 ≤ v2 →
    (wr ((σ k 42) - v1) ≤ v1 →
      (¬ wr ((σ k 42) - v1) = 0 →
        ∃ n' : Nat, n' < n ∧ k = k ∧ Mo_wed_I71 k σ0 n' v1 (wr ((σ k 42) - v1)) 1000000 (-1) 0 σ) ∧
      (¬ (¬ wr ((σ k 42) - v1) = 0) →
        Mo_wed_post k σ0 (-1) σ)) ∧
    (¬ (wr ((σ k 42) - v1) ≤ v1) →
      (¬ v1 = 0 →
        ∃ n' : Nat, n' < n ∧ k = k ∧ Mo_wed_I71 k σ0 n' v1 v1 1000000 (-1) 0 σ) ∧
      (¬ (¬ v1 = 0) →
        Mo_wed_post k σ0 (-1) σ))) ∧
  (¬ (σ k 42 ≤ v2) →
    (0 ≤ v2 ∧ v2 < 6) ∧
    ∃ n' : Nat, n' < n ∧ k = k ∧ Mo_wed_I9 k σ0 n' (wr (v1 + (wr (1 - (σ (k + 18) v2.toNat))))) (wr (v2 + 1)) σ)
def Mo_wed_vc71 : Prop := ∀ (k : Nat) (σ0 : Hp), Mo_wed_pre k σ0 → ∀ (n : Nat) (v1 : Int) (v2 : Int) (v3 : Int) (v4 : Int) (v5 : Int) (σ : Hp), ax_H σ → Mo_wed_I71 k σ0 n v1 v2 v3 v4 v5 σ →
  Mo_power_pre 7 v1 σ ∧
  ∀ (r2 : Int) (σ1 : Hp), Mo_power_post 7 v1 σ r2 σ1 →
  (r2 ≤ v5 →
    Mo_layRow_pre k v4 σ1 ∧
    ∀ (r4 : Int) (σ3 : Hp), Mo_layRow_post k v4 σ1 r4 σ3 →
    ∃ n' : Nat, n' < n ∧ k = k ∧ Mo_wed_I135 k σ0 n' v1 v2 v3 v4 0 σ3) ∧
  (¬ (r2 ≤ v5) →
    Mo_layRow_pre k v5 σ1 ∧
    ∀ (r6 : Int) (σ5 : Hp), Mo_layRow_post k v5 σ1 r6 σ5 →
    (r6 < 0 →
      ∃ n' : Nat, n' < n ∧ k = k ∧ Mo_wed_I71 k σ0 n' v1 v2 v3 v4 (wr (v5 + 1)) σ5) ∧
    (¬ (r6 < 0) →
      (σ5 k 57 < v2 →
        ∃ n' : Nat, n' < n ∧ k = k ∧ Mo_wed_I71 k σ0 n' v1 v2 v3 v4 (wr (v5 + 1)) σ5) ∧
      (¬ (σ5 k 57 < v2) →
        (r6 < v3 →
          ∃ n' : Nat, n' < n ∧ k = k ∧ Mo_wed_I71 k σ0 n' v1 v2 r6 v5 (wr (v5 + 1)) σ5) ∧
        (¬ (r6 < v3) →
          ∃ n' : Nat, n' < n ∧ k = k ∧ Mo_wed_I71 k σ0 n' v1 v2 v3 v4 (wr (v5 + 1)) σ5))))
def Mo_wed_vc135 : Prop := ∀ (k : Nat) (σ0 : Hp), Mo_wed_pre k σ0 → ∀ (n : Nat) (v1 : Int) (v2 : Int) (v3 : Int) (v4 : Int) (v5 : Int) (σ : Hp), ax_H σ → Mo_wed_I135 k σ0 n v1 v2 v3 v4 v5 σ →
  (σ k 42 ≤ v5 →
    ∃ n' : Nat, n' < n ∧ k = k ∧ Mo_wed_I161 k σ0 n' v1 v2 v3 v4 0 σ) ∧
  (¬ (σ k 42 ≤ v5) →
    (0 ≤ v5 ∧ v5 < 6) ∧
    ∀ σ1 : Hp, σ1 = hp σ (k + 30) v5.toNat (-1) →
    ∃ n' : Nat, n' < n ∧ k = k ∧ Mo_wed_I135 k σ0 n' v1 v2 v3 v4 (wr (v5 + 1)) σ1)
def Mo_wed_vc161 : Prop := ∀ (k : Nat) (σ0 : Hp), Mo_wed_pre k σ0 → ∀ (n : Nat) (v1 : Int) (v2 : Int) (v3 : Int) (v4 : Int) (v5 : Int) (σ : Hp), ax_H σ → Mo_wed_I161 k σ0 n v1 v2 v3 v4 v5 σ →
  (σ k 42 ≤ v5 →
    ∀ σ1 : Hp, σ1 = hp σ k 56 (σ k 42) →
    Mo_wed_post k σ0 v3 σ1) ∧
  (¬ (σ k 42 ≤ v5) →
    (0 ≤ v5 ∧ v5 < 6) ∧
    (¬ σ (k + 29) v5.toNat = 6 →
      (0 ≤ v5 ∧ v5 < 6) ∧
      (0 ≤ v5 ∧ v5 < 6) ∧
      ∀ σ2 : Hp, σ2 = hp σ (k + 30) v5.toNat (σ (k + 29) v5.toNat) →
      (0 ≤ v5 ∧ v5 < 6) ∧
      (0 ≤ σ2 (k + 29) v5.toNat ∧ σ2 (k + 29) v5.toNat < 6) ∧
      ∀ σ3 : Hp, σ3 = hp σ2 (k + 30) (σ2 (k + 29) v5.toNat).toNat v5 →
      ∃ n' : Nat, n' < n ∧ k = k ∧ Mo_wed_I161 k σ0 n' v1 v2 v3 v4 (wr (v5 + 1)) σ3) ∧
    (¬ (¬ σ (k + 29) v5.toNat = 6) →
      ∃ n' : Nat, n' < n ∧ k = k ∧ Mo_wed_I161 k σ0 n' v1 v2 v3 v4 (wr (v5 + 1)) σ))
theorem Mo_wed_p : Mo_wed_vc := by
  intro k σ hH hp0
  obtain ⟨rfl, hP⟩ := hp0
  intro σ1 hs
  exact ⟨3000006, rfl, 0, rfl, Nat.zero_le _, rfl, ⟨by rw [hs]; exact Fr.hp Fr.rf (by simp), fun j h1 _ => by rw [hs]; exact hp_r2 (fun z => h1 z.2)⟩, by rw [hs]; exact hp_r1, rfl⟩
theorem wed_none {σ0 σ : Hp} (hP : MP σ0) (hW : WQ σ0 σ) (h56 : σ 67 56 = 0) (h0 : min (wA (Fz σ0)) (wB (Fz σ0)) = 0) : Mo_wed_post 67 σ0 (-1) σ := by
  have M := mA_L hP.1 (σ' := σ) (fun j hj h => hW.2 j h (fun z => by rw [z] at hj; unfold shS at hj; omega)) (fun c hc h97 => hW.1 c (fun z => by simp at z; unfold shC at hc; omega)) (by rw [h56]; exact ⟨by decide, by decide⟩)
  refine ⟨M.1, fun d => ⟨zr, WedR_ext (F := Fz σ0) (G := famM d σ0) (s := nowM σ0) rfl rfl (Or.inl ⟨h0, rfl⟩), ?_⟩⟩
  rw [M.2 d, h56, if_pos rfl]
  all_goals (congr 1)
theorem Mo_wed_p9 : Mo_wed_vc9 := by
  intro k σ0 hp0 n v1 v2 σ hH hI
  obtain ⟨rfl, hP⟩ := hp0
  obtain ⟨i, rfl, hi, rfl, hW, h56, rfl⟩ := hI
  have hn := hP.n6
  obtain ⟨dF, hFV⟩ := hP.1.1.2.2.2
  have hHR : ∀ i, 0 ≤ fHou (Fz σ0) i ∧ fHou (Fz σ0) i ≤ 1 := fun i => (hFV.2.1 i).1
  have h01 := hz01 hHR
  have e42 := hW.2 42 (by decide) (by decide)
  have hle := hz_le (Fz σ0) 0 i
  rw [e42]
  refine ⟨fun h => ?_, fun h => ⟨⟨by omega, by omega⟩, ?_⟩⟩
  · have ei : i = (σ0 67 42).toNat := by omega
    have eA : hz (Fz σ0) 0 i = wA (Fz σ0) := by rw [ei]; rfl
    have eB : wA (Fz σ0) + wB (Fz σ0) = (σ0 67 42).toNat := h01 (σ0 67 42).toNat
    rw [eA, wr_id (by omega) (by omega)]
    have go : ∀ v : Int, v = (min (wA (Fz σ0)) (wB (Fz σ0)) : Nat) → ¬ v = 0 → ∃ n' : Nat, n' < 3000000 + (6 - i) ∧ (67 : Nat) = 67 ∧ Mo_wed_I71 67 σ0 n' (wA (Fz σ0) : Nat) v 1000000 (-1) 0 σ := fun v hv h0 =>
      ⟨2000000, by omega, rfl, 0, rfl, Nat.zero_le _, rfl, hW, rfl, hv, by omega, Or.inl ⟨rfl, rfl, fun y hy => absurd hy (Nat.not_lt_zero y)⟩⟩
    exact ⟨fun h1 => ⟨fun h2 => go _ (by omega) h2, fun h2 => wed_none hP hW h56 (by omega)⟩, fun h1 => ⟨fun h2 => go _ (by omega) h2, fun h2 => wed_none hP hW h56 (by omega)⟩⟩
  · have e85 : σ (67 + 18) i = fHou (Fz σ0) i := by
      rw [show σ (67 + 18) = σ0 85 from hW.1 85 (by decide)]
      exact (tr_in (by omega)).symm
    have hh := hHR i
    rw [Int.toNat_natCast, e85, wr_id (x := 1 - fHou (Fz σ0) i) (by omega) (by omega), wr_id (by omega) (by omega), wr1 (by omega) (by omega)]
    refine ⟨3000000 + (6 - (i + 1)), by omega, rfl, i + 1, by simp, by omega, rfl, hW, h56, ?_⟩
    rw [hz_s]
    by_cases e : fHou (Fz σ0) i = 0
    · rw [if_pos e]; omega
    · rw [if_neg e]; omega
theorem Mo_wed_p71 : Mo_wed_vc71 := by
  intro k σ0 hp0 n v1 v2 v3 v4 v5 σ hH hI
  obtain ⟨rfl, hP⟩ := hp0
  obtain ⟨x, rfl, hx, rfl, hW, rfl, rfl, h0, hb⟩ := hI
  have hN := hP.np
  have hn := hP.n6
  have hA6 := wA6 hN
  have h7w := p7 hA6.1
  obtain ⟨N1, N2, N3⟩ := hW.np hN
  have eF : wA (Fz σ) = wA (Fz σ0) := by unfold Fz; rw [N2 0]
  refine ⟨⟨rfl, by omega, by omega⟩, ?_⟩
  rintro r2 σ1 ⟨rfl, rfl⟩
  rw [Int.toNat_natCast]
  refine ⟨fun h => ?_, fun h => ⟨⟨rfl, N1, by omega, by rw [eF]; omega⟩, ?_⟩⟩
  · have ex : x = 7 ^ wA (Fz σ0) := by omega
    obtain ⟨D1a, D1b⟩ := D1_ok (F := Fz σ0) hA6.2 (nowM σ0)
    obtain ⟨y1, y2, -⟩ := gdW_of hA6.2 D1a D1b
    rcases hb with ⟨-, -, z⟩ | ⟨b, rfl, hbx, hg, rfl, hall⟩
    · exact absurd y2 (z _ (by omega))
    · refine ⟨⟨rfl, N1, by omega, by rw [eF]; omega⟩, ?_⟩
      intro r4 σ3 g
      obtain ⟨W3, L3, -⟩ := hW.on hN rfl g
      rw [Int.toNat_natCast] at L3
      have hcd : cdB 7 (dg b) (wA (Fz σ0)) = b := cdB_rep (by decide) _ b (by omega)
      refine ⟨1000, by omega, rfl, 0, b, rfl, Nat.zero_le _, rfl, W3, h0, rfl, ⟨hg.1, hg.2, fun D' o1 o2 => ?_⟩, rfl, ?_, fun q hq => absurd hq (Nat.not_lt_zero q)⟩
      · obtain ⟨z1, z2, z3⟩ := gdW_of hA6.2 o1 o2
        rw [hcd]
        have := hall _ (by omega) z2
        rw [z3] at this
        exact this
      · rcases L3 with ⟨l1, l2⟩ | ⟨l1, had, wed, l2, l3, l4, l5⟩
        · rcases l2 with z | z
          · exact absurd hg.1 z
          · refine absurd ?_ hg.2
            unfold wc wcost
            rw [show lay (hi (Fz σ0) 0 (fN (Fz σ0))) (nowM σ0).1 (wA (Fz σ0)) (dg b) (wA (Fz σ0)) = none from z]
        · exact ⟨l1, (lay_has _ _ _ _ l2).2, l5⟩
  · intro r6 σ5 g
    obtain ⟨W5, L5, -⟩ := hW.on hN rfl g
    rw [Int.toNat_natCast] at L5
    obtain ⟨l1, l2⟩ := ly_good hN L5
    rw [wr1 (by omega) (by omega)]
    have go : ∀ w3 w4 : Int, bsW (Fz σ0) (nowM σ0) (x + 1) w3 w4 → ∃ n' : Nat, n' < 2000000 - x ∧ (67 : Nat) = 67 ∧ Mo_wed_I71 67 σ0 n' (wA (Fz σ0) : Nat) (min (wA (Fz σ0)) (wB (Fz σ0)) : Nat) w3 w4 ((x : Int) + 1) σ5 := fun w3 w4 hw =>
      ⟨2000000 - (x + 1), by omega, rfl, x + 1, by simp, by omega, rfl, W5, rfl, rfl, h0, hw⟩
    have keep : (gdW (Fz σ0) (nowM σ0) x → 0 ≤ v4 ∧ v3 ≤ wc (Fz σ0) (nowM σ0) (dg x)) → bsW (Fz σ0) (nowM σ0) (x + 1) v3 v4 := by
      intro hk
      rcases hb with ⟨z1, z2, z3⟩ | ⟨b, z1, z2, z3, z4, z5⟩
      · refine Or.inl ⟨z1, z2, fun y hy hg => ?_⟩
        by_cases e : y = x
        · rw [e] at hg; have := hk hg; omega
        · exact z3 y (by omega) hg
      · refine Or.inr ⟨b, z1, by omega, z3, z4, fun y hy hg => ?_⟩
        by_cases e : y = x
        · rw [e] at hg ⊢; have := hk hg; omega
        · exact z5 y (by omega) hg
    refine ⟨fun h6 => go _ _ (keep (fun z => absurd z (l1 h6))), fun h6 => ?_⟩
    obtain ⟨hr, wed, w1, w2, w3⟩ := l2 h6
    rw [w1]
    refine ⟨fun h7 => go _ _ (keep (fun z => absurd z (w2 (by omega)))), fun h7 => ?_⟩
    obtain ⟨hg, hc⟩ := w3 (by omega)
    refine ⟨fun h8 => go _ _ (Or.inr ⟨x, rfl, by omega, hg, hc.symm, fun y hy hy2 => ?_⟩), fun h8 => go _ _ (keep (fun _ => ?_))⟩
    · by_cases e : y = x
      · rw [e, hc]; exact Or.inr ⟨rfl, Nat.le_refl x⟩
      · rcases hb with ⟨z1, z2, z3⟩ | ⟨b, z1, z2, z3, z4, z5⟩
        · exact absurd hy2 (z3 y (by omega))
        · have := z5 y (by omega) hy2; omega
    · rcases hb with ⟨z1, z2, z3⟩ | ⟨b, z1, z2, z3, z4, z5⟩
      · omega
      · omega
theorem Mo_wed_p135 : Mo_wed_vc135 := by
  intro k σ0 hp0 n v1 v2 v3 v4 v5 σ hH hI
  obtain ⟨rfl, hP⟩ := hp0
  obtain ⟨i, x, rfl, hi, rfl, hW, h0, rfl, hB, rfl, hR, hl⟩ := hI
  have hn := hP.n6
  rw [hW.2 42 (by decide) (by decide)]
  refine ⟨fun h => ⟨100, by omega, rfl, 0, x, rfl, Nat.zero_le _, rfl, hW, h0, rfl, hB, rfl, hR, fun p hp => absurd hp (Nat.not_lt_zero p), fun q hq _ => hl q (by omega)⟩, fun h => ⟨⟨by omega, by omega⟩, ?_⟩⟩
  intro σ1 hs
  rw [Int.toNat_natCast] at hs
  rw [wr1 (by omega) (by omega)]
  have qc : ∀ c, ¬ c = 97 → σ1 c = σ c := fun c hc => by rw [hs]; exact hp_ne hc
  refine ⟨1000 - (i + 1), by omega, rfl, i + 1, x, by simp, by omega, rfl, ⟨by rw [hs]; exact Fr.hp hW.1 (by simp), fun j h1 h2 => by rw [qc 67 (by decide)]; exact hW.2 j h1 h2⟩, h0, rfl, hB, rfl, ⟨hR.1, hR.2.1, by rw [qc 96 (by decide)]; exact hR.2.2⟩, fun q hq => ?_⟩
  rw [hs]
  show hp σ 97 i (-1) 97 q = -1
  by_cases e : q = i
  · rw [e, hp_r1]
  · rw [hp_r2 (fun z => e z.2)]; exact hl q (by omega)
theorem Mo_wed_p161 : Mo_wed_vc161 := by
  intro k σ0 hp0 n v1 v2 v3 v4 v5 σ hH hI
  obtain ⟨rfl, hP⟩ := hp0
  obtain ⟨i, x, rfl, hi6, rfl, hW, h0, rfl, hB, rfl, hR, hl⟩ := hI
  have hn := hP.n6
  obtain ⟨dF, hFV⟩ := hP.1.1.2.2.2
  have hHR : ∀ i, 0 ≤ fHou (Fz σ0) i ∧ fHou (Fz σ0) i ≤ 1 := fun i => (hFV.2.1 i).1
  have eN : fN (Fz σ0) = (σ0 67 42).toNat := rfl
  have e42 := hW.2 42 (by decide) (by decide)
  rw [e42]
  have hzA : ∀ p, p < (σ0 67 42).toNat → fHou (Fz σ0) p = 0 → hz (Fz σ0) 0 p < wA (Fz σ0) := by
    intro p hp hh
    have h1 := hz_mono (Fz σ0) 0 (p := p + 1) (q := fN (Fz σ0)) (by omega)
    rw [hz_s, if_pos hh] at h1
    exact h1
  have hdg : ∀ p, p < (σ0 67 42).toNat → fHou (Fz σ0) p = 0 → ¬ dgp (Fz σ0) x p = 6 → dgp (Fz σ0) x p < (σ0 67 42).toNat ∧ fHou (Fz σ0) (dgp (Fz σ0) x p) = 1 := by
    intro p hp hh h6
    have := hzA p hp hh
    exact (hR.1 (wA (Fz σ0) - 1 - hz (Fz σ0) 0 p) (by omega)).resolve_left h6
  have hinj : ∀ p q, p < (σ0 67 42).toNat → q < (σ0 67 42).toNat → fHou (Fz σ0) p = 0 → fHou (Fz σ0) q = 0 → ¬ dgp (Fz σ0) x p = 6 → ¬ dgp (Fz σ0) x q = 6 → p < q → ¬ dgp (Fz σ0) x p = dgp (Fz σ0) x q := by
    intro p q hp hq h1 h2 g1 g2 hpq z
    have a1 := hzA p hp h1
    have a2 := hzA q hq h2
    have h3 := hz_mono (Fz σ0) 0 (p := p + 1) (q := q) (by omega)
    rw [hz_s, if_pos h1] at h3
    exact hR.2.1 (wA (Fz σ0) - 1 - hz (Fz σ0) 0 q) (wA (Fz σ0) - 1 - hz (Fz σ0) 0 p) (by omega) (by omega) g2 g1 z.symm
  refine ⟨fun h => ?_, fun h => ⟨⟨by omega, by omega⟩, ?_⟩⟩
  · intro σ1 hs
    have ei : i = (σ0 67 42).toNat := by omega
    have q56 : σ1 67 56 = σ0 67 42 := by rw [hs, hp_r1]
    have q67 : ∀ j, ¬ j = 56 → σ1 67 j = σ 67 j := fun j hj => by rw [hs, hp_r2 (fun z => hj z.2)]
    have qc : ∀ c, ¬ c = 67 → σ1 c = σ c := fun c hc => by rw [hs, hp_ne hc]
    have M := mA_L hP.1 (σ' := σ1) (fun j hj h => by rw [q67 j h]; exact hW.2 j h (fun z => by rw [z] at hj; unfold shS at hj; omega)) (fun c hc h97 => by
      have h67 : ¬ c = 67 := fun z => by rw [z] at hc; unfold shC at hc; omega
      rw [qc c h67]
      exact hW.1 c (fun z => by simp at z; unfold shC at hc; omega)) (by rw [q56]; omega)
    refine ⟨M.1, fun d => ⟨σ 97, WedR_ext (F := Fz σ0) (G := famM d σ0) (s := nowM σ0) rfl rfl (Or.inr ⟨h0, dg x, hB, rfl, fun p hp => ?_⟩), ?_⟩⟩
    · have hp' : p < (σ0 67 42).toNat := hp
      have pat := pr_at (g := hi (Fz σ0) 0 (fN (Fz σ0))) (a := wA (Fz σ0)) (D := dg x) (fun a b ha hb e => by
          have h1 := hi_in (F := Fz σ0) (h := 0) (p := fN (Fz σ0)) (j := wA (Fz σ0) - 1 - a) (by show _ < wA (Fz σ0); omega)
          have h2 := hi_in (F := Fz σ0) (h := 0) (p := fN (Fz σ0)) (j := wA (Fz σ0) - 1 - b) (by show _ < wA (Fz σ0); omega)
          rw [e] at h1
          have := h1.2.2.symm.trans h2.2.2
          omega) (fun a b ha hb h6 e => by
          have h2 := hi_in (F := Fz σ0) (h := 0) (p := fN (Fz σ0)) (j := wA (Fz σ0) - 1 - b) (by show _ < wA (Fz σ0); omega)
          have h3 := (hR.1 a ha).resolve_left h6
          rw [e, h2.2.1] at h3
          exact absurd h3.2 (by decide)) hR.2.1 (wA (Fz σ0)) (Nat.le_refl _)
      have back : ∀ q, q < (σ0 67 42).toNat → fHou (Fz σ0) q = 0 → hi (Fz σ0) 0 (fN (Fz σ0)) (wA (Fz σ0) - 1 - (wA (Fz σ0) - 1 - hz (Fz σ0) 0 q)) = q := by
        intro q hq hh
        have := hzA q hq hh
        rw [show wA (Fz σ0) - 1 - (wA (Fz σ0) - 1 - hz (Fz σ0) 0 q) = hz (Fz σ0) 0 q by omega]
        exact hi_at (by omega) hh
      by_cases ex : ∃ q, q < (σ0 67 42).toNat ∧ fHou (Fz σ0) q = 0 ∧ ¬ dgp (Fz σ0) x q = 6 ∧ (p = q ∨ p = dgp (Fz σ0) x q)
      · obtain ⟨q, hq, hh, h6, hpq⟩ := ex
        have hz' := hzA q hq hh
        have l1 := hl.1 q (by omega) hq hh h6
        have p1 := pat.1 (wA (Fz σ0) - 1 - hz (Fz σ0) 0 q) (by omega) h6
        rw [back q hq hh] at p1
        rcases hpq with rfl | rfl
        · rw [l1.1]; exact p1.2.symm
        · rw [l1.2]; exact p1.1.symm
      · rw [hl.2 p hp' (fun q hq hh h6 => ⟨fun z => ex ⟨q, by omega, hh, h6, Or.inl z⟩, fun z => ex ⟨q, by omega, hh, h6, Or.inr z⟩⟩)]
        refine (pat.2 p (fun a ha h6 => ?_)).symm
        have h2 := hi_in (F := Fz σ0) (h := 0) (p := fN (Fz σ0)) (j := wA (Fz σ0) - 1 - a) (by show _ < wA (Fz σ0); omega)
        have ed : dgp (Fz σ0) x (hi (Fz σ0) 0 (fN (Fz σ0)) (wA (Fz σ0) - 1 - a)) = dg x a := by
          unfold dgp
          rw [h2.2.2, show wA (Fz σ0) - 1 - (wA (Fz σ0) - 1 - a) = a by omega]
        exact ⟨fun z => ex ⟨_, h2.1, h2.2.1, by rw [ed]; exact h6, Or.inr (by rw [ed]; exact z)⟩, fun z => ex ⟨_, h2.1, h2.2.1, by rw [ed]; exact h6, Or.inl z⟩⟩
    · rw [M.2 d, q56, qc 97 (by decide), if_neg hB.2.1]; rfl
  · have e96 : σ (67 + 29) i = if fHou (Fz σ0) i = 1 then 6 else (dgp (Fz σ0) x i : Int) := hR.2.2 i (by omega)
    have hh := hHR i
    rw [Int.toNat_natCast, wr1 (by omega) (by omega)]
    refine ⟨fun h1 => ⟨⟨by omega, by omega⟩, ⟨by omega, by omega⟩, ?_⟩, fun h1 => ?_⟩
    · have hi0 : fHou (Fz σ0) i = 0 := by
        by_cases e : fHou (Fz σ0) i = 1
        · rw [e96, if_pos e] at h1; exact absurd rfl h1
        · omega
      rw [e96, if_neg (show ¬ fHou (Fz σ0) i = 1 by omega)] at h1 ⊢
      have h6 : ¬ dgp (Fz σ0) x i = 6 := by omega
      have hd := hdg i (by omega) hi0 h6
      intro σ2 hs2
      have e2 : σ2 (67 + 29) i = (dgp (Fz σ0) x i : Int) := by
        rw [hs2, hp_ne (by decide), e96, if_neg (show ¬ fHou (Fz σ0) i = 1 by omega)]
      rw [e2, Int.toNat_natCast]
      refine ⟨⟨by omega, by omega⟩, ⟨by omega, by omega⟩, ?_⟩
      intro σ3 hs3
      have qc : ∀ c, ¬ c = 97 → σ3 c = σ c := fun c hc => by rw [hs3, hp_ne hc, hs2, hp_ne hc]
      have q97 : ∀ q, σ3 97 q = if q = dgp (Fz σ0) x i then (i : Int) else if q = i then (dgp (Fz σ0) x i : Int) else σ 97 q := by
        intro q
        rw [hs3]
        show hp σ2 97 (dgp (Fz σ0) x i) i 97 q = _
        by_cases e : q = dgp (Fz σ0) x i
        · rw [e, hp_r1, if_pos rfl]
        · rw [hp_r2 (fun z => e z.2), if_neg e, hs2]
          show hp σ 97 i (dgp (Fz σ0) x i) 97 q = _
          by_cases e' : q = i
          · rw [e', hp_r1, if_pos rfl]
          · rw [hp_r2 (fun z => e' z.2), if_neg e']
      refine ⟨100 - (i + 1), by omega, rfl, i + 1, x, by simp, by omega, rfl, ⟨by rw [hs3, hs2]; exact Fr.hp (Fr.hp hW.1 (by simp)) (by simp), fun j h1 h2 => by rw [qc 67 (by decide)]; exact hW.2 j h1 h2⟩, h0, rfl, hB, rfl, ⟨hR.1, hR.2.1, by rw [qc 96 (by decide)]; exact hR.2.2⟩, fun p hp hpN hp0 hp6 => ?_, fun q hq hall => ?_⟩
      · have ne1 : ∀ q, fHou (Fz σ0) q = 0 → ¬ q = dgp (Fz σ0) x i := fun q z y => by rw [y] at z; omega
        have hdp := hdg p hpN hp0 hp6
        by_cases e : p = i
        · rw [e, q97, q97, if_pos rfl, if_neg (ne1 i hi0), if_pos rfl]; exact ⟨rfl, rfl⟩
        · have := hl.1 p (by omega) hpN hp0 hp6
          rw [q97, q97, if_neg (ne1 p hp0), if_neg e, if_neg (hinj p i hpN (by omega) hp0 hi0 hp6 h6 (by omega)), if_neg (fun z => by have := hdp.2; rw [z] at this; omega)]
          exact this
      · have h3 := hall i (by omega) hi0 h6
        rw [q97, if_neg h3.2, if_neg h3.1]
        exact hl.2 q hq (fun p hp => hall p (by omega))
    · have h1' := Classical.not_not.mp h1
      rw [e96] at h1'
      refine ⟨100 - (i + 1), by omega, rfl, i + 1, x, by simp, by omega, rfl, hW, h0, rfl, hB, rfl, hR, fun p hp hpN hp0 hp6 => ?_, fun q hq hall => hl.2 q hq (fun p hp => hall p (by omega))⟩
      by_cases e : p = i
      · rw [e] at hp0 hp6
        rw [if_neg (by omega)] at h1'
        omega
      · exact hl.1 p (by omega) hpN hp0 hp6
def Mo_wed_I : List AV → Hp → Nat → Nat → List AV → List AV → Hp → Prop := fun as σ0 pc n st ls σ => (match as with
    | [.inr (.inr (.inl (k, 0, 9)))] => (bif Nat.beq pc 9 then (match st, ls with
      | [], [.inr (.inr (.inl (k', 0, 9))), .inl v1, .inl v2, _, _, _, _] => k = k' ∧ Mo_wed_I9 k σ0 n v1 v2 σ
      | _, _ => False) else (bif Nat.beq pc 71 then (match st, ls with
      | [], [.inr (.inr (.inl (k', 0, 9))), .inl v1, .inl v2, .inl v3, .inl v4, .inl v5, _] => k = k' ∧ Mo_wed_I71 k σ0 n v1 v2 v3 v4 v5 σ
      | _, _ => False) else (bif Nat.beq pc 135 then (match st, ls with
      | [], [.inr (.inr (.inl (k', 0, 9))), .inl v1, .inl v2, .inl v3, .inl v4, .inl v5, _] => k = k' ∧ Mo_wed_I135 k σ0 n v1 v2 v3 v4 v5 σ
      | _, _ => False) else (bif Nat.beq pc 161 then (match st, ls with
      | [], [.inr (.inr (.inl (k', 0, 9))), .inl v1, .inl v2, .inl v3, .inl v4, .inl v5, _] => k = k' ∧ Mo_wed_I161 k σ0 n v1 v2 v3 v4 v5 σ
      | _, _ => False) else False))))
    | _ => False)
def Mo_wed_ct : Nat → Ct := fun n => match n with
  | 0 => Mo_power_cs
  | 1 => Mo_layRow_cs
  | _ => Mo_wed_cs
set_option maxRecDepth 20000 in
set_option maxHeartbeats 4000000 in
theorem Mo_wed_met {l : Launch} {D : va_G} {ad : Nat → Nat} {ca : Nat → ClassId} {L : Nat} {fx : Nat → Int} : ax_MC l D ad ca L fx yX9_wed cX9_wed 7 (some .int) 2 Mo_wed_cs := by
  refine ax_met (oc := 9) (ct := Mo_wed_ct) (calls := Mo_wed_cl) (bs := Mo_wed_bk) (cut := fun pc => Nat.beq pc 9 || Nat.beq pc 71 || Nat.beq pc 135 || Nat.beq pc 161) (f := 17) (I := Mo_wed_I) (by decide) rfl rfl Mo_wed_ck (List.forall_mem_cons.mpr ⟨ax_cwS Mo_power_met (by decide) (by decide) (ax_m7 226 (by decide +kernel) rfl) Mo_power_w rfl Mo_power_ds, List.forall_mem_cons.mpr ⟨ax_cwV Mo_layRow_met (by decide) (by decide) rfl (by decide) rfl (ax_m7 229 (by decide +kernel) rfl) Mo_layRow_w rfl Mo_layRow_ds, fun _ h => absurd h List.not_mem_nil⟩⟩) ?_ ?_
  · intro as σ0 hp hH
    match as, hp with
    | [.inr (.inr (.inl (k, 0, 9)))], hp => exact ⟨rfl, Mo_wed_p k σ0 hH hp⟩
  · intro as σ0 hp n pc st ls σ hH hI
    match as, hp, hI with
    | [.inr (.inr (.inl (k, 0, 9)))], hp, hI =>
      rcases ax_bifE hI with ⟨hpc, hI⟩ | ⟨-, hI⟩
      · have := Nat.eq_of_beq_eq_true hpc
        subst this
        match st, ls, hI with
        | [], [.inr (.inr (.inl (k', 0, 9))), .inl v1, .inl v2, _, _, _, _], hI =>
          obtain ⟨rfl, hI⟩ := hI
          exact Mo_wed_p9 k σ0 hp n v1 v2 σ hH hI
      rcases ax_bifE hI with ⟨hpc, hI⟩ | ⟨-, hI⟩
      · have := Nat.eq_of_beq_eq_true hpc
        subst this
        match st, ls, hI with
        | [], [.inr (.inr (.inl (k', 0, 9))), .inl v1, .inl v2, .inl v3, .inl v4, .inl v5, _], hI =>
          obtain ⟨rfl, hI⟩ := hI
          exact Mo_wed_p71 k σ0 hp n v1 v2 v3 v4 v5 σ hH hI
      rcases ax_bifE hI with ⟨hpc, hI⟩ | ⟨-, hI⟩
      · have := Nat.eq_of_beq_eq_true hpc
        subst this
        match st, ls, hI with
        | [], [.inr (.inr (.inl (k', 0, 9))), .inl v1, .inl v2, .inl v3, .inl v4, .inl v5, _], hI =>
          obtain ⟨rfl, hI⟩ := hI
          exact Mo_wed_p135 k σ0 hp n v1 v2 v3 v4 v5 σ hH hI
      rcases ax_bifE hI with ⟨hpc, hI⟩ | ⟨-, hI⟩
      · have := Nat.eq_of_beq_eq_true hpc
        subst this
        match st, ls, hI with
        | [], [.inr (.inr (.inl (k', 0, 9))), .inl v1, .inl v2, .inl v3, .inl v4, .inl v5, _], hI =>
          obtain ⟨rfl, hI⟩ := hI
          exact Mo_wed_p161 k σ0 hp n v1 v2 v3 v4 v5 σ hH hI
      exact False.elim hI
