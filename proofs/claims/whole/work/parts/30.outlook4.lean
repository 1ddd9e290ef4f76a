-- THE OUTLOOK: spare
/-- b can spare p by taking on c -/
def spQ (F : Fam) (s : Sta) (p : Int) (m c b : Nat) : Prop := b < fN F ∧ ¬ (b : Int) = p ∧ Spd F (chg s b (c : Int)) p m
/-- the least care, the first who does; what 0: how much, else by whom -/
def SpR (F : Fam) (s : Sta) (p : Int) (m : Nat) (what r : Int) : Prop :=
  (∃ c b : Nat, c ≤ 99 ∧ spQ F s p m c b ∧ (∀ c', c' < c → ∀ b', ¬ spQ F s p m c' b') ∧ (∀ b', b' < b → ¬ spQ F s p m c b') ∧ r = if what = 0 then (c : Int) else (b : Int)) ∨ (r = -1 ∧ ∀ c, c ≤ 99 → ∀ b, ¬ spQ F s p m c b)
theorem SpR.uniq {F : Fam} {s : Sta} {p : Int} {m : Nat} {w r t : Int} (h : SpR F s p m w r) (g : SpR F s p m w t) : r = t := by
  rcases h with ⟨c, b, h1, h2, h3, h4, rfl⟩ | ⟨rfl, h1⟩ <;> rcases g with ⟨c', b', g1, g2, g3, g4, rfl⟩ | ⟨rfl, g1⟩
  · have hc : c = c' := by
      rcases Nat.lt_trichotomy c c' with h | h | h
      · exact absurd h2 (g3 c h b)
      · exact h
      · exact absurd g2 (h3 c' h b')
    subst hc
    have hb : b = b' := by
      rcases Nat.lt_trichotomy b b' with h | h | h
      · exact absurd h2 (g4 b h)
      · exact h
      · exact absurd g2 (h4 b' h)
    rw [hb]
  · exact absurd h2 (g1 c h1 b)
  · exact absurd g2 (h1 c' g1 b')
  · rfl
theorem chg_0 {s : Sta} {d : Int} (h : OKs d s) (b : Nat) : chg s b 0 = s := by
  unfold chg
  have hb := h.1 b
  have e : wth (s.1 b + 0) 99 = s.1 b := by unfold wth; omega
  rw [e]
  refine Prod.ext ?_ rfl
  funext j
  show va_up s.1 b (s.1 b) j = s.1 j
  unfold va_up
  split
  · rename_i z; rw [z]
  · rfl
theorem chg_sat {s : Sta} {b : Nat} {c e : Int} (h1 : 99 ≤ s.1 b + c) (h2 : 99 ≤ s.1 b + e) : chg s b c = chg s b e := by
  unfold chg
  have : wth (s.1 b + c) 99 = wth (s.1 b + e) 99 := by unfold wth; omega
  rw [this]
def Ou_findSpare_pre (k f q : Nat) (a n w : Int) (σ : Hp) : Prop := k = 3 ∧ q = 31 ∧ OW σ f ∧ 0 ≤ a ∧ a < (fN (famX σ f) : Int) ∧ 1 ≤ n ∧ n ≤ 20 ∧ (w = 0 ∨ w = 1)
def Ou_findSpare_post (_k f _q : Nat) (a n w : Int) (σ : Hp) (r : Int) (σ' : Hp) : Prop := Fr (sg f 4) σ σ' ∧ SpR (famX σ f) (stX σ 31) a n.toNat w r
def Ou_findSpare_I51 (_k f _q : Nat) (a n _w : Int) (σ0 : Hp) (m : Nat) (_v6 v7 : Int) (σ : Hp) : Prop := ∃ c : Nat, v7 = c ∧ 1 ≤ c ∧ c ≤ 100 ∧ m = 10 * (101 - c) + 9 ∧ Fr (sg f 4) σ0 σ ∧ ∀ c', c' < c → ∀ b', ¬ spQ (famX σ0 f) (stX σ0 31) a n.toNat c' b'
def Ou_findSpare_I61 (_k f _q : Nat) (a n _w : Int) (σ0 : Hp) (m : Nat) (_v6 v7 v8 : Int) (σ : Hp) : Prop := ∃ c b : Nat, v7 = c ∧ v8 = b ∧ 1 ≤ c ∧ c ≤ 99 ∧ b ≤ fN (famX σ0 f) ∧ m = 10 * (101 - c) + (7 - b) ∧ Fr (sg f 4) σ0 σ ∧ (∀ c', c' < c → ∀ b', ¬ spQ (famX σ0 f) (stX σ0 31) a n.toNat c' b') ∧ ∀ b', b' < b → ¬ spQ (famX σ0 f) (stX σ0 31) a n.toNat c b'
def Ou_findSpare_bk : List (Nat × List Item) := [(0, [(.aload_n 1, 1, [], []), (.getfield 50, 3, [1, 9, 0, 0, 0, 0], []), (.iconst 2, 1, [], []), (.if_icmp .ge 5, 3, [10], []), (.iconst (-1), 1, [], []), (.ireturn, 1, [], [])]),
  (10, [(.iload_n 3, 1, [], []), (.ifCond .ne 7, 3, [18], []), (.iconst 1, 1, [], []), (.goto 4, 3, [19], [])]),
  (18, [(.iconst 0, 1, [], [])]),
  (19, [(.istore 6, 2, [], []), (.aload_n 0, 1, [], []), (.aload_n 1, 1, [], []), (.aload_n 2, 1, [], []), (.iload_n 3, 1, [], []), (.iload 4, 2, [], []), (.iload 6, 2, [], []), (.iconst 0, 1, [], []), (.invokevirtual 54, 3, [0], []), (.ifCond .eq 15, 3, [48], []), (.iload 5, 2, [], []), (.ifCond .ne 7, 3, [45], []), (.iconst 0, 1, [], []), (.goto 5, 3, [47], [])]),
  (45, [(.iload 6, 2, [], [])]),
  (47, [(.ireturn, 1, [], [])]),
  (48, [(.iconst 1, 1, [], []), (.istore 7, 2, [], [])]),
  (51, [(.iload 7, 2, [], []), (.bipush 99, 2, [], []), (.if_icmp .gt 80, 3, [135], []), (.iconst 0, 1, [], []), (.istore 8, 2, [], [])]),
  (61, [(.iload 8, 2, [], []), (.aload_n 1, 1, [], []), (.getfield 50, 3, [1, 9, 0, 0, 0, 0], []), (.if_icmp .ge 62, 3, [129], []), (.iload 8, 2, [], []), (.iload_n 3, 1, [], []), (.if_icmp .eq 50, 3, [123], []), (.iload 7, 2, [], []), (.bipush 99, 2, [], []), (.aload_n 2, 1, [], []), (.getfield 58, 3, [7, 0, 4, 1, 1, 6], []), (.iload 8, 2, [], []), (.iaload, 1, [], []), (.isub, 1, [], []), (.if_icmp .le 6, 3, [94], []), (.goto 32, 3, [123], [])]),
  (94, [(.aload_n 0, 1, [], []), (.aload_n 1, 1, [], []), (.aload_n 2, 1, [], []), (.iload_n 3, 1, [], []), (.iload 4, 2, [], []), (.iload 8, 2, [], []), (.iload 7, 2, [], []), (.invokevirtual 54, 3, [0], []), (.ifCond .eq 16, 3, [123], []), (.iload 5, 2, [], []), (.ifCond .ne 8, 3, [120], []), (.iload 7, 2, [], []), (.goto 5, 3, [122], [])]),
  (120, [(.iload 8, 2, [], [])]),
  (122, [(.ireturn, 1, [], [])]),
  (123, [(.iinc 8 1, 3, [], []), (.goto (-65), 3, [61], [])]),
  (129, [(.iinc 7 1, 3, [], []), (.goto (-81), 3, [51], [])]),
  (135, [(.iconst (-1), 1, [], []), (.ireturn, 1, [], [])])]
def Ou_findSpare_cl : List (Instr × Nat) := [(.invokevirtual 54, 0)]
set_option maxRecDepth 20000 in
theorem Ou_findSpare_ck : Ou_findSpare_bk.all (fun b => ax_chB 4 9 cX4_findSpare Ou_findSpare_cl b.1 b.2) = true := by decide +kernel
def Ou_findSpare_cs : Ct := (6, 5, 1, (0, 0), fun as σ => (match as with
    | [.inr (.inr (.inl (k, 0, 4))), .inr (.inr (.inl (q1, 0, 1))), .inr (.inr (.inl (q2, 0, 7))), .inl a3, .inl a4, .inl a5] => Ou_findSpare_pre k q1 q2 a3 a4 a5 σ
    | _ => False), fun as σ r σ' => (match as with
    | [.inr (.inr (.inl (k, 0, 4))), .inr (.inr (.inl (q1, 0, 1))), .inr (.inr (.inl (q2, 0, 7))), .inl a3, .inl a4, .inl a5] => Ou_findSpare_post k q1 q2 a3 a4 a5 σ r σ'
    | _ => False))
theorem Ou_findSpare_w : ∀ w ∈ ([.instanceMethod yX4_findSpare, .selects yX4_findSpare.cls yX4_findSpare yX4_findSpare, .initialized yX4_findSpare.cls, .code yX4_findSpare cX4_findSpare 9 (some .int)] : List Cond), w ∈ ax_tb := ax_w4 (ax_m4 106 (by decide +kernel) rfl) (ax_m4 107 (by decide +kernel) rfl) (ax_m1 3 (by decide +kernel) rfl) (ax_m4 108 (by decide +kernel) rfl)
theorem Ou_findSpare_ds : yX4_findSpare.cls ≠ "java/lang/invoke/MethodHandle" ∧ yX4_findSpare.cls ≠ "java/lang/invoke/VarHandle" ∧ (parseMethodDescriptor yX4_findSpare.desc).map (fun d => d.parameters.length) = some 5 := by decide +kernel
def Ou_findSpare_vc : Prop := ∀ (k : Nat) (q1 : Nat) (q2 : Nat) (a3 : Int) (a4 : Int) (a5 : Int) (σ : Hp), ax_H σ → Ou_findSpare_pre k q1 q2 a3 a4 a5 σ →
  (2 ≤ σ q1 9 →
    (¬ a3 = 0 →
      Ou_isSpared_pre k q1 q2 a3 a4 0 0 σ ∧
      ∀ (r2 : Int) (σ1 : Hp), Ou_isSpared_post k q1 q2 a3 a4 0 0 σ r2 σ1 →
      (r2 = 0 →
        ∃ n' : Nat, k = k ∧ q1 = q1 ∧ q2 = q2 ∧ a3 = a3 ∧ a4 = a4 ∧ a5 = a5 ∧ Ou_findSpare_I51 k q1 q2 a3 a4 a5 σ n' 0 1 σ1) ∧
      (¬ (r2 = 0) →
        (¬ a5 = 0 →
          Ou_findSpare_post k q1 q2 a3 a4 a5 σ 0 σ1) ∧
        (¬ (¬ a5 = 0) →
          Ou_findSpare_post k q1 q2 a3 a4 a5 σ 0 σ1))) ∧
    (¬ (¬ a3 = 0) →
      Ou_isSpared_pre k q1 q2 a3 a4 1 0 σ ∧
      ∀ (r4 : Int) (σ3 : Hp), Ou_isSpared_post k q1 q2 a3 a4 1 0 σ r4 σ3 →
      (r4 = 0 →
        ∃ n' : Nat, k = k ∧ q1 = q1 ∧ q2 = q2 ∧ a3 = a3 ∧ a4 = a4 ∧ a5 = a5 ∧ Ou_findSpare_I51 k q1 q2 a3 a4 a5 σ n' 1 1 σ3) ∧
      (¬ (r4 = 0) →
        (¬ a5 = 0 →
          Ou_findSpare_post k q1 q2 a3 a4 a5 σ 1 σ3) ∧
        (¬ (¬ a5 = 0) →
          Ou_findSpare_post k q1 q2 a3 a4 a5 σ 0 σ3)))) ∧
  (¬ (2 ≤ σ q1 9) →
    Ou_findSpare_post k q1 q2 a3 a4 a5 σ (-1) σ)
def Ou_findSpare_vc51 : Prop := ∀ (k : Nat) (q1 : Nat) (q2 : Nat) (a3 : Int) (a4 : Int) (a5 : Int) (σ0 : Hp), Ou_findSpare_pre k q1 q2 a3 a4 a5 σ0 → ∀ (n : Nat) (v6 : Int) (v7 : Int) (σ : Hp), ax_H σ → Ou_findSpare_I51 k q1 q2 a3 a4 a5 σ0 n v6 v7 σ →
  (99 < v7 →
    Ou_findSpare_post k q1 q2 a3 a4 a5 σ0 (-1) σ) ∧
  (¬ (99 < v7) →
    ∃ n' : Nat, n' < n ∧ k = k ∧ q1 = q1 ∧ q2 = q2 ∧ a3 = a3 ∧ a4 = a4 ∧ a5 = a5 ∧ Ou_findSpare_I61 k q1 q2 a3 a4 a5 σ0 n' v6 v7 0 σ)
def Ou_findSpare_vc61 : Prop := ∀ (k : Nat) (q1 : Nat) (q2 : Nat) (a3 : Int) (a4 : Int) (a5 : Int) (σ0 : Hp), Ou_findSpare_pre k q1 q2 a3 a4 a5 σ0 → ∀ (n : Nat) (v6 : Int) (v7 : Int) (v8 : Int) (σ : Hp), ax_H σ → Ou_findSpare_I61 k q1 q2 a3 a4 a5 σ0 n v6 v7 v8 σ →
  (σ q1 9 ≤ v8 →
    ∃ n' : Nat, n' < n ∧ k = k ∧ q1 = q1 ∧ q2 = q2 ∧ a3 = a3 ∧ a4 = a4 ∧ a5 = a5 ∧ Ou_findSpare_I51 k q1 q2 a3 a4 a5 σ0 n' v6 (wr (v7 + 1)) σ) ∧
  (¬ (σ q1 9 ≤ v8) →
    (v8 = a3 →
      ∃ n' : Nat, n' < n ∧ k = k ∧ q1 = q1 ∧ q2 = q2 ∧ a3 = a3 ∧ a4 = a4 ∧ a5 = a5 ∧ Ou_findSpare_I61 k q1 q2 a3 a4 a5 σ0 n' v6 v7 (wr (v8 + 1)) σ) ∧
    (¬ (v8 = a3) →
      (0 ≤ v8 ∧ v8 < 6) ∧
      (v7 ≤ wr (99 - (σ (q2 + 1) v8.toNat)) →
        Ou_isSpared_pre k q1 q2 a3 a4 v8 v7 σ ∧
        ∀ (r2 : Int) (σ1 : Hp), Ou_isSpared_post k q1 q2 a3 a4 v8 v7 σ r2 σ1 →
        (r2 = 0 →
          ∃ n' : Nat, n' < n ∧ k = k ∧ q1 = q1 ∧ q2 = q2 ∧ a3 = a3 ∧ a4 = a4 ∧ a5 = a5 ∧ Ou_findSpare_I61 k q1 q2 a3 a4 a5 σ0 n' v6 v7 (wr (v8 + 1)) σ1) ∧
        (¬ (r2 = 0) →
          (¬ a5 = 0 →
            Ou_findSpare_post k q1 q2 a3 a4 a5 σ0 v8 σ1) ∧
          (¬ (¬ a5 = 0) →
            Ou_findSpare_post k q1 q2 a3 a4 a5 σ0 v7 σ1))) ∧
      (¬ (v7 ≤ wr (99 - (σ (q2 + 1) v8.toNat))) →
        ∃ n' : Nat, n' < n ∧ k = k ∧ q1 = q1 ∧ q2 = q2 ∧ a3 = a3 ∧ a4 = a4 ∧ a5 = a5 ∧ Ou_findSpare_I61 k q1 q2 a3 a4 a5 σ0 n' v6 v7 (wr (v8 + 1)) σ)))
theorem Ou_findSpare_p : Ou_findSpare_vc := by
  intro k f q a n w σ hH hp
  obtain ⟨rfl, rfl, hW, a0, aN, n0, n6, hw⟩ := hp
  have e9 := hW.2.1.e9
  have hn6 := hW.2.1.n6
  rw [e9]
  have key : ∀ (b : Nat), b < fN (famX σ f) → ¬ (b : Int) = a → (∀ b', b' < b → (b' : Int) = a) →
      Ou_isSpared_pre 3 f 31 a n b 0 σ ∧ ∀ (r2 : Int) (σ1 : Hp), Ou_isSpared_post 3 f 31 a n b 0 σ r2 σ1 →
      (r2 = 0 → ∃ n' : Nat, (3 : Nat) = 3 ∧ f = f ∧ (31 : Nat) = 31 ∧ a = a ∧ n = n ∧ w = w ∧ Ou_findSpare_I51 3 f 31 a n w σ n' b 1 σ1) ∧
      (¬ (r2 = 0) → (¬ w = 0 → Ou_findSpare_post 3 f 31 a n w σ b σ1) ∧ (¬ (¬ w = 0) → Ou_findSpare_post 3 f 31 a n w σ 0 σ1)) := by
    intro b hb hba hfirst
    refine ⟨⟨rfl, rfl, hW, by omega, by omega, by omega, by omega, by decide, by decide⟩, ?_⟩
    rintro r2 σ1 ⟨hf1, hr⟩
    have ec : ∀ b' : Nat, chg (stX σ 31) b' 0 = stX σ 31 := fun b' => chg_0 hW.2.2.1 b'
    rw [ec] at hr
    refine ⟨fun h => ⟨1009, rfl, rfl, rfl, rfl, rfl, rfl, 1, rfl, by omega, by omega, rfl, hf1, ?_⟩, fun h => ?_⟩
    · rcases hr with ⟨z, -⟩ | ⟨-, hr⟩
      · omega
      · intro c' hc' b' hq
        have : c' = 0 := by omega
        subst this
        have h3 : Spd (famX σ f) (chg (stX σ 31) b' ((0 : Nat) : Int)) a n.toNat := hq.2.2
        rw [show ((0 : Nat) : Int) = 0 from rfl, ec] at h3
        exact hr h3
    · rcases hr with ⟨-, hr⟩ | ⟨z, -⟩
      · have hres : ∀ r : Int, r = (if w = 0 then ((0 : Nat) : Int) else (b : Int)) → Ou_findSpare_post 3 f 31 a n w σ r σ1 := by
          intro r hrr
          refine ⟨hf1, Or.inl ⟨0, b, by omega, ⟨hb, hba, ?_⟩, fun c' hc' => absurd hc' (Nat.not_lt_zero c'), fun b' hb' hq => hq.2.1 (hfirst b' hb'), hrr⟩⟩
          rw [show ((0 : Nat) : Int) = 0 from rfl, ec]
          exact hr
        exact ⟨fun h2 => hres _ (by rw [if_neg h2]), fun h2 => hres _ (by rw [if_pos (Classical.not_not.mp h2)]; rfl)⟩
      · exact absurd z h
  refine ⟨fun h => ⟨fun h2 => key 0 (by omega) (by omega) (fun b' hb' => absurd hb' (Nat.not_lt_zero b')), fun h2 => key 1 (by omega) (by omega) (fun b' hb' => by omega)⟩, fun h => ⟨Fr.rf, Or.inr ⟨rfl, fun c _ b hq => ?_⟩⟩⟩
  have := hq.1
  have := hq.2.1
  omega
theorem Ou_findSpare_p51 : Ou_findSpare_vc51 := by
  intro k f q a n w σ0 hp m v6 v7 σ hH hI
  obtain ⟨c, rfl, h1, h2, rfl, hf, hno⟩ := hI
  refine ⟨fun h => ⟨hf, Or.inr ⟨rfl, fun c' hc' => hno c' (by omega)⟩⟩, fun h => ⟨10 * (101 - c) + 7, by omega, rfl, rfl, rfl, rfl, rfl, rfl, c, 0, rfl, rfl, h1, by omega, Nat.zero_le _, rfl, hf, hno, fun b' hb' => absurd hb' (Nat.not_lt_zero b')⟩⟩
theorem Ou_findSpare_p61 : Ou_findSpare_vc61 := by
  intro k f q a n w σ0 hp m v6 v7 v8 σ hH hI
  obtain ⟨rfl, rfl, hW, a0, aN, n0, n6, hw⟩ := hp
  obtain ⟨c, b, rfl, rfl, h1, h2, hb, rfl, hf, hno, hnb⟩ := hI
  obtain ⟨hW1, hfam, hnow⟩ := hW.keep hf (fun c hc => Or.inl hc)
  have e9 := hW1.2.1.e9
  rw [hfam] at e9
  have hn6 := hW.2.1.n6
  have hst : stX σ 31 = stX σ0 31 := stX_eq hnow
  rw [e9]
  have go : ∀ (σ2 : Hp), b < fN (famX σ0 f) → Fr (sg f 4) σ0 σ2 → ¬ spQ (famX σ0 f) (stX σ0 31) a n.toNat c b →
      ∃ n' : Nat, n' < 10 * (101 - c) + (7 - b) ∧ (3 : Nat) = 3 ∧ f = f ∧ (31 : Nat) = 31 ∧ a = a ∧ n = n ∧ w = w ∧ Ou_findSpare_I61 3 f 31 a n w σ0 n' v6 c ((b : Int) + 1) σ2 := by
    intro σ2 h0 hf2 hq
    refine ⟨10 * (101 - c) + (7 - (b + 1)), by omega, rfl, rfl, rfl, rfl, rfl, rfl, c, b + 1, rfl, by simp, h1, h2, by omega, rfl, hf2, hno, ?_⟩
    intro b' hb'
    by_cases hbb : b' = b
    · subst hbb; exact hq
    · exact hnb b' (by omega)
  refine ⟨fun h => ?_, fun h => ⟨fun h3 => ?_, fun h3 => ⟨⟨by omega, by omega⟩, ?_⟩⟩⟩
  · rw [wr1 (by omega) (by omega)]
    refine ⟨10 * (101 - (c + 1)) + 9, by omega, rfl, rfl, rfl, rfl, rfl, rfl, c + 1, by simp, by omega, by omega, rfl, hf, ?_⟩
    intro c' hc' b' hq
    by_cases hcc : c' = c
    · subst hcc; exact hnb b' (by have := hq.1; omega) hq
    · exact hno c' (by omega) b' hq
  · rw [wr1 (by omega) (by omega)]
    exact go σ (by omega) hf (fun hq => hq.2.1 h3)
  · have hcR := hW.2.2.1.1 b
    have ec : σ (31 + 1) (b : Int).toNat = (stX σ0 31).1 b := by
      rw [← hst, Int.toNat_natCast]; exact (tr_in (by omega)).symm
    rw [ec, wr1 (by omega) (by omega), show wr (99 - (stX σ0 31).1 b) = 99 - (stX σ0 31).1 b from wr_id (by omega) (by omega)]
    refine ⟨fun h4 => ⟨⟨rfl, rfl, hW1, by omega, by omega, by omega, by omega, by omega, by omega⟩, ?_⟩, fun h4 => go σ (by omega) hf (fun hq => ?_)⟩
    · rintro r2 σ1 ⟨hf1, hr⟩
      rw [hfam, hst, Int.toNat_natCast] at hr
      refine ⟨fun h5 => go σ1 (by omega) (hf.tr hf1) (fun hq => ?_), fun h5 => ?_⟩
      · rcases hr with ⟨z, -⟩ | ⟨-, hr⟩
        · omega
        · exact hr hq.2.2
      · rcases hr with ⟨-, hr⟩ | ⟨z, -⟩
        · have hres : ∀ r : Int, r = (if w = 0 then (c : Int) else (b : Int)) → Ou_findSpare_post 3 f 31 a n w σ0 r σ1 := fun r hrr =>
            ⟨hf.tr hf1, Or.inl ⟨c, b, h2, ⟨by omega, h3, hr⟩, hno, hnb, hrr⟩⟩
          exact ⟨fun h6 => hres _ (by rw [if_neg h6]), fun h6 => hres _ (by rw [if_pos (Classical.not_not.mp h6)])⟩
        · exact absurd z h5
    · have hq3 := hq.2.2
      rw [chg_sat (e := ((99 - (stX σ0 31).1 b).toNat : Int)) (by omega) (by omega)] at hq3
      exact hno (99 - (stX σ0 31).1 b).toNat (by omega) b ⟨hq.1, hq.2.1, hq3⟩
def Ou_findSpare_I : List AV → Hp → Nat → Nat → List AV → List AV → Hp → Prop := fun as σ0 pc n st ls σ => (match as with
    | [.inr (.inr (.inl (k, 0, 4))), .inr (.inr (.inl (q1, 0, 1))), .inr (.inr (.inl (q2, 0, 7))), .inl a3, .inl a4, .inl a5] => (bif Nat.beq pc 51 then (match st, ls with
      | [], [.inr (.inr (.inl (k', 0, 4))), .inr (.inr (.inl (q1', 0, 1))), .inr (.inr (.inl (q2', 0, 7))), .inl a3', .inl a4', .inl a5', .inl v6, .inl v7, _] => k = k' ∧ q1 = q1' ∧ q2 = q2' ∧ a3 = a3' ∧ a4 = a4' ∧ a5 = a5' ∧ Ou_findSpare_I51 k q1 q2 a3 a4 a5 σ0 n v6 v7 σ
      | _, _ => False) else (bif Nat.beq pc 61 then (match st, ls with
      | [], [.inr (.inr (.inl (k', 0, 4))), .inr (.inr (.inl (q1', 0, 1))), .inr (.inr (.inl (q2', 0, 7))), .inl a3', .inl a4', .inl a5', .inl v6, .inl v7, .inl v8] => k = k' ∧ q1 = q1' ∧ q2 = q2' ∧ a3 = a3' ∧ a4 = a4' ∧ a5 = a5' ∧ Ou_findSpare_I61 k q1 q2 a3 a4 a5 σ0 n v6 v7 v8 σ
      | _, _ => False) else False))
    | _ => False)
def Ou_findSpare_ct : Nat → Ct := fun n => match n with
  | 0 => Ou_isSpared_cs
  | _ => Ou_findSpare_cs
set_option maxRecDepth 20000 in
set_option maxHeartbeats 4000000 in
theorem Ou_findSpare_met {l : Launch} {D : va_G} {ad : Nat → Nat} {ca : Nat → ClassId} {L : Nat} {fx : Nat → Int} : ax_MC l D ad ca L fx yX4_findSpare cX4_findSpare 9 (some .int) 7 Ou_findSpare_cs := by
  refine ax_met (oc := 4) (ct := Ou_findSpare_ct) (calls := Ou_findSpare_cl) (bs := Ou_findSpare_bk) (cut := fun pc => Nat.beq pc 51 || Nat.beq pc 61) (f := 16) (I := Ou_findSpare_I) (by decide) rfl rfl Ou_findSpare_ck (List.forall_mem_cons.mpr ⟨ax_cwV Ou_isSpared_met (by decide) (by decide) rfl (by decide) rfl (ax_m4 109 (by decide +kernel) rfl) Ou_isSpared_w rfl Ou_isSpared_ds, fun _ h => absurd h List.not_mem_nil⟩) ?_ ?_
  · intro as σ0 hp hH
    match as, hp with
    | [.inr (.inr (.inl (k, 0, 4))), .inr (.inr (.inl (q1, 0, 1))), .inr (.inr (.inl (q2, 0, 7))), .inl a3, .inl a4, .inl a5], hp => exact ⟨rfl, Ou_findSpare_p k q1 q2 a3 a4 a5 σ0 hH hp⟩
  · intro as σ0 hp n pc st ls σ hH hI
    match as, hp, hI with
    | [.inr (.inr (.inl (k, 0, 4))), .inr (.inr (.inl (q1, 0, 1))), .inr (.inr (.inl (q2, 0, 7))), .inl a3, .inl a4, .inl a5], hp, hI =>
      rcases ax_bifE hI with ⟨hpc, hI⟩ | ⟨-, hI⟩
      · have := Nat.eq_of_beq_eq_true hpc
        subst this
        match st, ls, hI with
        | [], [.inr (.inr (.inl (k', 0, 4))), .inr (.inr (.inl (q1', 0, 1))), .inr (.inr (.inl (q2', 0, 7))), .inl a3', .inl a4', .inl a5', .inl v6, .inl v7, _], hI =>
          obtain ⟨rfl, rfl, rfl, rfl, rfl, rfl, hI⟩ := hI
          exact Ou_findSpare_p51 k q1 q2 a3 a4 a5 σ0 hp n v6 v7 σ hH hI
      rcases ax_bifE hI with ⟨hpc, hI⟩ | ⟨-, hI⟩
      · have := Nat.eq_of_beq_eq_true hpc
        subst this
        match st, ls, hI with
        | [], [.inr (.inr (.inl (k', 0, 4))), .inr (.inr (.inl (q1', 0, 1))), .inr (.inr (.inl (q2', 0, 7))), .inl a3', .inl a4', .inl a5', .inl v6, .inl v7, .inl v8], hI =>
          obtain ⟨rfl, rfl, rfl, rfl, rfl, rfl, hI⟩ := hI
          exact Ou_findSpare_p61 k q1 q2 a3 a4 a5 σ0 hp n v6 v7 v8 σ hH hI
      exact False.elim hI
