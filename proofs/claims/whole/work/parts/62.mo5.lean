-- THE MODEL: spare, easing, nights, returns, peace, burden, calm, law, path
theorem MP.fr {σ σ' : Hp} (h : MP σ) (hf : Fr af σ σ') : MP σ' := by
  have K := mA_fr h.1 hf scm_af
  obtain ⟨d, hd⟩ := h.2
  exact ⟨K.1.1, d, by rw [K.2 d]; exact hd⟩
theorem NP.load2 {σ0 σ σ1 : Hp} (h : NP σ0) (hf : Fr af σ0 σ) (g : Mo_load_post 67 σ σ1) : AP σ1 ∧ (∀ d, famM d σ1 = famM d σ0) ∧ airM σ1 = nowM σ0 ∧ Fr af σ0 σ1 ∧ (∀ j, j < 16 → σ1 91 j = σ0 90 j) := by
  have F := h.fr hf (by simp [af])
  have L := F.1.load g
  exact ⟨L.1, fun d => by rw [L.2.1 d, F.2.1 d], by rw [L.2.2, F.2.2], hf.tr (g.1.mono (by simp [af])), fun j hj => by rw [g.2 j hj, hf 90 (by decide)]⟩
def Mo_spare_pre (k : Nat) (_a _b _c : Int) (σ : Hp) : Prop := k = 67 ∧ MP σ
def Mo_spare_post (_k : Nat) (a b c : Int) (σ : Hp) (r : Int) (σ' : Hp) : Prop := MQo σ σ' ∧ ∀ d, s_spare (mA d σ) a b c r (mA d σ')
def spA (σ0 : Hp) (a n w : Int) : Prop := (0 ≤ a ∧ a < (((σ0 67 42).toNat : Nat) : Int)) ∧ (1 ≤ n ∧ n ≤ 20) ∧ o01 w
def Mo_spare_I40 (_k : Nat) (a n w : Int) (σ0 : Hp) (m : Nat) (v4 : Int) (σ : Hp) : Prop := ∃ c : Nat, v4 = c ∧ c ≤ 100 ∧ m = 10 * (101 - c) + 9 ∧ spA σ0 a n w ∧ Fr af σ0 σ ∧ ∀ d, ∀ c', c' < c → ∀ b', ¬ spQ (famM d σ0) (nowM σ0) a n.toNat c' b'
def Mo_spare_I50 (_k : Nat) (a n w : Int) (σ0 : Hp) (m : Nat) (v4 v5 : Int) (σ : Hp) : Prop := ∃ c b : Nat, v4 = c ∧ v5 = b ∧ c ≤ 99 ∧ b ≤ (σ0 67 42).toNat ∧ m = 10 * (101 - c) + (7 - b) ∧ spA σ0 a n w ∧ Fr af σ0 σ ∧ (∀ d, ∀ c', c' < c → ∀ b', ¬ spQ (famM d σ0) (nowM σ0) a n.toNat c' b') ∧ ∀ d, ∀ b', b' < b → ¬ spQ (famM d σ0) (nowM σ0) a n.toNat c b'
def Mo_spare_bk : List (Nat × List Item) := [(0, [(.aload_n 0, 1, [], []), (.iload_n 1, 1, [], []), (.invokevirtual 398, 3, [0], []), (.ifCond .eq 30, 3, [35], []), (.aload_n 0, 1, [], []), (.getfield 304, 3, [9, 42, 0, 0, 0, 0], []), (.iconst 2, 1, [], []), (.if_icmp .lt 22, 3, [35], []), (.iload_n 2, 1, [], []), (.iconst 1, 1, [], []), (.bipush 20, 2, [], []), (.invokestatic 379, 3, [1], []), (.ifCond .eq 12, 3, [35], []), (.iload_n 3, 1, [], []), (.iconst 0, 1, [], []), (.iconst 1, 1, [], []), (.invokestatic 379, 3, [1], []), (.ifCond .ne 5, 3, [37], [])]),
  (35, [(.iconst (-1), 1, [], []), (.ireturn, 1, [], [])]),
  (37, [(.iconst 0, 1, [], []), (.istore 4, 2, [], [])]),
  (40, [(.iload 4, 2, [], []), (.bipush 99, 2, [], []), (.if_icmp .gt 83, 3, [127], []), (.iconst 0, 1, [], []), (.istore 5, 2, [], [])]),
  (50, [(.iload 5, 2, [], []), (.aload_n 0, 1, [], []), (.getfield 304, 3, [9, 42, 0, 0, 0, 0], []), (.if_icmp .ge 65, 3, [121], []), (.iload 5, 2, [], []), (.iload_n 1, 1, [], []), (.if_icmp .ne 6, 3, [68], []), (.goto 50, 3, [115], [])]),
  (68, [(.aload_n 0, 1, [], []), (.invokevirtual 401, 3, [2], []), (.aload_n 0, 1, [], []), (.getfield 88, 3, [9, 47, 4, 24, 1, 16], []), (.iload 5, 2, [], []), (.aload_n 0, 1, [], []), (.getfield 88, 3, [9, 47, 4, 24, 1, 16], []), (.iload 5, 2, [], []), (.iaload, 1, [], []), (.iload 4, 2, [], []), (.iadd, 1, [], []), (.bipush 99, 2, [], []), (.invokestatic 386, 3, [3], []), (.iastore, 1, [], []), (.aload_n 0, 1, [], []), (.iload_n 1, 1, [], []), (.iload_n 2, 1, [], []), (.invokevirtual 441, 3, [4], []), (.ifCond .eq 15, 3, [115], []), (.iload_n 3, 1, [], []), (.ifCond .ne 8, 3, [112], []), (.iload 4, 2, [], []), (.goto 5, 3, [114], [])]),
  (112, [(.iload 5, 2, [], [])]),
  (114, [(.ireturn, 1, [], [])]),
  (115, [(.iinc 5 1, 3, [], []), (.goto (-68), 3, [50], [])]),
  (121, [(.iinc 4 1, 3, [], []), (.goto (-84), 3, [40], [])]),
  (127, [(.iconst (-1), 1, [], []), (.ireturn, 1, [], [])])]
def Mo_spare_cl : List (Instr × Nat) := [(.invokevirtual 398, 0), (.invokestatic 379, 1), (.invokevirtual 401, 2), (.invokestatic 386, 3), (.invokevirtual 441, 4)]
set_option maxRecDepth 20000 in
theorem Mo_spare_ck : Mo_spare_bk.all (fun b => ax_chB 9 6 cX9_spare Mo_spare_cl b.1 b.2) = true := by decide +kernel
def Mo_spare_cs : Ct := (4, 10, 1, (0, 0), fun as σ => (match as with
    | [.inr (.inr (.inl (k, 0, 9))), .inl a1, .inl a2, .inl a3] => Mo_spare_pre k a1 a2 a3 σ
    | _ => False), fun as σ r σ' => (match as with
    | [.inr (.inr (.inl (k, 0, 9))), .inl a1, .inl a2, .inl a3] => Mo_spare_post k a1 a2 a3 σ r σ'
    | _ => False))
theorem Mo_spare_w : ∀ w ∈ ([.instanceMethod yX9_spare, .selects yX9_spare.cls yX9_spare yX9_spare, .initialized yX9_spare.cls, .code yX9_spare cX9_spare 6 (some .int)] : List Cond), w ∈ ax_tb := ax_w4 (ax_m7 198 (by decide +kernel) rfl) (ax_m7 199 (by decide +kernel) rfl) (ax_m1 10 (by decide +kernel) rfl) (ax_m7 200 (by decide +kernel) rfl)
theorem Mo_spare_ds : yX9_spare.cls ≠ "java/lang/invoke/MethodHandle" ∧ yX9_spare.cls ≠ "java/lang/invoke/VarHandle" ∧ (parseMethodDescriptor yX9_spare.desc).map (fun d => d.parameters.length) = some 3 := by decide +kernel
def Mo_spare_vc : Prop := ∀ (k : Nat) (a1 : Int) (a2 : Int) (a3 : Int) (σ : Hp), ax_H σ → Mo_spare_pre k a1 a2 a3 σ →
  Mo_isPerson_pre k a1 σ ∧
  ∀ (r2 : Int) (σ1 : Hp), Mo_isPerson_post k a1 σ r2 σ1 →
  (r2 = 0 →
    Mo_spare_post k a1 a2 a3 σ (-1) σ1) ∧
  (¬ (r2 = 0) →
    (σ1 k 42 < 2 →
      Mo_spare_post k a1 a2 a3 σ (-1) σ1) ∧
    (¬ (σ1 k 42 < 2) →
      Mo_isIn_pre a2 1 20 σ1 ∧
      ∀ (r4 : Int) (σ3 : Hp), Mo_isIn_post a2 1 20 σ1 r4 σ3 →
      (r4 = 0 →
        Mo_spare_post k a1 a2 a3 σ (-1) σ3) ∧
      (¬ (r4 = 0) →
        Mo_isIn_pre a3 0 1 σ3 ∧
        ∀ (r6 : Int) (σ5 : Hp), Mo_isIn_post a3 0 1 σ3 r6 σ5 →
        (¬ r6 = 0 →
          ∃ n' : Nat, k = k ∧ a1 = a1 ∧ a2 = a2 ∧ a3 = a3 ∧ Mo_spare_I40 k a1 a2 a3 σ n' 0 σ5) ∧
        (¬ (¬ r6 = 0) →
          Mo_spare_post k a1 a2 a3 σ (-1) σ5))))
def Mo_spare_vc40 : Prop := ∀ (k : Nat) (a1 : Int) (a2 : Int) (a3 : Int) (σ0 : Hp), Mo_spare_pre k a1 a2 a3 σ0 → ∀ (n : Nat) (v4 : Int) (σ : Hp), ax_H σ → Mo_spare_I40 k a1 a2 a3 σ0 n v4 σ →
  (99 < v4 →
    Mo_spare_post k a1 a2 a3 σ0 (-1) σ) ∧
  (¬ (99 < v4) →
    ∃ n' : Nat, n' < n ∧ k = k ∧ a1 = a1 ∧ a2 = a2 ∧ a3 = a3 ∧ Mo_spare_I50 k a1 a2 a3 σ0 n' v4 0 σ)
def Mo_spare_vc50 : Prop := ∀ (k : Nat) (a1 : Int) (a2 : Int) (a3 : Int) (σ0 : Hp), Mo_spare_pre k a1 a2 a3 σ0 → ∀ (n : Nat) (v4 : Int) (v5 : Int) (σ : Hp), ax_H σ → Mo_spare_I50 k a1 a2 a3 σ0 n v4 v5 σ →
  (σ k 42 ≤ v5 →
    ∃ n' : Nat, n' < n ∧ k = k ∧ a1 = a1 ∧ a2 = a2 ∧ a3 = a3 ∧ Mo_spare_I40 k a1 a2 a3 σ0 n' (wr (v4 + 1)) σ) ∧
  (¬ (σ k 42 ≤ v5) →
    (¬ v5 = a1 →
      Mo_load_pre k σ ∧
      ∀ σ1 : Hp, Mo_load_post k σ σ1 →
      (0 ≤ v5 ∧ v5 < 16) ∧
      Mo_within_pre (wr ((σ1 (k + 24) v5.toNat) + v4)) 99 σ1 ∧
      ∀ (r3 : Int) (σ2 : Hp), Mo_within_post (wr ((σ1 (k + 24) v5.toNat) + v4)) 99 σ1 r3 σ2 →
      (0 ≤ v5 ∧ v5 < 16) ∧
      ∀ σ4 : Hp, σ4 = hp σ2 (k + 24) v5.toNat r3 →
      Mo_isSpared_pre k a1 a2 σ4 ∧
      ∀ (r6 : Int) (σ5 : Hp), Mo_isSpared_post k a1 a2 σ4 r6 σ5 →
      (r6 = 0 →
        ∃ n' : Nat, n' < n ∧ k = k ∧ a1 = a1 ∧ a2 = a2 ∧ a3 = a3 ∧ Mo_spare_I50 k a1 a2 a3 σ0 n' v4 (wr (v5 + 1)) σ5) ∧
      (¬ (r6 = 0) →
        (¬ a3 = 0 →
          Mo_spare_post k a1 a2 a3 σ0 v5 σ5) ∧
        (¬ (¬ a3 = 0) →
          Mo_spare_post k a1 a2 a3 σ0 v4 σ5))) ∧
    (¬ (¬ v5 = a1) →
      ∃ n' : Nat, n' < n ∧ k = k ∧ a1 = a1 ∧ a2 = a2 ∧ a3 = a3 ∧ Mo_spare_I50 k a1 a2 a3 σ0 n' v4 (wr (v5 + 1)) σ))
theorem Mo_spare_p : Mo_spare_vc := by
  intro k a n w σ hH hp
  obtain ⟨rfl, hP⟩ := hp
  have hn := hP.n6
  refine ⟨⟨rfl, hn⟩, ?_⟩
  rintro r2 σ1 ⟨rfl, rfl⟩
  refine ⟨fun h => om0 hP.1 (fun d => ?_), fun h => ?_⟩
  · show if _ then _ else _; rw [if_neg (fun z => ite0 h z.1)]
  have h1 := ite1 h
  refine ⟨fun h2 => om0 hP.1 (fun d => ?_), fun h2 => ⟨trivial, ?_⟩⟩
  · show if _ then _ else _
    split
    · refine Or.inr ⟨rfl, fun c _ b hq => ?_⟩
      have hb : b < (σ1 67 42).toNat := hq.1
      have := hq.2.1
      omega
    · rfl
  rintro r4 σ3 ⟨rfl, rfl⟩
  refine ⟨fun h3 => om0 hP.1 (fun d => ?_), fun h3 => ⟨trivial, ?_⟩⟩
  · show if _ then _ else _; rw [if_neg (fun z => ite0 h3 z.2.1)]
  have h3' := ite1 h3
  rintro r6 σ5 ⟨rfl, rfl⟩
  refine ⟨fun h4 => ?_, fun h4 => om0 hP.1 (fun d => ?_)⟩
  · have h4' := ite1 h4
    exact ⟨1019, rfl, rfl, rfl, rfl, 0, rfl, by omega, rfl, ⟨h1, h3', by omega⟩, Fr.rf, fun d c' hc' => absurd hc' (Nat.not_lt_zero c')⟩
  · have h4' := ite0' h4
    show if _ then _ else _; rw [if_neg (fun z => h4' (by have := z.2.2; omega))]
theorem spA.pos {σ0 : Hp} {a n w : Int} {d : Int} (h : spA σ0 a n w) : isP (mA d σ0) a ∧ (1 ≤ n ∧ n ≤ 20) ∧ o01 w := h
theorem Mo_spare_p40 : Mo_spare_vc40 := by
  intro k a n w σ0 hp m v4 σ hH hI
  obtain ⟨rfl, hP⟩ := hp
  obtain ⟨c, rfl, hc, rfl, hS, hf, hno⟩ := hI
  refine ⟨fun h => om1 hP.1 hf scm_af (fun d => ?_), fun h => ⟨10 * (101 - c) + 7, by omega, rfl, rfl, rfl, rfl, c, 0, rfl, rfl, by omega, Nat.zero_le _, rfl, hS, hf, hno, fun d b' hb' => absurd hb' (Nat.not_lt_zero b')⟩⟩
  show if _ then _ else _
  rw [if_pos (spA.pos (d := d) hS)]
  exact Or.inr ⟨rfl, fun c' hc' => hno d c' (by omega)⟩
theorem Mo_spare_p50 : Mo_spare_vc50 := by
  intro k a n w σ0 hp m v4 v5 σ hH hI
  obtain ⟨rfl, hP⟩ := hp
  obtain ⟨c, b, rfl, rfl, hc, hb, rfl, hS, hf, hno, hnb⟩ := hI
  have hn := hP.n6
  have e67 : σ 67 = σ0 67 := hf 67 (by decide)
  have hN := hP.np
  rw [e67]
  have go : ∀ (σ2 : Hp), b < (σ0 67 42).toNat → Fr af σ0 σ2 → (∀ d, ¬ spQ (famM d σ0) (nowM σ0) a n.toNat c b) →
      ∃ n' : Nat, n' < 10 * (101 - c) + (7 - b) ∧ (67 : Nat) = 67 ∧ a = a ∧ n = n ∧ w = w ∧ Mo_spare_I50 67 a n w σ0 n' c ((b : Int) + 1) σ2 := by
    intro σ2 h0 hf2 hq
    refine ⟨10 * (101 - c) + (7 - (b + 1)), by omega, rfl, rfl, rfl, rfl, c, b + 1, rfl, by simp, hc, by omega, rfl, hS, hf2, hno, fun d b' hb' => ?_⟩
    by_cases hbb : b' = b
    · subst hbb; exact hq d
    · exact hnb d b' (by omega)
  refine ⟨fun h => ?_, fun h => ⟨fun h2 => ⟨rfl, ?_⟩, fun h2 => ?_⟩⟩
  · rw [wr1 (by omega) (by omega)]
    refine ⟨10 * (101 - (c + 1)) + 9, by omega, rfl, rfl, rfl, rfl, c + 1, by simp, by omega, rfl, hS, hf, fun d c' hc' b' hq => ?_⟩
    by_cases hcc : c' = c
    · subst hcc
      have hb' : b' < (σ0 67 42).toNat := hq.1
      exact hnb d b' (by omega) hq
    · exact hno d c' (by omega) b' hq
  · intro σ1 g
    obtain ⟨L1, L2, L3, L4, L5⟩ := hN.load2 hf g
    refine ⟨⟨by omega, by omega⟩, by show (0 : Int) ≤ 99; decide, ?_⟩
    rw [wr1 (by omega) (by omega), Int.toNat_natCast]
    rintro r3 σ2 ⟨rfl, rfl⟩
    have e0 : σ2 (67 + 24) b = (nowM σ0).1 b := by rw [← L3]; exact (air_c (by omega)).symm
    have hcR := hN.2.1.1 b
    rw [e0, wr_id (by omega) (by omega)]
    refine ⟨⟨by omega, by omega⟩, ?_⟩
    rintro σ4 rfl
    have U := L1.up (b := b) (v := wth ((nowM σ0).1 b + (c : Int)) 99) (by rw [L4 67 (by decide)]; omega) (wth_R _ 99 (by decide))
    have ea : airM (hp σ2 91 b (wth ((nowM σ0).1 b + (c : Int)) 99)) = chg (nowM σ0) b c := by
      rw [air_up (by omega), L3]; rfl
    have hd : (hp σ2 91 b (wth ((nowM σ0).1 b + (c : Int)) 99)) 91 14 ≤ 999 := by
      rw [hp_r2 (fun z => by omega), L5 14 (by decide)]
      exact hN.2.1.2.2.1.2
    refine ⟨⟨rfl, by have := hS.2.1; omega, by have := hS.2.1; omega, U.1, hd⟩, ?_⟩
    rintro r6 σ5 ⟨g1, g2⟩
    have g2' : (r6 = 1 ∧ ∀ d, Spd (famM d σ0) (chg (nowM σ0) b c) a n.toNat) ∨ (r6 = 0 ∧ ∀ d, ¬ Spd (famM d σ0) (chg (nowM σ0) b c) a n.toNat) := by
      rcases g2 with ⟨z, q⟩ | ⟨z, q⟩
      · left; refine ⟨z, fun d => ?_⟩
        have := q d
        rw [show famM d (hp σ2 (67 + 24) b (wth ((nowM σ0).1 b + (c : Int)) 99)) = famM d σ0 from (U.2 d).trans (L2 d), show airM (hp σ2 (67 + 24) b (wth ((nowM σ0).1 b + (c : Int)) 99)) = _ from ea] at this
        exact this
      · right; refine ⟨z, fun d => ?_⟩
        have := q d
        rw [show famM d (hp σ2 (67 + 24) b (wth ((nowM σ0).1 b + (c : Int)) 99)) = famM d σ0 from (U.2 d).trans (L2 d), show airM (hp σ2 (67 + 24) b (wth ((nowM σ0).1 b + (c : Int)) 99)) = _ from ea] at this
        exact this
    have f5 : Fr af σ0 σ5 := (Fr.hp L4 (by simp [af])).tr g1
    refine ⟨fun h5 => ?_, fun h5 => ?_⟩
    · rcases g2' with ⟨z, -⟩ | ⟨-, q⟩
      · omega
      · exact go σ5 (by omega) f5 (fun d hq => q d hq.2.2)
    · rcases g2' with ⟨-, q⟩ | ⟨z, -⟩
      · have hres : ∀ r : Int, r = (if w = 0 then (c : Int) else (b : Int)) → Mo_spare_post 67 a n w σ0 r σ5 := by
          intro r hr
          refine om1 hP.1 f5 scm_af (fun d => ?_)
          show if _ then _ else _
          rw [if_pos (spA.pos (d := d) hS)]
          exact Or.inl ⟨c, b, hc, ⟨by show b < (σ0 67 42).toNat; omega, h2, q d⟩, hno d, hnb d, hr⟩
        exact ⟨fun h6 => hres _ (by rw [if_neg h6]), fun h6 => hres _ (by rw [if_pos (Classical.not_not.mp h6)])⟩
      · exact absurd z h5
  · rw [wr1 (by omega) (by omega)]
    exact go σ (by omega) hf (fun d hq => hq.2.1 (Classical.not_not.mp h2))
def Mo_spare_I : List AV → Hp → Nat → Nat → List AV → List AV → Hp → Prop := fun as σ0 pc n st ls σ => (match as with
    | [.inr (.inr (.inl (k, 0, 9))), .inl a1, .inl a2, .inl a3] => (bif Nat.beq pc 40 then (match st, ls with
      | [], [.inr (.inr (.inl (k', 0, 9))), .inl a1', .inl a2', .inl a3', .inl v4, _] => k = k' ∧ a1 = a1' ∧ a2 = a2' ∧ a3 = a3' ∧ Mo_spare_I40 k a1 a2 a3 σ0 n v4 σ
      | _, _ => False) else (bif Nat.beq pc 50 then (match st, ls with
      | [], [.inr (.inr (.inl (k', 0, 9))), .inl a1', .inl a2', .inl a3', .inl v4, .inl v5] => k = k' ∧ a1 = a1' ∧ a2 = a2' ∧ a3 = a3' ∧ Mo_spare_I50 k a1 a2 a3 σ0 n v4 v5 σ
      | _, _ => False) else False))
    | _ => False)
def Mo_spare_ct : Nat → Ct := fun n => match n with
  | 0 => Mo_isPerson_cs
  | 1 => Mo_isIn_cs
  | 2 => Mo_load_cs
  | 3 => Mo_within_cs
  | 4 => Mo_isSpared_cs
  | _ => Mo_spare_cs
set_option maxRecDepth 20000 in
set_option maxHeartbeats 4000000 in
theorem Mo_spare_met {l : Launch} {D : va_G} {ad : Nat → Nat} {ca : Nat → ClassId} {L : Nat} {fx : Nat → Int} : ax_MC l D ad ca L fx yX9_spare cX9_spare 6 (some .int) 9 Mo_spare_cs := by
  refine ax_met (oc := 9) (ct := Mo_spare_ct) (calls := Mo_spare_cl) (bs := Mo_spare_bk) (cut := fun pc => Nat.beq pc 40 || Nat.beq pc 50) (f := 12) (I := Mo_spare_I) (by decide) rfl rfl Mo_spare_ck (List.forall_mem_cons.mpr ⟨ax_cwV Mo_isPerson_met (by decide) (by decide) rfl (by decide) rfl (ax_m7 79 (by decide +kernel) rfl) Mo_isPerson_w rfl Mo_isPerson_ds, List.forall_mem_cons.mpr ⟨ax_cwS Mo_isIn_met (by decide) (by decide) (ax_m7 83 (by decide +kernel) rfl) Mo_isIn_w rfl Mo_isIn_ds, List.forall_mem_cons.mpr ⟨ax_cwV Mo_load_met (by decide) (by decide) rfl (by decide) rfl (ax_m7 86 (by decide +kernel) rfl) Mo_load_w rfl Mo_load_ds, List.forall_mem_cons.mpr ⟨ax_cwS Mo_within_met (by decide) (by decide) (ax_m7 64 (by decide +kernel) rfl) Mo_within_w rfl Mo_within_ds, List.forall_mem_cons.mpr ⟨ax_cwV Mo_isSpared_met (by decide) (by decide) rfl (by decide) rfl (ax_m7 201 (by decide +kernel) rfl) Mo_isSpared_w rfl Mo_isSpared_ds, fun _ h => absurd h List.not_mem_nil⟩⟩⟩⟩⟩) ?_ ?_
  · intro as σ0 hp hH
    match as, hp with
    | [.inr (.inr (.inl (k, 0, 9))), .inl a1, .inl a2, .inl a3], hp => exact ⟨rfl, Mo_spare_p k a1 a2 a3 σ0 hH hp⟩
  · intro as σ0 hp n pc st ls σ hH hI
    match as, hp, hI with
    | [.inr (.inr (.inl (k, 0, 9))), .inl a1, .inl a2, .inl a3], hp, hI =>
      rcases ax_bifE hI with ⟨hpc, hI⟩ | ⟨-, hI⟩
      · have := Nat.eq_of_beq_eq_true hpc
        subst this
        match st, ls, hI with
        | [], [.inr (.inr (.inl (k', 0, 9))), .inl a1', .inl a2', .inl a3', .inl v4, _], hI =>
          obtain ⟨rfl, rfl, rfl, rfl, hI⟩ := hI
          exact Mo_spare_p40 k a1 a2 a3 σ0 hp n v4 σ hH hI
      rcases ax_bifE hI with ⟨hpc, hI⟩ | ⟨-, hI⟩
      · have := Nat.eq_of_beq_eq_true hpc
        subst this
        match st, ls, hI with
        | [], [.inr (.inr (.inl (k', 0, 9))), .inl a1', .inl a2', .inl a3', .inl v4, .inl v5], hI =>
          obtain ⟨rfl, rfl, rfl, rfl, hI⟩ := hI
          exact Mo_spare_p50 k a1 a2 a3 σ0 hp n v4 v5 σ hH hI
      exact False.elim hI
def Mo_easing_pre (k : Nat) (_a : Int) (σ : Hp) : Prop := k = 67 ∧ MP σ
def Mo_easing_post (_k : Nat) (a : Int) (σ : Hp) (r : Int) (σ' : Hp) : Prop := MQo σ σ' ∧ ∀ d, s_easing (mA d σ) a r (mA d σ')
def Mo_easing_I12 (_k : Nat) (a : Int) (σ0 : Hp) (n : Nat) (v2 : Int) (σ : Hp) : Prop := ∃ i : Nat, v2 = i ∧ (i : Int) ≤ (nowM σ0).1 a.toNat + 1 ∧ n = 200 - i ∧ (0 ≤ a ∧ a < (((σ0 67 42).toNat : Nat) : Int)) ∧ Fr af σ0 σ ∧ ∀ d, ∀ j, j < i → ¬ Spd (famM d σ0) (chg (nowM σ0) a.toNat (-(j : Int))) a 1
def Mo_easing_bk : List (Nat × List Item) := [(0, [(.aload_n 0, 1, [], []), (.iload_n 1, 1, [], []), (.invokevirtual 398, 3, [0], []), (.ifCond .ne 5, 3, [10], []), (.iconst (-1), 1, [], []), (.ireturn, 1, [], [])]),
  (10, [(.iconst 0, 1, [], []), (.istore_n 2, 1, [], [])]),
  (12, [(.iload_n 2, 1, [], []), (.aload_n 0, 1, [], []), (.getfield 85, 3, [9, 46, 4, 23, 1, 16], []), (.iload_n 1, 1, [], []), (.iaload, 1, [], []), (.if_icmp .gt 34, 3, [53], []), (.aload_n 0, 1, [], []), (.invokevirtual 401, 3, [1], []), (.aload_n 0, 1, [], []), (.getfield 88, 3, [9, 47, 4, 24, 1, 16], []), (.iload_n 1, 1, [], []), (.dup2, 1, [], []), (.iaload, 1, [], []), (.iload_n 2, 1, [], []), (.isub, 1, [], []), (.iastore, 1, [], []), (.aload_n 0, 1, [], []), (.iload_n 1, 1, [], []), (.iconst 1, 1, [], []), (.invokevirtual 441, 3, [2], []), (.ifCond .eq 5, 3, [47], []), (.iload_n 2, 1, [], []), (.ireturn, 1, [], [])]),
  (47, [(.iinc 2 1, 3, [], []), (.goto (-38), 3, [12], [])]),
  (53, [(.iconst (-1), 1, [], []), (.ireturn, 1, [], [])])]
def Mo_easing_cl : List (Instr × Nat) := [(.invokevirtual 398, 0), (.invokevirtual 401, 1), (.invokevirtual 441, 2)]
set_option maxRecDepth 20000 in
theorem Mo_easing_ck : Mo_easing_bk.all (fun b => ax_chB 9 3 cX9_easing Mo_easing_cl b.1 b.2) = true := by decide +kernel
def Mo_easing_cs : Ct := (2, 10, 1, (0, 0), fun as σ => (match as with
    | [.inr (.inr (.inl (k, 0, 9))), .inl a1] => Mo_easing_pre k a1 σ
    | _ => False), fun as σ r σ' => (match as with
    | [.inr (.inr (.inl (k, 0, 9))), .inl a1] => Mo_easing_post k a1 σ r σ'
    | _ => False))
theorem Mo_easing_w : ∀ w ∈ ([.instanceMethod yX9_easing, .selects yX9_easing.cls yX9_easing yX9_easing, .initialized yX9_easing.cls, .code yX9_easing cX9_easing 3 (some .int)] : List Cond), w ∈ ax_tb := ax_w4 (ax_m7 206 (by decide +kernel) rfl) (ax_m7 207 (by decide +kernel) rfl) (ax_m1 10 (by decide +kernel) rfl) (ax_m7 208 (by decide +kernel) rfl)
theorem Mo_easing_ds : yX9_easing.cls ≠ "java/lang/invoke/MethodHandle" ∧ yX9_easing.cls ≠ "java/lang/invoke/VarHandle" ∧ (parseMethodDescriptor yX9_easing.desc).map (fun d => d.parameters.length) = some 1 := by decide +kernel
def Mo_easing_vc : Prop := ∀ (k : Nat) (a1 : Int) (σ : Hp), ax_H σ → Mo_easing_pre k a1 σ →
  Mo_isPerson_pre k a1 σ ∧
  ∀ (r2 : Int) (σ1 : Hp), Mo_isPerson_post k a1 σ r2 σ1 →
  (¬ r2 = 0 →
    ∃ n' : Nat, k = k ∧ a1 = a1 ∧ Mo_easing_I12 k a1 σ n' 0 σ1) ∧
  (¬ (¬ r2 = 0) →
    Mo_easing_post k a1 σ (-1) σ1)
def Mo_easing_vc12 : Prop := ∀ (k : Nat) (a1 : Int) (σ0 : Hp), Mo_easing_pre k a1 σ0 → ∀ (n : Nat) (v2 : Int) (σ : Hp), ax_H σ → Mo_easing_I12 k a1 σ0 n v2 σ →
  (0 ≤ a1 ∧ a1 < 16) ∧
  (σ (k + 23) a1.toNat < v2 →
    Mo_easing_post k a1 σ0 (-1) σ) ∧
  (¬ (σ (k + 23) a1.toNat < v2) →
    Mo_load_pre k σ ∧
    ∀ σ1 : Hp, Mo_load_post k σ σ1 →
    (0 ≤ a1 ∧ a1 < 16) ∧
    (0 ≤ a1 ∧ a1 < 16) ∧
    ∀ σ2 : Hp, σ2 = hp σ1 (k + 24) a1.toNat (wr ((σ1 (k + 24) a1.toNat) - v2)) →
    Mo_isSpared_pre k a1 1 σ2 ∧
    ∀ (r4 : Int) (σ3 : Hp), Mo_isSpared_post k a1 1 σ2 r4 σ3 →
    (r4 = 0 →
      ∃ n' : Nat, n' < n ∧ k = k ∧ a1 = a1 ∧ Mo_easing_I12 k a1 σ0 n' (wr (v2 + 1)) σ3) ∧
    (¬ (r4 = 0) →
      Mo_easing_post k a1 σ0 v2 σ3))
theorem Mo_easing_p : Mo_easing_vc := by
  intro k a σ hH hp
  obtain ⟨rfl, hP⟩ := hp
  have hn := hP.n6
  refine ⟨⟨rfl, hn⟩, ?_⟩
  rintro r2 σ1 ⟨rfl, rfl⟩
  refine ⟨fun h => ?_, fun h => om0 hP.1 (fun d => ?_)⟩
  · have := hP.np.2.1.1 a.toNat
    exact ⟨200, rfl, rfl, 0, rfl, by omega, rfl, ite1 h, Fr.rf, fun d j hj => absurd hj (Nat.not_lt_zero j)⟩
  · show if _ then _ else _; rw [if_neg (show ¬ isP (mA d σ1) a from ite0' h)]
theorem Mo_easing_p12 : Mo_easing_vc12 := by
  intro k a σ0 hp n v2 σ hH hI
  obtain ⟨rfl, hP⟩ := hp
  obtain ⟨i, rfl, hi, rfl, ha, hf, hno⟩ := hI
  have hn := hP.n6
  have hN := hP.np
  have hcR := hN.2.1.1 a.toNat
  have e1 : σ (67 + 23) a.toNat = (nowM σ0).1 a.toNat := by
    rw [now_c (by omega)]
    show σ 90 a.toNat = _
    rw [hf 90 (by decide)]
  rw [e1]
  refine ⟨⟨ha.1, by omega⟩, fun h => om1 hP.1 hf scm_af (fun d => ?_), fun h => ⟨rfl, ?_⟩⟩
  · show if _ then _ else _
    rw [if_pos (show isP (mA d σ0) a from ha)]
    exact Or.inr ⟨rfl, fun j hj => hno d j (by have hj' : j < ((nowM σ0).1 a.toNat).toNat + 1 := hj; omega)⟩
  · intro σ1 g
    obtain ⟨L1, L2, L3, L4, L5⟩ := hN.load2 hf g
    have e0 : σ1 (67 + 24) a.toNat = (nowM σ0).1 a.toNat := by rw [← L3]; exact (air_c (by omega)).symm
    rw [e0, wr_id (by omega) (by omega), wr1 (by omega) (by omega)]
    refine ⟨⟨ha.1, by omega⟩, ⟨ha.1, by omega⟩, ?_⟩
    rintro σ2 rfl
    have U := L1.up (b := a.toNat) (v := (nowM σ0).1 a.toNat - i) (by rw [L4 67 (by decide)]; omega) (by omega)
    have ea : airM (hp σ1 91 a.toNat ((nowM σ0).1 a.toNat - i)) = chg (nowM σ0) a.toNat (-(i : Int)) := by
      rw [air_up (by omega), L3]
      unfold chg
      rw [show wth ((nowM σ0).1 a.toNat + -(i : Int)) 99 = (nowM σ0).1 a.toNat - i by unfold wth; omega]
    have hd : (hp σ1 91 a.toNat ((nowM σ0).1 a.toNat - i)) 91 14 ≤ 999 := by
      rw [hp_r2 (fun z => by omega), L5 14 (by decide)]
      exact hN.2.1.2.2.1.2
    refine ⟨⟨rfl, by decide, by decide, U.1, hd⟩, ?_⟩
    rintro r4 σ3 ⟨g1, g2⟩
    have cv : ∀ d, (Spd (famM d (hp σ1 (67 + 24) a.toNat ((nowM σ0).1 a.toNat - i))) (airM (hp σ1 (67 + 24) a.toNat ((nowM σ0).1 a.toNat - i))) a (1 : Int).toNat) = Spd (famM d σ0) (chg (nowM σ0) a.toNat (-(i : Int))) a 1 := by
      intro d
      rw [show famM d (hp σ1 (67 + 24) a.toNat ((nowM σ0).1 a.toNat - i)) = famM d σ0 from (U.2 d).trans (L2 d), show airM (hp σ1 (67 + 24) a.toNat ((nowM σ0).1 a.toNat - i)) = _ from ea]
      rfl
    have f3 : Fr af σ0 σ3 := (Fr.hp L4 (by simp [af])).tr g1
    refine ⟨fun h5 => ?_, fun h5 => ?_⟩
    · rcases g2 with ⟨z, -⟩ | ⟨-, q⟩
      · omega
      · refine ⟨200 - (i + 1), by omega, rfl, rfl, i + 1, by simp, by omega, rfl, ha, f3, fun d j hj => ?_⟩
        by_cases e : j = i
        · rw [e, ← cv d]; exact q d
        · exact hno d j (by omega)
    · rcases g2 with ⟨-, q⟩ | ⟨z, -⟩
      · refine om1 hP.1 f3 scm_af (fun d => ?_)
        show if _ then _ else _
        rw [if_pos (show isP (mA d σ0) a from ha)]
        refine Or.inl ⟨i, by show i < ((nowM σ0).1 a.toNat).toNat + 1; omega, rfl, ?_, hno d⟩
        show Spd (famM d σ0) (chg (nowM σ0) a.toNat (-(i : Int))) a 1
        rw [← cv d]; exact q d
      · exact absurd z h5
def Mo_easing_I : List AV → Hp → Nat → Nat → List AV → List AV → Hp → Prop := fun as σ0 pc n st ls σ => (match as with
    | [.inr (.inr (.inl (k, 0, 9))), .inl a1] => (bif Nat.beq pc 12 then (match st, ls with
      | [], [.inr (.inr (.inl (k', 0, 9))), .inl a1', .inl v2] => k = k' ∧ a1 = a1' ∧ Mo_easing_I12 k a1 σ0 n v2 σ
      | _, _ => False) else False)
    | _ => False)
def Mo_easing_ct : Nat → Ct := fun n => match n with
  | 0 => Mo_isPerson_cs
  | 1 => Mo_load_cs
  | 2 => Mo_isSpared_cs
  | _ => Mo_easing_cs
set_option maxRecDepth 20000 in
set_option maxHeartbeats 4000000 in
theorem Mo_easing_met {l : Launch} {D : va_G} {ad : Nat → Nat} {ca : Nat → ClassId} {L : Nat} {fx : Nat → Int} : ax_MC l D ad ca L fx yX9_easing cX9_easing 3 (some .int) 9 Mo_easing_cs := by
  refine ax_met (oc := 9) (ct := Mo_easing_ct) (calls := Mo_easing_cl) (bs := Mo_easing_bk) (cut := fun pc => Nat.beq pc 12) (f := 6) (I := Mo_easing_I) (by decide) rfl rfl Mo_easing_ck (List.forall_mem_cons.mpr ⟨ax_cwV Mo_isPerson_met (by decide) (by decide) rfl (by decide) rfl (ax_m7 79 (by decide +kernel) rfl) Mo_isPerson_w rfl Mo_isPerson_ds, List.forall_mem_cons.mpr ⟨ax_cwV Mo_load_met (by decide) (by decide) rfl (by decide) rfl (ax_m7 86 (by decide +kernel) rfl) Mo_load_w rfl Mo_load_ds, List.forall_mem_cons.mpr ⟨ax_cwV Mo_isSpared_met (by decide) (by decide) rfl (by decide) rfl (ax_m7 201 (by decide +kernel) rfl) Mo_isSpared_w rfl Mo_isSpared_ds, fun _ h => absurd h List.not_mem_nil⟩⟩⟩) ?_ ?_
  · intro as σ0 hp hH
    match as, hp with
    | [.inr (.inr (.inl (k, 0, 9))), .inl a1], hp => exact ⟨rfl, Mo_easing_p k a1 σ0 hH hp⟩
  · intro as σ0 hp n pc st ls σ hH hI
    match as, hp, hI with
    | [.inr (.inr (.inl (k, 0, 9))), .inl a1], hp, hI =>
      rcases ax_bifE hI with ⟨hpc, hI⟩ | ⟨-, hI⟩
      · have := Nat.eq_of_beq_eq_true hpc
        subst this
        match st, ls, hI with
        | [], [.inr (.inr (.inl (k', 0, 9))), .inl a1', .inl v2], hI =>
          obtain ⟨rfl, rfl, hI⟩ := hI
          exact Mo_easing_p12 k a1 σ0 hp n v2 σ hH hI
      exact False.elim hI
def Mo_nights_pre (k : Nat) (_a _b : Int) (σ : Hp) : Prop := k = 67 ∧ MP σ
def Mo_nights_post (_k : Nat) (a b : Int) (σ : Hp) (r : Int) (σ' : Hp) : Prop := MQo σ σ' ∧ ∀ d, s_nights (mA d σ) a b r (mA d σ')
def Mo_nights_I29 (_k : Nat) (a b : Int) (σ0 : Hp) (n : Nat) (v3 v4 : Int) (σ : Hp) : Prop := ∃ i : Nat, v4 = i ∧ (i : Int) ≤ b ∧ b ≤ 60 ∧ n = 60 - i ∧ (0 ≤ a ∧ a < (((σ0 67 42).toNat : Nat) : Int)) ∧ Fr af σ0 σ ∧ Rn σ0 σ (nowM σ0) 0 i ∧ ∀ d, v3 = (cnt (famM d σ0) (nowM σ0) a i : Nat)
def Mo_nights_bk : List (Nat × List Item) := [(0, [(.aload_n 0, 1, [], []), (.iload_n 1, 1, [], []), (.invokevirtual 398, 3, [0], []), (.ifCond .eq 13, 3, [18], []), (.iload_n 2, 1, [], []), (.iconst 0, 1, [], []), (.bipush 60, 2, [], []), (.invokestatic 379, 3, [1], []), (.ifCond .ne 5, 3, [20], [])]),
  (18, [(.iconst (-1), 1, [], []), (.ireturn, 1, [], [])]),
  (20, [(.aload_n 0, 1, [], []), (.invokevirtual 401, 3, [2], []), (.iconst 0, 1, [], []), (.istore_n 3, 1, [], []), (.iconst 0, 1, [], []), (.istore 4, 2, [], [])]),
  (29, [(.iload 4, 2, [], []), (.iload_n 2, 1, [], []), (.if_icmp .ge 35, 3, [67], []), (.aload_n 0, 1, [], []), (.invokevirtual 435, 3, [3], []), (.iload_n 3, 1, [], []), (.aload_n 0, 1, [], []), (.getfield 88, 3, [9, 47, 4, 24, 1, 16], []), (.bipush 12, 2, [], []), (.iaload, 1, [], []), (.iload_n 1, 1, [], []), (.if_icmp .ne 7, 3, [55], []), (.iconst 1, 1, [], []), (.goto 4, 3, [56], [])]),
  (55, [(.iconst 0, 1, [], [])]),
  (56, [(.invokestatic 300, 3, [4], []), (.iadd, 1, [], []), (.istore_n 3, 1, [], []), (.iinc 4 1, 3, [], []), (.goto (-35), 3, [29], [])]),
  (67, [(.iload_n 3, 1, [], []), (.ireturn, 1, [], [])])]
def Mo_nights_cl : List (Instr × Nat) := [(.invokevirtual 398, 0), (.invokestatic 379, 1), (.invokevirtual 401, 2), (.invokevirtual 435, 3), (.invokestatic 300, 4)]
set_option maxRecDepth 20000 in
theorem Mo_nights_ck : Mo_nights_bk.all (fun b => ax_chB 9 5 cX9_nights Mo_nights_cl b.1 b.2) = true := by decide +kernel
def Mo_nights_cs : Ct := (3, 10, 1, (0, 0), fun as σ => (match as with
    | [.inr (.inr (.inl (k, 0, 9))), .inl a1, .inl a2] => Mo_nights_pre k a1 a2 σ
    | _ => False), fun as σ r σ' => (match as with
    | [.inr (.inr (.inl (k, 0, 9))), .inl a1, .inl a2] => Mo_nights_post k a1 a2 σ r σ'
    | _ => False))
theorem Mo_nights_w : ∀ w ∈ ([.instanceMethod yX9_nights, .selects yX9_nights.cls yX9_nights yX9_nights, .initialized yX9_nights.cls, .code yX9_nights cX9_nights 5 (some .int)] : List Cond), w ∈ ax_tb := ax_w4 (ax_m7 234 (by decide +kernel) rfl) (ax_m7 235 (by decide +kernel) rfl) (ax_m1 10 (by decide +kernel) rfl) (ax_m7 236 (by decide +kernel) rfl)
theorem Mo_nights_ds : yX9_nights.cls ≠ "java/lang/invoke/MethodHandle" ∧ yX9_nights.cls ≠ "java/lang/invoke/VarHandle" ∧ (parseMethodDescriptor yX9_nights.desc).map (fun d => d.parameters.length) = some 2 := by decide +kernel
def Mo_nights_vc : Prop := ∀ (k : Nat) (a1 : Int) (a2 : Int) (σ : Hp), ax_H σ → Mo_nights_pre k a1 a2 σ →
  Mo_isPerson_pre k a1 σ ∧
  ∀ (r2 : Int) (σ1 : Hp), Mo_isPerson_post k a1 σ r2 σ1 →
  (r2 = 0 →
    Mo_nights_post k a1 a2 σ (-1) σ1) ∧
  (¬ (r2 = 0) →
    Mo_isIn_pre a2 0 60 σ1 ∧
    ∀ (r4 : Int) (σ3 : Hp), Mo_isIn_post a2 0 60 σ1 r4 σ3 →
    (¬ r4 = 0 →
      Mo_load_pre k σ3 ∧
      ∀ σ5 : Hp, Mo_load_post k σ3 σ5 →
      ∃ n' : Nat, k = k ∧ a1 = a1 ∧ a2 = a2 ∧ Mo_nights_I29 k a1 a2 σ n' 0 0 σ5) ∧
    (¬ (¬ r4 = 0) →
      Mo_nights_post k a1 a2 σ (-1) σ3))
def Mo_nights_vc29 : Prop := ∀ (k : Nat) (a1 : Int) (a2 : Int) (σ0 : Hp), Mo_nights_pre k a1 a2 σ0 → ∀ (n : Nat) (v3 : Int) (v4 : Int) (σ : Hp), ax_H σ → Mo_nights_I29 k a1 a2 σ0 n v3 v4 σ →
  (a2 ≤ v4 →
    Mo_nights_post k a1 a2 σ0 v3 σ) ∧
  (¬ (a2 ≤ v4) →
    Mo_goDay_pre k σ ∧
    ∀ σ1 : Hp, Mo_goDay_post k σ σ1 →
    (0 ≤ (12 : Int) ∧ (12 : Int) < 16) ∧
    (¬ σ1 (k + 24) 12 = a1 →
      Mo_truth_pre 0 σ1 ∧
      ∀ (r3 : Int) (σ2 : Hp), Mo_truth_post 0 σ1 r3 σ2 →
      ∃ n' : Nat, n' < n ∧ k = k ∧ a1 = a1 ∧ a2 = a2 ∧ Mo_nights_I29 k a1 a2 σ0 n' (wr (v3 + r3)) (wr (v4 + 1)) σ2) ∧
    (¬ (¬ σ1 (k + 24) 12 = a1) →
      Mo_truth_pre 1 σ1 ∧
      ∀ (r5 : Int) (σ4 : Hp), Mo_truth_post 1 σ1 r5 σ4 →
      ∃ n' : Nat, n' < n ∧ k = k ∧ a1 = a1 ∧ a2 = a2 ∧ Mo_nights_I29 k a1 a2 σ0 n' (wr (v3 + r5)) (wr (v4 + 1)) σ4))
theorem Mo_nights_p : Mo_nights_vc := by
  intro k a b σ hH hp
  obtain ⟨rfl, hP⟩ := hp
  refine ⟨⟨rfl, hP.n6⟩, ?_⟩
  rintro r2 σ1 ⟨rfl, rfl⟩
  refine ⟨fun h => om0 hP.1 (fun d => ?_), fun h => ⟨trivial, ?_⟩⟩
  · show _ = _; rw [if_neg (fun z => ite0 h z.1)]
  · have h1 := ite1 h
    rintro r4 σ3 ⟨rfl, rfl⟩
    refine ⟨fun h2 => ⟨rfl, fun σ5 g => ?_⟩, fun h2 => om0 hP.1 (fun d => ?_)⟩
    · have h2' := ite1 h2
      exact ⟨60, rfl, rfl, rfl, 0, rfl, h2'.1, h2'.2, rfl, h1, (hP.np.rn g 0).1, (hP.np.rn g 0).2, fun d => rfl⟩
    · show _ = _; rw [if_neg (fun z => ite0' h2 z.2)]
theorem Mo_nights_p29 : Mo_nights_vc29 := by
  intro k a b σ0 hp n v3 v4 σ hH hI
  obtain ⟨rfl, hP⟩ := hp
  obtain ⟨i, rfl, hi, hb, rfl, ha, hf, hR, hv⟩ := hI
  refine ⟨fun h => om1 hP.1 hf scm_af (fun d => ?_), fun h => ?_⟩
  · show _ = _
    rw [if_pos ⟨ha, by omega⟩, hv d, show b.toNat = i by omega]; rfl
  · obtain ⟨p1, p2⟩ := hR.day (by omega)
    refine ⟨p1, fun σ1 g => ?_⟩
    obtain ⟨q1, q2⟩ := p2 σ1 g
    have hcl := cnt_le (famM 0 σ0) (nowM σ0) a i
    have hv0 := hv 0
    rw [wr1 (by omega) (by omega)]
    refine ⟨by decide, fun h3 => ⟨trivial, ?_⟩, fun h3 => ⟨trivial, ?_⟩⟩
    · rintro r3 σ2 ⟨rfl, rfl⟩
      refine ⟨60 - (i + 1), by omega, rfl, rfl, rfl, i + 1, by simp, by omega, hb, rfl, ha, hf.tr q1, q2, fun d => ?_⟩
      have h3' : ¬ (itr (famM d σ0) 0 (nowM σ0) (i + 1)).2.2.1 = a := fun z => h3 ((q2.h d).trans z)
      have hvd := hv d
      have hcd := cnt_le (famM d σ0) (nowM σ0) a i
      rw [cnt_s, if_neg h3', if_pos rfl, wr_id (by omega) (by omega)]
      omega
    · rintro r3 σ2 ⟨rfl, rfl⟩
      refine ⟨60 - (i + 1), by omega, rfl, rfl, rfl, i + 1, by simp, by omega, hb, rfl, ha, hf.tr q1, q2, fun d => ?_⟩
      have h3' : (itr (famM d σ0) 0 (nowM σ0) (i + 1)).2.2.1 = a := (q2.h d).symm.trans (Classical.not_not.mp h3)
      have hvd := hv d
      have hcd := cnt_le (famM d σ0) (nowM σ0) a i
      rw [cnt_s, if_pos h3', if_neg (by decide), wr_id (by omega) (by omega)]
      omega
def Mo_nights_I : List AV → Hp → Nat → Nat → List AV → List AV → Hp → Prop := fun as σ0 pc n st ls σ => (match as with
    | [.inr (.inr (.inl (k, 0, 9))), .inl a1, .inl a2] => (bif Nat.beq pc 29 then (match st, ls with
      | [], [.inr (.inr (.inl (k', 0, 9))), .inl a1', .inl a2', .inl v3, .inl v4] => k = k' ∧ a1 = a1' ∧ a2 = a2' ∧ Mo_nights_I29 k a1 a2 σ0 n v3 v4 σ
      | _, _ => False) else False)
    | _ => False)
def Mo_nights_ct : Nat → Ct := fun n => match n with
  | 0 => Mo_isPerson_cs
  | 1 => Mo_isIn_cs
  | 2 => Mo_load_cs
  | 3 => Mo_goDay_cs
  | 4 => Mo_truth_cs
  | _ => Mo_nights_cs
set_option maxRecDepth 20000 in
set_option maxHeartbeats 4000000 in
theorem Mo_nights_met {l : Launch} {D : va_G} {ad : Nat → Nat} {ca : Nat → ClassId} {L : Nat} {fx : Nat → Int} : ax_MC l D ad ca L fx yX9_nights cX9_nights 5 (some .int) 8 Mo_nights_cs := by
  refine ax_met (oc := 9) (ct := Mo_nights_ct) (calls := Mo_nights_cl) (bs := Mo_nights_bk) (cut := fun pc => Nat.beq pc 29) (f := 8) (I := Mo_nights_I) (by decide) rfl rfl Mo_nights_ck (List.forall_mem_cons.mpr ⟨ax_cwV Mo_isPerson_met (by decide) (by decide) rfl (by decide) rfl (ax_m7 79 (by decide +kernel) rfl) Mo_isPerson_w rfl Mo_isPerson_ds, List.forall_mem_cons.mpr ⟨ax_cwS Mo_isIn_met (by decide) (by decide) (ax_m7 83 (by decide +kernel) rfl) Mo_isIn_w rfl Mo_isIn_ds, List.forall_mem_cons.mpr ⟨ax_cwV Mo_load_met (by decide) (by decide) rfl (by decide) rfl (ax_m7 86 (by decide +kernel) rfl) Mo_load_w rfl Mo_load_ds, List.forall_mem_cons.mpr ⟨ax_cwV Mo_goDay_met (by decide) (by decide) rfl (by decide) rfl (ax_m7 189 (by decide +kernel) rfl) Mo_goDay_w rfl Mo_goDay_ds, List.forall_mem_cons.mpr ⟨ax_cwS Mo_truth_met (by decide) (by decide) (ax_m7 58 (by decide +kernel) rfl) Mo_truth_w rfl Mo_truth_ds, fun _ h => absurd h List.not_mem_nil⟩⟩⟩⟩⟩) ?_ ?_
  · intro as σ0 hp hH
    match as, hp with
    | [.inr (.inr (.inl (k, 0, 9))), .inl a1, .inl a2], hp => exact ⟨rfl, Mo_nights_p k a1 a2 σ0 hH hp⟩
  · intro as σ0 hp n pc st ls σ hH hI
    match as, hp, hI with
    | [.inr (.inr (.inl (k, 0, 9))), .inl a1, .inl a2], hp, hI =>
      rcases ax_bifE hI with ⟨hpc, hI⟩ | ⟨-, hI⟩
      · have := Nat.eq_of_beq_eq_true hpc
        subst this
        match st, ls, hI with
        | [], [.inr (.inr (.inl (k', 0, 9))), .inl a1', .inl a2', .inl v3, .inl v4], hI =>
          obtain ⟨rfl, rfl, rfl, hI⟩ := hI
          exact Mo_nights_p29 k a1 a2 σ0 hp n v3 v4 σ hH hI
      exact False.elim hI
def Mo_returns_pre (k : Nat) (_a : Int) (σ : Hp) : Prop := k = 67 ∧ MP σ
def Mo_returns_post (_k : Nat) (a : Int) (σ : Hp) (r : Int) (σ' : Hp) : Prop := MQo σ σ' ∧ ∀ d, s_returns (mA d σ) a r (mA d σ')
def Mo_returns_I16 (_k : Nat) (a : Int) (σ0 : Hp) (n : Nat) (v2 : Int) (σ : Hp) : Prop := ∃ i : Nat, v2 = i + 1 ∧ i ≤ 60 ∧ n = 60 - i ∧ (0 ≤ a ∧ a < (((σ0 67 42).toNat : Nat) : Int)) ∧ Fr af σ0 σ ∧ Rn σ0 σ (nowM σ0) 0 i ∧ ∀ d, ∀ j, j < i → ¬ (itr (famM d σ0) 0 (nowM σ0) (j + 1)).2.2.1 = a
def Mo_returns_bk : List (Nat × List Item) := [(0, [(.aload_n 0, 1, [], []), (.iload_n 1, 1, [], []), (.invokevirtual 398, 3, [0], []), (.ifCond .ne 5, 3, [10], []), (.iconst (-1), 1, [], []), (.ireturn, 1, [], [])]),
  (10, [(.aload_n 0, 1, [], []), (.invokevirtual 401, 3, [1], []), (.iconst 1, 1, [], []), (.istore_n 2, 1, [], [])]),
  (16, [(.iload_n 2, 1, [], []), (.bipush 60, 2, [], []), (.if_icmp .gt 26, 3, [45], []), (.aload_n 0, 1, [], []), (.invokevirtual 435, 3, [2], []), (.aload_n 0, 1, [], []), (.getfield 88, 3, [9, 47, 4, 24, 1, 16], []), (.bipush 12, 2, [], []), (.iaload, 1, [], []), (.iload_n 1, 1, [], []), (.if_icmp .ne 5, 3, [39], []), (.iload_n 2, 1, [], []), (.ireturn, 1, [], [])]),
  (39, [(.iinc 2 1, 3, [], []), (.goto (-26), 3, [16], [])]),
  (45, [(.iconst (-1), 1, [], []), (.ireturn, 1, [], [])])]
def Mo_returns_cl : List (Instr × Nat) := [(.invokevirtual 398, 0), (.invokevirtual 401, 1), (.invokevirtual 435, 2)]
set_option maxRecDepth 20000 in
theorem Mo_returns_ck : Mo_returns_bk.all (fun b => ax_chB 9 3 cX9_returns Mo_returns_cl b.1 b.2) = true := by decide +kernel
def Mo_returns_cs : Ct := (2, 10, 1, (0, 0), fun as σ => (match as with
    | [.inr (.inr (.inl (k, 0, 9))), .inl a1] => Mo_returns_pre k a1 σ
    | _ => False), fun as σ r σ' => (match as with
    | [.inr (.inr (.inl (k, 0, 9))), .inl a1] => Mo_returns_post k a1 σ r σ'
    | _ => False))
theorem Mo_returns_w : ∀ w ∈ ([.instanceMethod yX9_returns, .selects yX9_returns.cls yX9_returns yX9_returns, .initialized yX9_returns.cls, .code yX9_returns cX9_returns 3 (some .int)] : List Cond), w ∈ ax_tb := ax_w4 (ax_m7 238 (by decide +kernel) rfl) (ax_m7 239 (by decide +kernel) rfl) (ax_m1 10 (by decide +kernel) rfl) (ax_m8 0 (by decide +kernel) rfl)
theorem Mo_returns_ds : yX9_returns.cls ≠ "java/lang/invoke/MethodHandle" ∧ yX9_returns.cls ≠ "java/lang/invoke/VarHandle" ∧ (parseMethodDescriptor yX9_returns.desc).map (fun d => d.parameters.length) = some 1 := by decide +kernel
def Mo_returns_vc : Prop := ∀ (k : Nat) (a1 : Int) (σ : Hp), ax_H σ → Mo_returns_pre k a1 σ →
  Mo_isPerson_pre k a1 σ ∧
  ∀ (r2 : Int) (σ1 : Hp), Mo_isPerson_post k a1 σ r2 σ1 →
  (¬ r2 = 0 →
    Mo_load_pre k σ1 ∧
    ∀ σ3 : Hp, Mo_load_post k σ1 σ3 →
    ∃ n' : Nat, k = k ∧ a1 = a1 ∧ Mo_returns_I16 k a1 σ n' 1 σ3) ∧
  (¬ (¬ r2 = 0) →
    Mo_returns_post k a1 σ (-1) σ1)
def Mo_returns_vc16 : Prop := ∀ (k : Nat) (a1 : Int) (σ0 : Hp), Mo_returns_pre k a1 σ0 → ∀ (n : Nat) (v2 : Int) (σ : Hp), ax_H σ → Mo_returns_I16 k a1 σ0 n v2 σ →
  (60 < v2 →
    Mo_returns_post k a1 σ0 (-1) σ) ∧
  (¬ (60 < v2) →
    Mo_goDay_pre k σ ∧
    ∀ σ1 : Hp, Mo_goDay_post k σ σ1 →
    (0 ≤ (12 : Int) ∧ (12 : Int) < 16) ∧
    (¬ σ1 (k + 24) 12 = a1 →
      ∃ n' : Nat, n' < n ∧ k = k ∧ a1 = a1 ∧ Mo_returns_I16 k a1 σ0 n' (wr (v2 + 1)) σ1) ∧
    (¬ (¬ σ1 (k + 24) 12 = a1) →
      Mo_returns_post k a1 σ0 v2 σ1))
theorem Mo_returns_p : Mo_returns_vc := by
  intro k a σ hH hp
  obtain ⟨rfl, hP⟩ := hp
  refine ⟨⟨rfl, hP.n6⟩, ?_⟩
  rintro r2 σ1 ⟨rfl, rfl⟩
  refine ⟨fun h => ⟨rfl, fun σ3 g => ?_⟩, fun h => om0 hP.1 (fun d => ?_)⟩
  · exact ⟨60, rfl, rfl, 0, rfl, by omega, rfl, ite1 h, (hP.np.rn g 0).1, (hP.np.rn g 0).2, fun d j hj => absurd hj (Nat.not_lt_zero j)⟩
  · show if _ then _ else _; rw [if_neg (show ¬ isP (mA d σ1) a from ite0' h)]
theorem Mo_returns_p16 : Mo_returns_vc16 := by
  intro k a σ0 hp n v2 σ hH hI
  obtain ⟨rfl, hP⟩ := hp
  obtain ⟨i, rfl, hi, rfl, ha, hf, hR, hno⟩ := hI
  refine ⟨fun h => om1 hP.1 hf scm_af (fun d => ?_), fun h => ?_⟩
  · show if _ then _ else _
    rw [if_pos (show isP (mA d σ0) a from ha)]
    exact Or.inr ⟨rfl, fun j hj => hno d j (by omega)⟩
  · obtain ⟨p1, p2⟩ := hR.day (by omega)
    refine ⟨p1, fun σ1 g => ?_⟩
    obtain ⟨q1, q2⟩ := p2 σ1 g
    rw [wr1 (by omega) (by omega)]
    refine ⟨by decide, fun h3 => ⟨60 - (i + 1), by omega, rfl, rfl, i + 1, by simp, by omega, rfl, ha, hf.tr q1, q2, fun d j hj => ?_⟩, fun h3 => om1 hP.1 (hf.tr q1) scm_af (fun d => ?_)⟩
    · by_cases e : j = i
      · rw [e, ← q2.h d]; exact h3
      · exact hno d j (by omega)
    · show if _ then _ else _
      rw [if_pos (show isP (mA d σ0) a from ha)]
      refine Or.inl ⟨i, by omega, rfl, ?_, hno d⟩
      show (itr (famM d σ0) 0 (nowM σ0) (i + 1)).2.2.1 = a
      rw [← q2.h d]; exact Classical.not_not.mp h3
def Mo_returns_I : List AV → Hp → Nat → Nat → List AV → List AV → Hp → Prop := fun as σ0 pc n st ls σ => (match as with
    | [.inr (.inr (.inl (k, 0, 9))), .inl a1] => (bif Nat.beq pc 16 then (match st, ls with
      | [], [.inr (.inr (.inl (k', 0, 9))), .inl a1', .inl v2] => k = k' ∧ a1 = a1' ∧ Mo_returns_I16 k a1 σ0 n v2 σ
      | _, _ => False) else False)
    | _ => False)
def Mo_returns_ct : Nat → Ct := fun n => match n with
  | 0 => Mo_isPerson_cs
  | 1 => Mo_load_cs
  | 2 => Mo_goDay_cs
  | _ => Mo_returns_cs
set_option maxRecDepth 20000 in
set_option maxHeartbeats 4000000 in
theorem Mo_returns_met {l : Launch} {D : va_G} {ad : Nat → Nat} {ca : Nat → ClassId} {L : Nat} {fx : Nat → Int} : ax_MC l D ad ca L fx yX9_returns cX9_returns 3 (some .int) 8 Mo_returns_cs := by
  refine ax_met (oc := 9) (ct := Mo_returns_ct) (calls := Mo_returns_cl) (bs := Mo_returns_bk) (cut := fun pc => Nat.beq pc 16) (f := 6) (I := Mo_returns_I) (by decide) rfl rfl Mo_returns_ck (List.forall_mem_cons.mpr ⟨ax_cwV Mo_isPerson_met (by decide) (by decide) rfl (by decide) rfl (ax_m7 79 (by decide +kernel) rfl) Mo_isPerson_w rfl Mo_isPerson_ds, List.forall_mem_cons.mpr ⟨ax_cwV Mo_load_met (by decide) (by decide) rfl (by decide) rfl (ax_m7 86 (by decide +kernel) rfl) Mo_load_w rfl Mo_load_ds, List.forall_mem_cons.mpr ⟨ax_cwV Mo_goDay_met (by decide) (by decide) rfl (by decide) rfl (ax_m7 189 (by decide +kernel) rfl) Mo_goDay_w rfl Mo_goDay_ds, fun _ h => absurd h List.not_mem_nil⟩⟩⟩) ?_ ?_
  · intro as σ0 hp hH
    match as, hp with
    | [.inr (.inr (.inl (k, 0, 9))), .inl a1], hp => exact ⟨rfl, Mo_returns_p k a1 σ0 hH hp⟩
  · intro as σ0 hp n pc st ls σ hH hI
    match as, hp, hI with
    | [.inr (.inr (.inl (k, 0, 9))), .inl a1], hp, hI =>
      rcases ax_bifE hI with ⟨hpc, hI⟩ | ⟨-, hI⟩
      · have := Nat.eq_of_beq_eq_true hpc
        subst this
        match st, ls, hI with
        | [], [.inr (.inr (.inl (k', 0, 9))), .inl a1', .inl v2], hI =>
          obtain ⟨rfl, rfl, hI⟩ := hI
          exact Mo_returns_p16 k a1 σ0 hp n v2 σ hH hI
      exact False.elim hI
def Mo_peace_pre (k : Nat) (σ : Hp) : Prop := k = 67 ∧ MP σ
def Mo_peace_post (_k : Nat) (σ : Hp) (r : Int) (σ' : Hp) : Prop := MQo σ σ' ∧ ∀ d, s_peace (mA d σ) r (mA d σ')
def Mo_peace_I6 (_k : Nat) (σ0 : Hp) (n : Nat) (v1 : Int) (σ : Hp) : Prop := ∃ i : Nat, v1 = i ∧ i ≤ 61 ∧ n = 61 - i ∧ Fr af σ0 σ ∧ Rn σ0 σ (nowM σ0) 0 i ∧ ∀ d, ∀ j, j < i → ¬ (itr (famM d σ0) 0 (nowM σ0) j).2.2.1 = -1
def Mo_peace_bk : List (Nat × List Item) := [(0, [(.aload_n 0, 1, [], []), (.invokevirtual 401, 3, [0], []), (.iconst 0, 1, [], []), (.istore_n 1, 1, [], [])]),
  (6, [(.iload_n 1, 1, [], []), (.bipush 60, 2, [], []), (.if_icmp .gt 25, 3, [34], []), (.aload_n 0, 1, [], []), (.getfield 88, 3, [9, 47, 4, 24, 1, 16], []), (.bipush 12, 2, [], []), (.iaload, 1, [], []), (.ifCond .ge 5, 3, [24], []), (.iload_n 1, 1, [], []), (.ireturn, 1, [], [])]),
  (24, [(.aload_n 0, 1, [], []), (.invokevirtual 435, 3, [1], []), (.iinc 1 1, 3, [], []), (.goto (-25), 3, [6], [])]),
  (34, [(.iconst (-1), 1, [], []), (.ireturn, 1, [], [])])]
def Mo_peace_cl : List (Instr × Nat) := [(.invokevirtual 401, 0), (.invokevirtual 435, 1)]
set_option maxRecDepth 20000 in
theorem Mo_peace_ck : Mo_peace_bk.all (fun b => ax_chB 9 2 cX9_peace Mo_peace_cl b.1 b.2) = true := by decide +kernel
def Mo_peace_cs : Ct := (1, 10, 1, (0, 0), fun as σ => (match as with
    | [.inr (.inr (.inl (k, 0, 9)))] => Mo_peace_pre k σ
    | _ => False), fun as σ r σ' => (match as with
    | [.inr (.inr (.inl (k, 0, 9)))] => Mo_peace_post k σ r σ'
    | _ => False))
theorem Mo_peace_w : ∀ w ∈ ([.instanceMethod yX9_peace, .selects yX9_peace.cls yX9_peace yX9_peace, .initialized yX9_peace.cls, .code yX9_peace cX9_peace 2 (some .int)] : List Cond), w ∈ ax_tb := ax_w4 (ax_m8 11 (by decide +kernel) rfl) (ax_m8 12 (by decide +kernel) rfl) (ax_m1 10 (by decide +kernel) rfl) (ax_m8 13 (by decide +kernel) rfl)
theorem Mo_peace_ds : yX9_peace.cls ≠ "java/lang/invoke/MethodHandle" ∧ yX9_peace.cls ≠ "java/lang/invoke/VarHandle" ∧ (parseMethodDescriptor yX9_peace.desc).map (fun d => d.parameters.length) = some 0 := by decide +kernel
def Mo_peace_vc : Prop := ∀ (k : Nat) (σ : Hp), ax_H σ → Mo_peace_pre k σ →
  Mo_load_pre k σ ∧
  ∀ σ1 : Hp, Mo_load_post k σ σ1 →
  ∃ n' : Nat, k = k ∧ Mo_peace_I6 k σ n' 0 σ1
def Mo_peace_vc6 : Prop := ∀ (k : Nat) (σ0 : Hp), Mo_peace_pre k σ0 → ∀ (n : Nat) (v1 : Int) (σ : Hp), ax_H σ → Mo_peace_I6 k σ0 n v1 σ →
  (60 < v1 →
    Mo_peace_post k σ0 (-1) σ) ∧
  (¬ (60 < v1) →
    (0 ≤ (12 : Int) ∧ (12 : Int) < 16) ∧
    (0 ≤ σ (k + 24) 12 →
      Mo_goDay_pre k σ ∧
      ∀ σ1 : Hp, Mo_goDay_post k σ σ1 →
      ∃ n' : Nat, n' < n ∧ k = k ∧ Mo_peace_I6 k σ0 n' (wr (v1 + 1)) σ1) ∧
    (¬ (0 ≤ σ (k + 24) 12) →
      Mo_peace_post k σ0 v1 σ))
theorem Mo_peace_p : Mo_peace_vc := by
  intro k σ hH hp
  obtain ⟨rfl, hP⟩ := hp
  refine ⟨rfl, fun σ1 g => ?_⟩
  exact ⟨61, rfl, 0, rfl, by omega, rfl, (hP.np.rn g 0).1, (hP.np.rn g 0).2, fun d j hj => absurd hj (Nat.not_lt_zero j)⟩
theorem Mo_peace_p6 : Mo_peace_vc6 := by
  intro k σ0 hp n v1 σ hH hI
  obtain ⟨rfl, hP⟩ := hp
  obtain ⟨i, rfl, hi, rfl, hf, hR, hno⟩ := hI
  have hV := hR.1.2.2.1
  refine ⟨fun h => om1 hP.1 hf scm_af (fun d => ?_), fun h => ⟨by decide, fun h2 => ?_, fun h2 => om1 hP.1 hf scm_af (fun d => ?_)⟩⟩
  · show if _ then _ else _
    rw [if_neg (show ¬ (aS (mA d σ0)).2.2.1 = -1 from hno d 0 (by omega))]
    exact Or.inr ⟨rfl, fun j hj => hno d (j + 1) (by omega)⟩
  · obtain ⟨p1, p2⟩ := hR.day (by omega)
    refine ⟨p1, fun σ1 g => ?_⟩
    obtain ⟨q1, q2⟩ := p2 σ1 g
    rw [wr1 (by omega) (by omega)]
    refine ⟨61 - (i + 1), by omega, rfl, i + 1, by simp, by omega, rfl, hf.tr q1, q2, fun d j hj => ?_⟩
    by_cases e : j = i
    · rw [e, ← hR.h d]
      have h2' : 0 ≤ σ 91 12 := h2
      omega
    · exact hno d j (by omega)
  · have h2' : ¬ 0 ≤ σ 91 12 := h2
    have hV1 : -1 ≤ σ 91 12 := hV.1
    have e : (itr (famM d σ0) 0 (nowM σ0) i).2.2.1 = -1 := by rw [← hR.h d]; omega
    show if _ then _ else _
    by_cases z : i = 0
    · subst z
      rw [if_pos (show (aS (mA d σ0)).2.2.1 = -1 from e)]; rfl
    · rw [if_neg (show ¬ (aS (mA d σ0)).2.2.1 = -1 from hno d 0 (by omega))]
      refine Or.inl ⟨i - 1, by omega, by omega, ?_, fun j hj => hno d (j + 1) (by omega)⟩
      show (itr (famM d σ0) 0 (nowM σ0) (i - 1 + 1)).2.2.1 = -1
      rw [show i - 1 + 1 = i by omega]; exact e
def Mo_peace_I : List AV → Hp → Nat → Nat → List AV → List AV → Hp → Prop := fun as σ0 pc n st ls σ => (match as with
    | [.inr (.inr (.inl (k, 0, 9)))] => (bif Nat.beq pc 6 then (match st, ls with
      | [], [.inr (.inr (.inl (k', 0, 9))), .inl v1] => k = k' ∧ Mo_peace_I6 k σ0 n v1 σ
      | _, _ => False) else False)
    | _ => False)
def Mo_peace_ct : Nat → Ct := fun n => match n with
  | 0 => Mo_load_cs
  | 1 => Mo_goDay_cs
  | _ => Mo_peace_cs
set_option maxRecDepth 20000 in
set_option maxHeartbeats 4000000 in
theorem Mo_peace_met {l : Launch} {D : va_G} {ad : Nat → Nat} {ca : Nat → ClassId} {L : Nat} {fx : Nat → Int} : ax_MC l D ad ca L fx yX9_peace cX9_peace 2 (some .int) 8 Mo_peace_cs := by
  refine ax_met (oc := 9) (ct := Mo_peace_ct) (calls := Mo_peace_cl) (bs := Mo_peace_bk) (cut := fun pc => Nat.beq pc 6) (f := 5) (I := Mo_peace_I) (by decide) rfl rfl Mo_peace_ck (List.forall_mem_cons.mpr ⟨ax_cwV Mo_load_met (by decide) (by decide) rfl (by decide) rfl (ax_m7 86 (by decide +kernel) rfl) Mo_load_w rfl Mo_load_ds, List.forall_mem_cons.mpr ⟨ax_cwV Mo_goDay_met (by decide) (by decide) rfl (by decide) rfl (ax_m7 189 (by decide +kernel) rfl) Mo_goDay_w rfl Mo_goDay_ds, fun _ h => absurd h List.not_mem_nil⟩⟩) ?_ ?_
  · intro as σ0 hp hH
    match as, hp with
    | [.inr (.inr (.inl (k, 0, 9)))], hp => exact ⟨rfl, Mo_peace_p k σ0 hH hp⟩
  · intro as σ0 hp n pc st ls σ hH hI
    match as, hp, hI with
    | [.inr (.inr (.inl (k, 0, 9)))], hp, hI =>
      rcases ax_bifE hI with ⟨hpc, hI⟩ | ⟨-, hI⟩
      · have := Nat.eq_of_beq_eq_true hpc
        subst this
        match st, ls, hI with
        | [], [.inr (.inr (.inl (k', 0, 9))), .inl v1], hI =>
          obtain ⟨rfl, hI⟩ := hI
          exact Mo_peace_p6 k σ0 hp n v1 σ hH hI
      exact False.elim hI
def Mo_burden_pre (k : Nat) (_a : Int) (σ : Hp) : Prop := k = 67 ∧ MP σ
def Mo_burden_post (_k : Nat) (a : Int) (σ : Hp) (r : Int) (σ' : Hp) : Prop := MQo σ σ' ∧ ∀ d, s_burden (mA d σ) a r (mA d σ')
def Mo_burden_I21 (_k : Nat) (a : Int) (σ0 : Hp) (n : Nat) (v2 v3 : Int) (σ : Hp) : Prop := ∃ i : Nat, v3 = i ∧ i ≤ (σ0 67 42).toNat ∧ (0 ≤ a ∧ a ≤ 60) ∧ n = 6 - i ∧ Fr af σ0 σ ∧ AP σ ∧ (∀ d, airM σ = itr (famM d σ0) 0 (nowM σ0) a.toNat) ∧ v2 = sm (airM σ).1 63 i
def Mo_burden_bk : List (Nat × List Item) := [(0, [(.iload_n 1, 1, [], []), (.iconst 0, 1, [], []), (.bipush 60, 2, [], []), (.invokestatic 379, 3, [0], []), (.ifCond .ne 5, 3, [12], []), (.iconst (-1), 1, [], []), (.ireturn, 1, [], [])]),
  (12, [(.aload_n 0, 1, [], []), (.iload_n 1, 1, [], []), (.invokevirtual 438, 3, [1], []), (.iconst 0, 1, [], []), (.istore_n 2, 1, [], []), (.iconst 0, 1, [], []), (.istore_n 3, 1, [], [])]),
  (21, [(.iload_n 3, 1, [], []), (.aload_n 0, 1, [], []), (.getfield 304, 3, [9, 42, 0, 0, 0, 0], []), (.if_icmp .ge 18, 3, [44], []), (.iload_n 2, 1, [], []), (.aload_n 0, 1, [], []), (.getfield 88, 3, [9, 47, 4, 24, 1, 16], []), (.iload_n 3, 1, [], []), (.iaload, 1, [], []), (.iadd, 1, [], []), (.istore_n 2, 1, [], []), (.iinc 3 1, 3, [], []), (.goto (-20), 3, [21], [])]),
  (44, [(.iload_n 2, 1, [], []), (.ireturn, 1, [], [])])]
def Mo_burden_cl : List (Instr × Nat) := [(.invokestatic 379, 0), (.invokevirtual 438, 1)]
set_option maxRecDepth 20000 in
theorem Mo_burden_ck : Mo_burden_bk.all (fun b => ax_chB 9 4 cX9_burden Mo_burden_cl b.1 b.2) = true := by decide +kernel
def Mo_burden_cs : Ct := (2, 10, 1, (0, 0), fun as σ => (match as with
    | [.inr (.inr (.inl (k, 0, 9))), .inl a1] => Mo_burden_pre k a1 σ
    | _ => False), fun as σ r σ' => (match as with
    | [.inr (.inr (.inl (k, 0, 9))), .inl a1] => Mo_burden_post k a1 σ r σ'
    | _ => False))
theorem Mo_burden_w : ∀ w ∈ ([.instanceMethod yX9_burden, .selects yX9_burden.cls yX9_burden yX9_burden, .initialized yX9_burden.cls, .code yX9_burden cX9_burden 4 (some .int)] : List Cond), w ∈ ax_tb := ax_w4 (ax_m8 15 (by decide +kernel) rfl) (ax_m8 16 (by decide +kernel) rfl) (ax_m1 10 (by decide +kernel) rfl) (ax_m8 17 (by decide +kernel) rfl)
theorem Mo_burden_ds : yX9_burden.cls ≠ "java/lang/invoke/MethodHandle" ∧ yX9_burden.cls ≠ "java/lang/invoke/VarHandle" ∧ (parseMethodDescriptor yX9_burden.desc).map (fun d => d.parameters.length) = some 1 := by decide +kernel
def Mo_burden_vc : Prop := ∀ (k : Nat) (a1 : Int) (σ : Hp), ax_H σ → Mo_burden_pre k a1 σ →
  Mo_isIn_pre a1 0 60 σ ∧
  ∀ (r2 : Int) (σ1 : Hp), Mo_isIn_post a1 0 60 σ r2 σ1 →
  (¬ r2 = 0 →
    Mo_goFar_pre k a1 σ1 ∧
    ∀ σ3 : Hp, Mo_goFar_post k a1 σ1 σ3 →
    ∃ n' : Nat, k = k ∧ a1 = a1 ∧ Mo_burden_I21 k a1 σ n' 0 0 σ3) ∧
  (¬ (¬ r2 = 0) →
    Mo_burden_post k a1 σ (-1) σ1)
def Mo_burden_vc21 : Prop := ∀ (k : Nat) (a1 : Int) (σ0 : Hp), Mo_burden_pre k a1 σ0 → ∀ (n : Nat) (v2 : Int) (v3 : Int) (σ : Hp), ax_H σ → Mo_burden_I21 k a1 σ0 n v2 v3 σ →
  (σ k 42 ≤ v3 →
    Mo_burden_post k a1 σ0 v2 σ) ∧
  (¬ (σ k 42 ≤ v3) →
    (0 ≤ v3 ∧ v3 < 16) ∧
    ∃ n' : Nat, n' < n ∧ k = k ∧ a1 = a1 ∧ Mo_burden_I21 k a1 σ0 n' (wr (v2 + (σ (k + 24) v3.toNat))) (wr (v3 + 1)) σ)
theorem Mo_burden_p : Mo_burden_vc := by
  intro k a σ hH hp
  obtain ⟨rfl, hP⟩ := hp
  refine ⟨trivial, ?_⟩
  rintro r2 σ1 ⟨rfl, rfl⟩
  refine ⟨fun h => ⟨⟨rfl, (ite1 h).1, (ite1 h).2, hP.np⟩, ?_⟩, fun h => om0 hP.1 (fun d => ?_)⟩
  · rintro σ3 ⟨g1, g2, g3⟩
    exact ⟨6, rfl, rfl, 0, rfl, Nat.zero_le _, ite1 h, rfl, g1, g3, g2, rfl⟩
  · show _ = _; rw [if_neg (ite0' h)]
theorem sm_N {n : Nat} {s : Sta} {x : Int} (h : ∀ j, n ≤ j → s.1 j = 0) : ∀ d, sm s.1 x (n + d) = sm s.1 x n := by
  intro d
  induction d with
  | zero => rfl
  | succ d ih =>
    rw [← Nat.add_assoc, sm_s, ih, h (n + d) (by omega)]
    simp
theorem bt63 {j : Nat} (hj : j < 6) : bt 63 j = true := by
  have : j = 0 ∨ j = 1 ∨ j = 2 ∨ j = 3 ∨ j = 4 ∨ j = 5 := by omega
  rcases this with rfl | rfl | rfl | rfl | rfl | rfl <;> decide
theorem Mo_burden_p21 : Mo_burden_vc21 := by
  intro k a σ0 hp n v2 v3 σ hH hI
  obtain ⟨rfl, hP⟩ := hp
  obtain ⟨i, rfl, hi, ha, rfl, hf, hA, hs, hv⟩ := hI
  have hn := hP.n6
  have e67 : σ 67 = σ0 67 := hf 67 (by decide)
  rw [e67]
  refine ⟨fun h => om1 hP.1 hf scm_af (fun d => ?_), fun h => ⟨⟨by omega, by omega⟩, ?_⟩⟩
  · show _ = _
    have hz : ∀ j, i ≤ j → (airM σ).1 j = 0 := fun j hj => hA.2.2.2.2 j (by rw [e67]; omega)
    rw [if_pos ha, hv, ← sm_N hz (6 - i), show i + (6 - i) = 6 by omega, hs d]; rfl
  · have hr := sm_R (c := (airM σ).1) (x := 63) (n := i) (fun j _ => hA.2.1.1 j)
    have hc := hA.2.1.1 i
    have e : σ (67 + 24) i = (airM σ).1 i := (air_c (by omega)).symm
    rw [Int.toNat_natCast, e, wr1 (by omega) (by omega), wr_id (by omega) (by omega)]
    refine ⟨6 - (i + 1), by omega, rfl, rfl, i + 1, by simp, by omega, ha, rfl, hf, hA, hs, ?_⟩
    rw [sm_s, bt63 (by omega), hv]; simp
def Mo_burden_I : List AV → Hp → Nat → Nat → List AV → List AV → Hp → Prop := fun as σ0 pc n st ls σ => (match as with
    | [.inr (.inr (.inl (k, 0, 9))), .inl a1] => (bif Nat.beq pc 21 then (match st, ls with
      | [], [.inr (.inr (.inl (k', 0, 9))), .inl a1', .inl v2, .inl v3] => k = k' ∧ a1 = a1' ∧ Mo_burden_I21 k a1 σ0 n v2 v3 σ
      | _, _ => False) else False)
    | _ => False)
def Mo_burden_ct : Nat → Ct := fun n => match n with
  | 0 => Mo_isIn_cs
  | 1 => Mo_goFar_cs
  | _ => Mo_burden_cs
set_option maxRecDepth 20000 in
set_option maxHeartbeats 4000000 in
theorem Mo_burden_met {l : Launch} {D : va_G} {ad : Nat → Nat} {ca : Nat → ClassId} {L : Nat} {fx : Nat → Int} : ax_MC l D ad ca L fx yX9_burden cX9_burden 4 (some .int) 9 Mo_burden_cs := by
  refine ax_met (oc := 9) (ct := Mo_burden_ct) (calls := Mo_burden_cl) (bs := Mo_burden_bk) (cut := fun pc => Nat.beq pc 21) (f := 5) (I := Mo_burden_I) (by decide) rfl rfl Mo_burden_ck (List.forall_mem_cons.mpr ⟨ax_cwS Mo_isIn_met (by decide) (by decide) (ax_m7 83 (by decide +kernel) rfl) Mo_isIn_w rfl Mo_isIn_ds, List.forall_mem_cons.mpr ⟨ax_cwV Mo_goFar_met (by decide) (by decide) rfl (by decide) rfl (ax_m7 185 (by decide +kernel) rfl) Mo_goFar_w rfl Mo_goFar_ds, fun _ h => absurd h List.not_mem_nil⟩⟩) ?_ ?_
  · intro as σ0 hp hH
    match as, hp with
    | [.inr (.inr (.inl (k, 0, 9))), .inl a1], hp => exact ⟨rfl, Mo_burden_p k a1 σ0 hH hp⟩
  · intro as σ0 hp n pc st ls σ hH hI
    match as, hp, hI with
    | [.inr (.inr (.inl (k, 0, 9))), .inl a1], hp, hI =>
      rcases ax_bifE hI with ⟨hpc, hI⟩ | ⟨-, hI⟩
      · have := Nat.eq_of_beq_eq_true hpc
        subst this
        match st, ls, hI with
        | [], [.inr (.inr (.inl (k', 0, 9))), .inl a1', .inl v2, .inl v3], hI =>
          obtain ⟨rfl, rfl, hI⟩ := hI
          exact Mo_burden_p21 k a1 σ0 hp n v2 v3 σ hH hI
      exact False.elim hI
