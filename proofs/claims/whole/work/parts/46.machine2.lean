-- THE FORMULAS: comparisons, units, the whole group
def Rd_one_bk : List (Nat × List Item) := [(0, [(.aload_n 0, 1, [], []), (.ldc2_w 191, 3, [], [(7237492, 0)]), (.invokevirtual 127, 3, [0], []), (.ifCond .eq 39, 3, [46], []), (.iload_n 2, 1, [], []), (.bipush 7, 2, [], []), (.if_icmp .lt 8, 3, [21], []), (.aload_n 0, 1, [], []), (.invokevirtual 56, 3, [1], []), (.ireturn, 1, [], [])]),
  (21, [(.aload_n 0, 1, [], []), (.invokevirtual 33, 3, [2], []), (.aload_n 0, 1, [], []), (.aload_n 1, 1, [], []), (.iload_n 2, 1, [], []), (.iconst 1, 1, [], []), (.iadd, 1, [], []), (.invokevirtual 184, 3, [3], []), (.ifCond .ne 5, 3, [38], []), (.iconst 0, 1, [], []), (.ireturn, 1, [], [])]),
  (38, [(.aload_n 1, 1, [], []), (.bipush (-6), 2, [], []), (.invokevirtual 180, 3, [4], []), (.iconst 1, 1, [], []), (.ireturn, 1, [], [])]),
  (46, [(.aload_n 0, 1, [], []), (.aload_n 1, 1, [], []), (.iload_n 2, 1, [], []), (.iconst 3, 1, [], []), (.invokevirtual 157, 3, [5], []), (.ifCond .ne 5, 3, [58], []), (.iconst 0, 1, [], []), (.ireturn, 1, [], [])]),
  (58, [(.aload_n 0, 1, [], []), (.iconst 2, 1, [], []), (.invokevirtual 176, 3, [6], []), (.istore_n 3, 1, [], []), (.iload_n 3, 1, [], []), (.ifCond .ne 5, 3, [70], []), (.iconst 1, 1, [], []), (.ireturn, 1, [], [])]),
  (70, [(.aload_n 0, 1, [], []), (.invokevirtual 33, 3, [2], []), (.aload_n 0, 1, [], []), (.aload_n 1, 1, [], []), (.iload_n 2, 1, [], []), (.iconst 3, 1, [], []), (.invokevirtual 157, 3, [5], []), (.ifCond .ne 5, 3, [86], []), (.iconst 0, 1, [], []), (.ireturn, 1, [], [])]),
  (86, [(.aload_n 1, 1, [], []), (.iload_n 3, 1, [], []), (.invokevirtual 180, 3, [4], []), (.iconst 1, 1, [], []), (.ireturn, 1, [], [])])]
def Rd_one_cl : List (Instr × Nat) := [(.invokevirtual 127, 0), (.invokevirtual 56, 1), (.invokevirtual 33, 2), (.invokevirtual 184, 3), (.invokevirtual 180, 4), (.invokevirtual 157, 5), (.invokevirtual 176, 6)]
set_option maxRecDepth 20000 in
theorem Rd_one_ck : Rd_one_bk.all (fun b => ax_chB 5 4 cX5_one Rd_one_cl b.1 b.2) = true := by decide +kernel
def Rd_one_vc (nn : Nat) : Prop := ∀ (k : Nat) (q1 : Nat) (a2 : Int) (σ : Hp), ax_H σ → Rd_one_pre (nn + 1) k q1 a2 σ →
  Rd_isWord_pre k 7237492 σ ∧
  ∀ (r2 : Int) (σ1 : Hp), Rd_isWord_post k 7237492 σ r2 σ1 →
  (r2 = 0 →
    Rd_chain_pre nn k q1 a2 3 σ1 ∧
    ∀ (r4 : Int) (σ3 : Hp), Rd_chain_post k q1 a2 3 σ1 r4 σ3 →
    (¬ r4 = 0 →
      Rd_jointAt_pre k 2 σ3 ∧
      ∀ (r6 : Int) (σ5 : Hp), Rd_jointAt_post k 2 σ3 r6 σ5 →
      (¬ r6 = 0 →
        Rd_advance_pre k σ5 ∧
        ∀ σ7 : Hp, Rd_advance_post k σ5 σ7 →
        Rd_chain_pre nn k q1 a2 3 σ7 ∧
        ∀ (r9 : Int) (σ8 : Hp), Rd_chain_post k q1 a2 3 σ7 r9 σ8 →
        (¬ r9 = 0 →
          Fo_append_pre q1 r6 σ8 ∧
          ∀ σ10 : Hp, Fo_append_post q1 r6 σ8 σ10 →
          ((1 : Int) = 0 ∨ (1 : Int) = 1) ∧ Rd_one_post k q1 a2 σ 1 σ10) ∧
        (¬ (¬ r9 = 0) →
          ((0 : Int) = 0 ∨ (0 : Int) = 1) ∧ Rd_one_post k q1 a2 σ 0 σ8)) ∧
      (¬ (¬ r6 = 0) →
        ((1 : Int) = 0 ∨ (1 : Int) = 1) ∧ Rd_one_post k q1 a2 σ 1 σ5)) ∧
    (¬ (¬ r4 = 0) →
      ((0 : Int) = 0 ∨ (0 : Int) = 1) ∧ Rd_one_post k q1 a2 σ 0 σ3)) ∧
  (¬ (r2 = 0) →
    (a2 < 7 →
      Rd_advance_pre k σ1 ∧
      ∀ σ11 : Hp, Rd_advance_post k σ1 σ11 →
      Rd_one_pre nn k q1 (wr (a2 + 1)) σ11 ∧
      ∀ (r13 : Int) (σ12 : Hp), Rd_one_post k q1 (wr (a2 + 1)) σ11 r13 σ12 →
      (¬ r13 = 0 →
        Fo_append_pre q1 (-6) σ12 ∧
        ∀ σ14 : Hp, Fo_append_post q1 (-6) σ12 σ14 →
        ((1 : Int) = 0 ∨ (1 : Int) = 1) ∧ Rd_one_post k q1 a2 σ 1 σ14) ∧
      (¬ (¬ r13 = 0) →
        ((0 : Int) = 0 ∨ (0 : Int) = 1) ∧ Rd_one_post k q1 a2 σ 0 σ12)) ∧
    (¬ (a2 < 7) →
      Rd_refuse_pre k σ1 ∧
      ∀ (r16 : Int) (σ15 : Hp), Rd_refuse_post k σ1 r16 σ15 →
      (r16 = 0 ∨ r16 = 1) ∧ Rd_one_post k q1 a2 σ r16 σ15))
theorem Rd_one_p (nn : Nat) : Rd_one_vc nn := by
  intro k g a σ hH hp
  obtain ⟨rfl, hP, hM⟩ := hp
  obtain ⟨hg, a0, a7, ⟨B0, p0, hR0⟩, hFW⟩ := hP
  have hP : PR g a σ := ⟨hg, a0, a7, ⟨B0, p0, hR0⟩, hFW⟩
  have hgn := fO_ne hg
  obtain ⟨tv0, tv1, tv2, tv3, tv4, tv5⟩ := tl_vals
  obtain ⟨cv0, cv1, cv2, cv3, cv4, cv5⟩ := cpt_vals
  refine ⟨rfl, ?_⟩
  rintro r2 σ1 ⟨rfl, rfl⟩
  refine ⟨fun h => ?_, fun h => ?_⟩
  · -- no 'not' here
    have hnot : ∀ B p, RS σ1 B p → ¬ isN B p := by
      intro B p hR z
      rw [if_pos ((hR.wd 7237492).mpr z)] at h
      cases h
    have c3 : ∀ B p S, RS σ1 B p → Cmp B 2 a S p → Cmp B 3 a S p := by
      rintro B p S hR ⟨c1, c2, -⟩
      exact ⟨by rw [cv2] at c1; omega, c2, fun _ => Or.inr (hnot B p hR)⟩
    refine ⟨⟨rfl, hP, by omega, by omega⟩, ?_⟩
    intro r4 σ3 h3
    refine ⟨fun h4 => ⟨rfl, ?_⟩, fun h4 => ⟨Or.inl rfl, Or.inl rfl, fun B p hR => ?_⟩⟩
    · have h4' : r4 = 1 := h3.1.resolve_left h4
      have O : ∀ B p, RS σ1 B p → (Fr [1, g, g + 1] σ1 σ3 ∧ σ3 1 1 = σ1 1 1 ∧ σ3 g 5 = σ1 g 5) ∧ ∃ q L, p < q ∧ OKc 3 a g σ1 σ3 B p q L 3 := by
        intro B p hR
        obtain ⟨x1, x2⟩ := h3.2 B p hR
        rcases x2 with ⟨-, q, L, z1, z2⟩ | ⟨z, -⟩
        · exact ⟨x1, q, L, z1, z2⟩
        · omega
      rintro r6 σ5 ⟨rfl, hr6⟩
      obtain ⟨f0, q0, L0, hq0, O0⟩ := O B0 p0 hR0
      refine ⟨fun h6 => ⟨O0.1.adv.1, ?_⟩, fun h6 => ⟨Or.inr rfl, Or.inr rfl, fun B p hR => ?_⟩⟩
      · intro σ7 hadv
        have A0 := O0.1.adv.2 σ7 hadv
        have e7g : σ7 g = σ5 g := A0.1 g (by simp; omega)
        have e7g1 : σ7 (g + 1) = σ5 (g + 1) := A0.1 (g + 1) (by simp; omega)
        have F7 := O0.2.2.2.1.eq e7g e7g1
        refine ⟨⟨rfl, ⟨hg, a0, a7, ⟨B0, _, A0.2.2.2.2⟩, F7.1⟩, by omega, by omega⟩, ?_⟩
        intro r9 σ8 h8
        have road : ∀ B p, RS σ1 B p → ∃ q L, (Fr [1, g, g + 1] σ1 σ5 ∧ σ5 1 1 = σ1 1 1 ∧ σ5 g 5 = σ1 g 5) ∧ p < q ∧ OKc 3 a g σ1 σ5 B p q L 3 ∧ RS σ7 B (tN B q) ∧ q ≤ tN B q ∧ (-16 ≤ r6 ∧ r6 ≤ -7) ∧ tg r6 = 4 ∧ ∀ S E, Cmp B 2 a S p → Rch B (0, p, S, E, (σ1 g 4).toNat) (0, tN B q, r6 :: S, E ++ L, (σ7 g 4).toNat) ∧ Cmp B 3 a (r6 :: S) (tN B q) := by
          intro B p hR
          obtain ⟨hfr, q, L, hq, O⟩ := O B p hR
          have hj : r6 = jA B q 2 := by rw [hr6]; exact jt_A O.1 2
          obtain ⟨j1, j2, j3⟩ := jA_ne (by rw [← hj]; exact h6)
          have hrq : r6 = opA B q := by rw [hj, j3]
          have hB := O.1.2.1.n
          rw [O.1.1] at hB
          have hN := tN_R (B := B) (p := q) hB.1 O.1.2.2.1
          have hS := tS_R (B := B) (p := q) hB.1 O.1.2.2.1
          have htg := tg_op j1
          have e : tg (opA B q) = 4 := by rw [j2] at htg; omega
          refine ⟨q, L, hfr, hq, O, (O.1.adv.2 σ7 hadv).2.2.2.2, by omega, by rw [hrq]; exact j1, by rw [hrq]; exact e, fun S E hc => ?_⟩
          obtain ⟨R, E', m1, m2, m3, m4⟩ := O.2.2.2.2.2.2.2.2 S E (c3 B p S hR hc)
          rw [tv3] at m2
          have hc1 := hc.1
          rw [cv2] at hc1
          refine ⟨?_, ?_⟩
          · have := m1.on (stM_op (by omega) (fun z => by rw [hrel_app m2, hrel_no hc1] at z; cases z.2) (by rw [e]; exact m2.mono (by omega)) (by omega))
            rw [m3] at this
            rw [hrq, e7g]; exact this
          · have ett : tt (r6 :: S) = 4 := by
              show (if r6 = 1 then 0 else tg r6) = _
              rw [if_neg (by omega), hrq, e]
            refine ⟨by rw [ett]; omega, ?_, fun _ => Or.inl (by omega)⟩
            show ((dpt S + (if r6 = 1 ∨ r6 = -6 then 1 else 0) : Nat) : Int) = a
            rw [if_neg (by omega)]
            exact hc.2.1
        have a7' : Fr [1, g, g + 1] σ5 σ7 := Fr1 A0.1
        refine ⟨fun h9 => ?_, fun h9 => ⟨Or.inl rfl, Or.inl rfl, fun B p hR => ?_⟩⟩
        · obtain ⟨-, hx⟩ := h8.2 B0 _ A0.2.2.2.2
          obtain ⟨q60, L60, -, O60⟩ : ∃ q L, tN B0 q0 < q ∧ OKc 3 a g σ7 σ8 B0 (tN B0 q0) q L 3 := by
            rcases hx with ⟨-, q, L, z1, z2⟩ | ⟨z, -⟩
            · exact ⟨q, L, z1, z2⟩
            · exact absurd z h9
          have F8 := O60.2.2.2.1
          have b8 : σ8 g 3 + 8 ≤ σ7 g 3 + 9 * (σ8 g 4 - σ7 g 4) := O60.2.2.2.2.2.2.1
          have t8 := O60.2.2.2.2.2.2.2.1
          have t5 := O0.2.2.2.2.2.2.2.1
          have FW7 := F7.1.2.1
          have i1 : σ8 g 3 + 1 ≤ 9 * σ8 g 4 := by omega
          refine ⟨⟨F8.2.1.1, by have := F8.1; omega⟩, ?_⟩
          intro σ10 h10
          have e10 : σ10 = hp (hp σ8 (g + 1) (σ8 g 3).toNat r6) g 3 (σ8 g 3 + 1) := by
            rw [h10, if_neg (by have := F8.1; omega)]
          obtain ⟨-, -, -, -, -, -, -, hrr, -⟩ := road B0 p0 hR0
          have tt8 : tp (σ8 (g + 1)) (σ8 g 3).toNat = tp (σ1 (g + 1)) (σ1 g 3).toNat + 2 := by
            rw [t8, e7g1, e7g, t5]
          have AP := app_FW (x := r6) F8 i1 (by omega) (fun z => by omega) (fun z => by omega) (fun _ => by omega)
          rw [← e10] at AP
          have e81 : σ10 1 = σ8 1 := by rw [e10, hp_ne (by omega), hp_ne (by omega)]
          have e82 : σ10 2 = σ8 2 := by rw [e10, hp_ne (by omega), hp_ne (by omega)]
          have e84 : σ10 g 4 = σ8 g 4 := by rw [e10, hp_r2 (by omega), hp_r2 (by omega)]
          have e85 : σ10 g 5 = σ8 g 5 := by rw [e10, hp_r2 (by omega), hp_r2 (by omega)]
          have e83 : σ10 g 3 = σ8 g 3 + 1 := by rw [e10, hp_r1]
          have f10 : Fr [1, g, g + 1] σ8 σ10 := by rw [e10]; exact Fr.hp (Fr.hp Fr.rf (by simp)) (by simp)
          refine ⟨Or.inr rfl, Or.inr rfl, fun B p hR => ?_⟩
          obtain ⟨q, L, hfr, hq, O, hR7, hqn, -, ht4, mac⟩ := road B p hR
          obtain ⟨hf8, hx⟩ := h8.2 B _ hR7
          obtain ⟨q2, L2, hq2, P1, P2, P3, P4, P5, P6, P7, P8, P9⟩ : ∃ q2 L2, tN B q < q2 ∧ OKc 3 a g σ7 σ8 B (tN B q) q2 L2 3 := by
            rcases hx with ⟨-, q, L, z1, z2⟩ | ⟨z, -⟩
            · exact ⟨q, L, z1, z2⟩
            · exact absurd z h9
          have ad := (O.1.adv.2 σ7 hadv)
          refine ⟨⟨(hfr.1.tr (a7'.tr hf8.1)).tr f10, by rw [e81, hf8.2.1, ad.2.1]; exact hfr.2.1, by rw [e85, hf8.2.2, e7g]; exact hfr.2.2⟩, Or.inl ⟨rfl, q2, L ++ L2 ++ [r6], by omega, P1.keep e81 e82, by rw [e81, P2, ad.2.2.1]; exact O.2.1, by rw [e81, P3, ad.2.2.2.1]; exact O.2.2.1, AP.1, ?_, ?_, ?_, ?_, fun S E hc => ?_⟩⟩
          · rw [AP.2.1, P5, F7.2, O.2.2.2.2.1]; simp
          · rw [e84]; have := O.2.2.2.2.2.1; rw [e7g] at P6; omega
          · rw [e83, e84]
            have o7 : σ5 g 3 + 8 ≤ σ1 g 3 + 9 * (σ5 g 4 - σ1 g 4) := O.2.2.2.2.2.2.1
            have P7' : σ8 g 3 + 8 ≤ σ7 g 3 + 9 * (σ8 g 4 - σ7 g 4) := P7
            rw [e7g] at P7'
            show σ8 g 3 + 1 + (1 + a) ≤ _
            omega
          · rw [AP.2.2, if_neg (by omega), if_neg (by omega), tt8]; omega
          · obtain ⟨m1, m2⟩ := mac S E hc
            obtain ⟨R, E', n1, n2, n3, n4⟩ := P9 (r6 :: S) (E ++ L) m2
            have es : (R ++ [r6]) ++ S = R ++ r6 :: S := by simp
            rw [tv3] at n2
            refine ⟨R ++ [r6], E', ?_, (n2.mono (by rw [tv2]; omega)).snoc (by omega) (by rw [tv2]; omega), ?_, ?_⟩
            · rw [es, e84]; exact m1.tr n1
            · rw [← List.append_assoc, n3]; simp
            · rw [es]
              intro z0 z1
              by_cases z4 : tg (opA B q2) = 4
              · refine ⟨z4, ?_⟩
                rw [hrel_app n2]
                show (if r6 = 1 then false else if 4 < tg r6 then hrel S else decide (tg r6 = 4)) = true
                rw [if_neg (by omega), if_neg (by omega)]
                exact decide_eq_true ht4
              · refine n4 z0 ?_
                rw [tv3]
                rw [tv2] at z1
                have := tg_op ((opA_R B q2).resolve_left z0)
                omega
        · obtain ⟨q, L, hfr, hq, O, hR7, hqn, -, ht4, mac⟩ := road B p hR
          obtain ⟨hf8, hx⟩ := h8.2 B _ hR7
          have ad := (O.1.adv.2 σ7 hadv)
          refine ⟨⟨hfr.1.tr (a7'.tr hf8.1), by rw [hf8.2.1, ad.2.1]; exact hfr.2.1, by rw [hf8.2.2, e7g]; exact hfr.2.2⟩, Or.inr ⟨rfl, ?_⟩⟩
          rcases hx with ⟨z, -⟩ | ⟨-, q2, c1, c2, c3'⟩
          · exact absurd (by rw [z]; decide) h9
          · refine ⟨q2, c1, c2, fun S E hc => ?_⟩
            obtain ⟨m1, m2⟩ := mac S E hc
            obtain ⟨S', E', u', n1⟩ := c3' _ (E ++ L) m2
            exact ⟨S', E', u', m1.tr n1⟩
      · obtain ⟨hfr, q, L, hq, O⟩ := O B p hR
        have hj : jA B q 2 = 0 := by rw [← jt_A O.1 2, ← hr6]; exact Classical.not_not.mp h6
        have o7 : σ5 g 3 + 8 ≤ σ1 g 3 + 9 * (σ5 g 4 - σ1 g 4) := O.2.2.2.2.2.2.1
        refine ⟨hfr, Or.inl ⟨rfl, q, L, by omega, O.1, O.2.1, O.2.2.1, O.2.2.2.1, O.2.2.2.2.1, O.2.2.2.2.2.1, ?_, O.2.2.2.2.2.2.2.1, fun S E hc => ?_⟩⟩
        · show σ5 g 3 + (1 + a) ≤ _
          omega
        · obtain ⟨R, E', m1, m2, m3, m4⟩ := O.2.2.2.2.2.2.2.2 S E (c3 B p S hR hc)
          refine ⟨R, E', m1, m2.mono (by omega), m3, fun z0 z1 => m4 z0 ?_⟩
          rw [tv3]
          rw [tv2] at z1
          have h1 := tg_op ((opA_R B q).resolve_left z0)
          have h2 := jA_0 hj z0
          omega
    · obtain ⟨x1, x2⟩ := h3.2 B p hR
      rcases x2 with ⟨z, -⟩ | ⟨-, q2, c1, c2, c3'⟩
      · exact absurd (by rw [z]; decide) h4
      · exact ⟨x1, Or.inr ⟨rfl, q2, c1, c2, fun S E hc => c3' S E (c3 B p S hR hc)⟩⟩
  · -- 'not'
    have hnot : ∀ B p, RS σ1 B p → isN B p := by
      intro B p hR
      refine (hR.wd 7237492).mp (Classical.byContradiction fun z => ?_)
      rw [if_neg z] at h
      exact h rfl
    refine ⟨fun h7 => ⟨hR0.adv.1, ?_⟩, fun h7 => ⟨rfl, ?_⟩⟩
    · intro σ11 hadv
      have A0 := hR0.adv.2 σ11 hadv
      have e7g : σ11 g = σ1 g := A0.1 g (by simp; omega)
      have e7g1 : σ11 (g + 1) = σ1 (g + 1) := A0.1 (g + 1) (by simp; omega)
      have F7 := hFW.eq e7g e7g1
      have ew : wr (a + 1) = a + 1 := wr_id (by omega) (by omega)
      rw [ew]
      refine ⟨⟨rfl, ⟨hg, by omega, by omega, ⟨B0, _, A0.2.2.2.2⟩, F7.1⟩, by omega⟩, ?_⟩
      intro r13 σ12 h12
      have a11 : Fr [1, g, g + 1] σ1 σ11 := Fr1 A0.1
      have mac : ∀ B p, RS σ1 B p → ∀ S E, Cmp B 2 a S p → Rch B (0, p, S, E, (σ1 g 4).toNat) (0, tN B p, -6 :: S, E, (σ11 g 4).toNat) ∧ Cmp B 2 (a + 1) (-6 :: S) (tN B p) := by
        intro B p hR S E hc
        have hc1 := hc.1
        rw [cv2] at hc1
        have hc2 := hc.2.1
        refine ⟨?_, ?_, ?_, fun z => absurd z (by decide)⟩
        · refine Rch.one ?_
          rw [stM0, if_pos ⟨hnot B p hR, hc1⟩, if_neg (by omega), e7g]
        · rw [cv2]; show (3 : Nat) < 4; decide
        · show ((dpt S + 1 : Nat) : Int) = a + 1
          omega
      refine ⟨fun h13 => ?_, fun h13 => ⟨Or.inl rfl, Or.inl rfl, fun B p hR => ?_⟩⟩
      · obtain ⟨-, hx⟩ := h12.2 B0 _ A0.2.2.2.2
        obtain ⟨q60, L60, -, O60⟩ : ∃ q L, tN B0 p0 < q ∧ OKc 2 (a + 1) g σ11 σ12 B0 (tN B0 p0) q L 2 := by
          rcases hx with ⟨-, q, L, z1, z2⟩ | ⟨z, -⟩
          · exact ⟨q, L, z1, z2⟩
          · exact absurd z h13
        have F8 := O60.2.2.2.1
        have b8 : σ12 g 3 + (1 + (a + 1)) ≤ σ11 g 3 + 9 * (σ12 g 4 - σ11 g 4) := O60.2.2.2.2.2.2.1
        have t8 := O60.2.2.2.2.2.2.2.1
        have FW7 := F7.1.2.1
        have i1 : σ12 g 3 + 1 ≤ 9 * σ12 g 4 := by omega
        refine ⟨⟨F8.2.1.1, by have := F8.1; omega⟩, ?_⟩
        intro σ14 h14
        have e10 : σ14 = hp (hp σ12 (g + 1) (σ12 g 3).toNat (-6)) g 3 (σ12 g 3 + 1) := by
          rw [h14, if_neg (by have := F8.1; omega)]
        have AP := app_FW (x := -6) F8 i1 (by omega) (fun z => by omega) (fun z => by omega) (fun _ => by omega)
        rw [← e10] at AP
        have e81 : σ14 1 = σ12 1 := by rw [e10, hp_ne (by omega), hp_ne (by omega)]
        have e82 : σ14 2 = σ12 2 := by rw [e10, hp_ne (by omega), hp_ne (by omega)]
        have e84 : σ14 g 4 = σ12 g 4 := by rw [e10, hp_r2 (by omega), hp_r2 (by omega)]
        have e85 : σ14 g 5 = σ12 g 5 := by rw [e10, hp_r2 (by omega), hp_r2 (by omega)]
        have e83 : σ14 g 3 = σ12 g 3 + 1 := by rw [e10, hp_r1]
        have f10 : Fr [1, g, g + 1] σ12 σ14 := by rw [e10]; exact Fr.hp (Fr.hp Fr.rf (by simp)) (by simp)
        refine ⟨Or.inr rfl, Or.inr rfl, fun B p hR => ?_⟩
        have ad := (hR.adv.2 σ11 hadv)
        obtain ⟨hf8, hx⟩ := h12.2 B _ ad.2.2.2.2
        obtain ⟨q2, L2, hq2, P1, P2, P3, P4, P5, P6, P7, P8, P9⟩ : ∃ q2 L2, tN B p < q2 ∧ OKc 2 (a + 1) g σ11 σ12 B (tN B p) q2 L2 2 := by
          rcases hx with ⟨-, q, L, z1, z2⟩ | ⟨z, -⟩
          · exact ⟨q, L, z1, z2⟩
          · exact absurd z h13
        have hB := hR.2.1.n
        rw [hR.1] at hB
        have hN := tN_R (B := B) (p := p) hB.1 hR.2.2.1
        have hS := tS_R (B := B) (p := p) hB.1 hR.2.2.1
        refine ⟨⟨(a11.tr hf8.1).tr f10, by rw [e81, hf8.2.1]; exact ad.2.1, by rw [e85, hf8.2.2, e7g]⟩, Or.inl ⟨rfl, q2, L2 ++ [-6], by omega, P1.keep e81 e82, by rw [e81, P2]; exact ad.2.2.1, by rw [e81, P3]; exact ad.2.2.2.1, AP.1, ?_, ?_, ?_, ?_, fun S E hc => ?_⟩⟩
        · rw [AP.2.1, P5, F7.2]; simp
        · rw [e84]; rw [e7g] at P6; exact P6
        · rw [e83, e84]
          have P7' : σ12 g 3 + (1 + (a + 1)) ≤ σ11 g 3 + 9 * (σ12 g 4 - σ11 g 4) := P7
          rw [e7g] at P7'
          show σ12 g 3 + 1 + (1 + a) ≤ _
          omega
        · rw [AP.2.2, if_neg (by omega), if_pos rfl, t8, e7g1, e7g]
        · obtain ⟨m1, m2⟩ := mac B p hR S E hc
          obtain ⟨R, E', n1, n2, n3, n4⟩ := P9 (-6 :: S) E m2
          have es : (R ++ [-6]) ++ S = R ++ -6 :: S := by simp
          refine ⟨R ++ [-6], E', ?_, n2.snoc (by decide) (by decide), ?_, ?_⟩
          · rw [es, e84]; exact m1.tr n1
          · rw [← List.append_assoc, n3]; simp
          · rw [es]; exact n4
      · have ad := (hR.adv.2 σ11 hadv)
        obtain ⟨hf8, hx⟩ := h12.2 B _ ad.2.2.2.2
        refine ⟨⟨a11.tr hf8.1, by rw [hf8.2.1]; exact ad.2.1, by rw [hf8.2.2, e7g]⟩, Or.inr ⟨rfl, ?_⟩⟩
        rcases hx with ⟨z, -⟩ | ⟨-, q2, c1, c2, c3'⟩
        · exact absurd (by rw [z]; decide) h13
        · refine ⟨q2, c1, c2, fun S E hc => ?_⟩
          obtain ⟨m1, m2⟩ := mac B p hR S E hc
          obtain ⟨S', E', u', n1⟩ := c3' _ E m2
          exact ⟨S', E', u', m1.tr n1⟩
    · intro r16 σ15 h15
      refine ⟨Or.inl h15.1, Or.inl h15.1, fun B p hR => ?_⟩
      obtain ⟨y1, y2, y3, y4, y5⟩ := hR.rf h15
      refine ⟨⟨Fr1 y2, y3, by rw [y2 g (by simp; omega)]⟩, Or.inr ⟨y1, p, y4, y5, fun S E hc => ⟨S, E, (σ1 g 4).toNat, Rch.one ?_⟩⟩⟩
      have hc1 := hc.1
      rw [cv2] at hc1
      have hc2 := hc.2.1
      rw [stM0, if_pos ⟨hnot B p hR, hc1⟩, if_pos (by omega)]
def Rd_unit_bk : List (Nat × List Item) := [(0, [(.aload_n 1, 1, [], []), (.getfield 43, 3, [2, 4, 0, 0, 0, 0], []), (.bipush 30, 2, [], []), (.if_icmp .lt 8, 3, [14], []), (.aload_n 0, 1, [], []), (.invokevirtual 56, 3, [0], []), (.ireturn, 1, [], [])]),
  (14, [(.aload_n 1, 1, [], []), (.dup, 1, [], []), (.getfield 43, 3, [2, 4, 0, 0, 0, 0], []), (.iconst 1, 1, [], []), (.iadd, 1, [], []), (.putfield 43, 3, [2, 4, 0, 0, 0, 0], []), (.aload_n 0, 1, [], []), (.bipush 40, 2, [], []), (.invokevirtual 193, 3, [1], []), (.ifCond .eq 45, 3, [75], []), (.iload_n 2, 1, [], []), (.bipush 7, 2, [], []), (.if_icmp .lt 8, 3, [44], []), (.aload_n 0, 1, [], []), (.invokevirtual 56, 3, [0], []), (.ireturn, 1, [], [])]),
  (44, [(.aload_n 0, 1, [], []), (.invokevirtual 33, 3, [2], []), (.aload_n 0, 1, [], []), (.aload_n 1, 1, [], []), (.iload_n 2, 1, [], []), (.iconst 1, 1, [], []), (.iadd, 1, [], []), (.iconst 0, 1, [], []), (.invokevirtual 157, 3, [3], []), (.ifCond .eq 16, 3, [73], []), (.aload_n 0, 1, [], []), (.bipush 41, 2, [], []), (.invokevirtual 131, 3, [4], []), (.ifCond .eq 7, 3, [73], []), (.iconst 1, 1, [], []), (.goto 4, 3, [74], [])]),
  (73, [(.iconst 0, 1, [], [])]),
  (74, [(.ireturn, 1, [], [])]),
  (75, [(.aload_n 0, 1, [], []), (.getfield 36, 3, [5, 5, 0, 0, 0, 0], []), (.iconst 2, 1, [], []), (.if_icmp .ne 14, 3, [94], []), (.aload_n 1, 1, [], []), (.aload_n 0, 1, [], []), (.getfield 196, 3, [5, 8, 0, 0, 0, 0], []), (.invokevirtual 180, 3, [5], []), (.goto 34, 3, [125], [])]),
  (94, [(.aload_n 0, 1, [], []), (.getfield 36, 3, [5, 5, 0, 0, 0, 0], []), (.iconst 1, 1, [], []), (.if_icmp .ne 21, 3, [120], []), (.aload_n 0, 1, [], []), (.invokevirtual 199, 3, [6], []), (.ifCond .eq 14, 3, [120], []), (.aload_n 1, 1, [], []), (.aload_n 0, 1, [], []), (.invokevirtual 199, 3, [6], []), (.invokevirtual 180, 3, [5], []), (.goto 8, 3, [125], [])]),
  (120, [(.aload_n 0, 1, [], []), (.invokevirtual 56, 3, [0], []), (.ireturn, 1, [], [])]),
  (125, [(.aload_n 0, 1, [], []), (.invokevirtual 33, 3, [2], []), (.iconst 1, 1, [], []), (.ireturn, 1, [], [])])]
def Rd_unit_cl : List (Instr × Nat) := [(.invokevirtual 56, 0), (.invokevirtual 193, 1), (.invokevirtual 33, 2), (.invokevirtual 157, 3), (.invokevirtual 131, 4), (.invokevirtual 180, 5), (.invokevirtual 199, 6)]
set_option maxRecDepth 20000 in
theorem Rd_unit_ck : Rd_unit_bk.all (fun b => ax_chB 5 3 cX5_unit Rd_unit_cl b.1 b.2) = true := by decide +kernel
def Rd_unit_vc (nn : Nat) : Prop := ∀ (k : Nat) (q1 : Nat) (a2 : Int) (σ : Hp), ax_H σ → Rd_unit_pre (nn + 1) k q1 a2 σ →
  (σ q1 4 < 30 →
    ∀ σ1 : Hp, σ1 = hp σ q1 4 (wr ((σ q1 4) + 1)) →
    Rd_isSign_pre k 40 σ1 ∧
    ∀ (r3 : Int) (σ2 : Hp), Rd_isSign_post k 40 σ1 r3 σ2 →
    (r3 = 0 →
      (¬ σ2 k 5 = 2 →
        (¬ σ2 k 5 = 1 →
          Rd_refuse_pre k σ2 ∧
          ∀ (r5 : Int) (σ4 : Hp), Rd_refuse_post k σ2 r5 σ4 →
          (r5 = 0 ∨ r5 = 1) ∧ Rd_unit_post k q1 a2 σ r5 σ4) ∧
        (¬ (¬ σ2 k 5 = 1) →
          Rd_givenAt_pre k σ2 ∧
          ∀ (r7 : Int) (σ6 : Hp), Rd_givenAt_post k σ2 r7 σ6 →
          (r7 = 0 →
            Rd_refuse_pre k σ6 ∧
            ∀ (r9 : Int) (σ8 : Hp), Rd_refuse_post k σ6 r9 σ8 →
            (r9 = 0 ∨ r9 = 1) ∧ Rd_unit_post k q1 a2 σ r9 σ8) ∧
          (¬ (r7 = 0) →
            Rd_givenAt_pre k σ6 ∧
            ∀ (r11 : Int) (σ10 : Hp), Rd_givenAt_post k σ6 r11 σ10 →
            Fo_append_pre q1 r11 σ10 ∧
            ∀ σ12 : Hp, Fo_append_post q1 r11 σ10 σ12 →
            Rd_advance_pre k σ12 ∧
            ∀ σ13 : Hp, Rd_advance_post k σ12 σ13 →
            ((1 : Int) = 0 ∨ (1 : Int) = 1) ∧ Rd_unit_post k q1 a2 σ 1 σ13))) ∧
      (¬ (¬ σ2 k 5 = 2) →
        Fo_append_pre q1 (σ2 k 8) σ2 ∧
        ∀ σ14 : Hp, Fo_append_post q1 (σ2 k 8) σ2 σ14 →
        Rd_advance_pre k σ14 ∧
        ∀ σ15 : Hp, Rd_advance_post k σ14 σ15 →
        ((1 : Int) = 0 ∨ (1 : Int) = 1) ∧ Rd_unit_post k q1 a2 σ 1 σ15)) ∧
    (¬ (r3 = 0) →
      (a2 < 7 →
        Rd_advance_pre k σ2 ∧
        ∀ σ16 : Hp, Rd_advance_post k σ2 σ16 →
        Rd_chain_pre nn k q1 (wr (a2 + 1)) 0 σ16 ∧
        ∀ (r18 : Int) (σ17 : Hp), Rd_chain_post k q1 (wr (a2 + 1)) 0 σ16 r18 σ17 →
        (r18 = 0 →
          ((0 : Int) = 0 ∨ (0 : Int) = 1) ∧ Rd_unit_post k q1 a2 σ 0 σ17) ∧
        (¬ (r18 = 0) →
          Rd_readSign_pre k 41 σ17 ∧
          ∀ (r20 : Int) (σ19 : Hp), Rd_readSign_post k 41 σ17 r20 σ19 →
          (r20 = 0 →
            ((0 : Int) = 0 ∨ (0 : Int) = 1) ∧ Rd_unit_post k q1 a2 σ 0 σ19) ∧
          (¬ (r20 = 0) →
            ((1 : Int) = 0 ∨ (1 : Int) = 1) ∧ Rd_unit_post k q1 a2 σ 1 σ19))) ∧
      (¬ (a2 < 7) →
        Rd_refuse_pre k σ2 ∧
        ∀ (r22 : Int) (σ21 : Hp), Rd_refuse_post k σ2 r22 σ21 →
        (r22 = 0 ∨ r22 = 1) ∧ Rd_unit_post k q1 a2 σ r22 σ21))) ∧
  (¬ (σ q1 4 < 30) →
    Rd_refuse_pre k σ ∧
    ∀ (r24 : Int) (σ23 : Hp), Rd_refuse_post k σ r24 σ23 →
    (r24 = 0 ∨ r24 = 1) ∧ Rd_unit_post k q1 a2 σ r24 σ23)
theorem Rd_unit_p (nn : Nat) : Rd_unit_vc nn := by
  intro k g a σ hH hp
  obtain ⟨rfl, hP, hM⟩ := hp
  obtain ⟨hg, a0, a7, ⟨B0, p0, hR0⟩, hFW⟩ := hP
  have hgn := fO_ne hg
  obtain ⟨tv0, tv1, tv2, tv3, tv4, tv5⟩ := tl_vals
  obtain ⟨cv0, cv1, cv2, cv3, cv4, cv5⟩ := cpt_vals
  have nn1 : ∀ B p S, Cmp B 5 a S p → ¬ (isN B p ∧ tt S < 4) := by
    rintro B p S ⟨c1, c2, c3⟩ ⟨z1, z2⟩
    rcases c3 (by decide) with z | z
    · omega
    · exact z z1
  have hu := hFW.1
  refine ⟨fun h => ?_, fun h => ⟨rfl, ?_⟩⟩
  · rw [wr1 (by omega) (by omega)]
    rintro σ1 hσ1
    have e11 : σ1 1 = σ 1 := by rw [hσ1, hp_ne (by omega)]
    have e12 : σ1 2 = σ 2 := by rw [hσ1, hp_ne (by omega)]
    have e1g : σ1 (g + 1) = σ (g + 1) := by rw [hσ1, hp_ne (by omega)]
    have e13 : σ1 g 3 = σ g 3 := by rw [hσ1, hp_r2 (by omega)]
    have e14 : σ1 g 4 = σ g 4 + 1 := by rw [hσ1, hp_r1]
    have e15 : σ1 g 5 = σ g 5 := by rw [hσ1, hp_r2 (by omega)]
    have f1 : Fr [1, g, g + 1] σ σ1 := by rw [hσ1]; exact Fr.hp Fr.rf (by simp)
    have R1 : ∀ B p, RS σ B p → RS σ1 B p := fun B p hR => hR.keep e11 e12
    have hF1 : FW σ1 g := by
      obtain ⟨w1, w2, w3, w4⟩ := hFW
      exact ⟨by rw [e14]; omega, by rw [e13, e14]; omega, by rw [e13, e1g]; exact w3, by rw [e13, e14, e1g]; omega⟩
    have hrd : rdL σ1 g = rdL σ g := by unfold rdL; rw [e13, e1g]
    have en4 : (σ1 g 4).toNat = (σ g 4).toNat + 1 := by rw [e14]; omega
    -- failing here
    have bad : ∀ (r : Int) (σ' : Hp), Rd_refuse_post 1 σ1 r σ' → (∀ B p, RS σ B p → ∀ S E, Cmp B 5 a S p → stM B (0, p, S, E, (σ g 4).toNat) = (3, p, S, E, (σ g 4).toNat)) → (r = 0 ∨ r = 1) ∧ Rd_unit_post 1 g a σ r σ' := by
      intro r σ' hr hm
      refine ⟨Or.inl hr.1, Or.inl hr.1, fun B p hR => ?_⟩
      obtain ⟨y1, y2, y3, y4, y5⟩ := (R1 B p hR).rf hr
      exact ⟨⟨f1.tr (Fr1 y2), by rw [y3, e11], by rw [y2 g (by simp; omega), e15]⟩, Or.inr ⟨y1, p, y4, y5, fun S E hc => ⟨S, E, _, Rch.one (hm B p hR S E hc)⟩⟩⟩
    -- an operand
    have leaf : ∀ (x : Int) (σ12 σ13 : Hp), -5 ≤ x → Fo_append_post g x σ1 σ12 → Rd_advance_post 1 σ12 σ13 → (∀ B p, RS σ B p → ¬ (tK B p = 3 ∧ tV B p = 40) ∧ isO B p ∧ opd B p = x) → ((1 : Int) = 0 ∨ (1 : Int) = 1) ∧ Rd_unit_post 1 g a σ 1 σ13 := by
      intro x σ12 σ13 hx h12 h13 hm
      have e12' : σ12 = hp (hp σ1 (g + 1) (σ1 g 3).toNat x) g 3 (σ1 g 3 + 1) := by
        rw [h12, if_neg (by have := hF1.1; have := hF1.2.1; omega)]
      have hw4 := hFW.2.2.2
      have AP := app_FW (x := x) hF1 (by rw [e13, e14]; have := hFW.2.1; omega) (by omega) (fun _ => by rw [e13, e1g, e14]; omega) (fun z => by omega) (fun z => by omega)
      rw [← e12'] at AP
      have e81 : σ12 1 = σ1 1 := by rw [e12', hp_ne (by omega), hp_ne (by omega)]
      have e82 : σ12 2 = σ1 2 := by rw [e12', hp_ne (by omega), hp_ne (by omega)]
      have e84 : σ12 g 4 = σ1 g 4 := by rw [e12', hp_r2 (by omega), hp_r2 (by omega)]
      have e85 : σ12 g 5 = σ1 g 5 := by rw [e12', hp_r2 (by omega), hp_r2 (by omega)]
      have e83 : σ12 g 3 = σ1 g 3 + 1 := by rw [e12', hp_r1]
      have f12 : Fr [1, g, g + 1] σ1 σ12 := by rw [e12']; exact Fr.hp (Fr.hp Fr.rf (by simp)) (by simp)
      refine ⟨Or.inr rfl, Or.inr rfl, fun B p hR => ?_⟩
      obtain ⟨m1, m2, m3⟩ := hm B p hR
      have ad := ((R1 B p hR).keep e81 e82).adv.2 σ13 h13
      have g13 : σ13 g = σ12 g := ad.1 g (by simp; omega)
      have g131 : σ13 (g + 1) = σ12 (g + 1) := ad.1 (g + 1) (by simp; omega)
      have F13 := AP.1.eq g13 g131
      have hB := hR.2.1.n
      rw [hR.1] at hB
      have hN := tN_R (B := B) (p := p) hB.1 hR.2.2.1
      have hk0 : ¬ tK B p = 0 := by rcases m2 with z | z <;> omega
      refine ⟨⟨(f1.tr f12).tr (Fr1 ad.1), by rw [ad.2.1, e81, e11], by rw [g13, e85, e15]⟩, Or.inl ⟨rfl, tN B p, [x], hN.2.2 hk0, ad.2.2.2.2, by rw [ad.2.2.1, e81, e11], by rw [ad.2.2.2.1, e81, e11], F13.1, ?_, ?_, ?_, ?_, fun S E hc => ?_⟩⟩
      · rw [F13.2, AP.2.1, hrd]
      · rw [g13, e84, e14]; omega
      · rw [g13, e83, e84, e13, e14]; show σ g 3 + 1 + 8 ≤ _; omega
      · rw [g131, g13, AP.2.2, if_pos hx, e13, e1g]
      · refine ⟨[], E ++ [x], Rch.one ?_, AllT.nil, by simp, fun z0 z1 => ?_⟩
        · rw [stM0, if_neg (nn1 B p S hc), if_neg m1, if_pos ⟨m2, by omega⟩, m3, g13, e84, en4]; rfl
        · rw [tv5] at z1
          have := tg_op ((opA_R B (tN B p)).resolve_left z0)
          omega
    refine ⟨rfl, ?_⟩
    rintro r3 σ2 ⟨rfl, rfl⟩
    refine ⟨fun h3 => ?_, fun h3 => ?_⟩
    · have nbr : ∀ B p, RS σ B p → ¬ (tK B p = 3 ∧ tV B p = 40) := by
        intro B p hR z
        rw [if_pos (((R1 B p hR).sg 40).mpr z)] at h3
        cases h3
      refine ⟨fun h5 => ⟨fun h6 => ⟨rfl, fun r σ' hr => ?_⟩, fun h6 => ⟨rfl, ?_⟩⟩, fun h5 => ⟨⟨hF1.2.1.1, by have := hF1.1; have := hF1.2.1; omega⟩, fun σ14 h14 => ?_⟩⟩
      · refine bad r σ' hr (fun B p hR S E hc => ?_)
        rw [stM0, if_neg (nn1 B p S hc), if_neg (nbr B p hR), if_neg]
        rintro ⟨z, -⟩
        have h5' := (R1 B p hR).2.2.2.1
        rcases z with z | z
        · exact h5 (by omega)
        · exact h6 (by omega)
      · rintro r7 σ6 ⟨rfl, rfl⟩
        refine ⟨fun h7 => ⟨rfl, fun r σ' hr => ?_⟩, fun h7 => ⟨rfl, ?_⟩⟩
        · refine bad r σ' hr (fun B p hR S E hc => ?_)
          rw [stM0, if_neg (nn1 B p S hc), if_neg (nbr B p hR), if_neg]
          rintro ⟨z, -⟩
          have hRR := R1 B p hR
          have h5' := hRR.2.2.2.1
          rcases z with z | z
          · exact h5 (by omega)
          · rw [hRR.2.2.2.2.2.2.1 z.1] at h7
            exact z.2 h7
        · rintro r11 σ10 ⟨rfl, rfl⟩
          refine ⟨⟨hF1.2.1.1, by have := hF1.1; have := hF1.2.1; omega⟩, fun σ12 h12 => ?_⟩
          have e12' : σ12 = hp (hp σ10 (g + 1) (σ10 g 3).toNat (gvn (σ10 1 7))) g 3 (σ10 g 3 + 1) := by
            rw [h12, if_neg (by have := hF1.1; have := hF1.2.1; omega)]
          have e81 : σ12 1 = σ10 1 := by rw [e12', hp_ne (by omega), hp_ne (by omega)]
          have e82 : σ12 2 = σ10 2 := by rw [e12', hp_ne (by omega), hp_ne (by omega)]
          refine ⟨((R1 B0 p0 hR0).keep e81 e82).adv.1, fun σ13 h13 => leaf _ σ12 σ13 (gvn_R _).1 h12 h13 (fun B p hR => ?_)⟩
          have hRR := R1 B p hR
          have h5' := hRR.2.2.2.1
          have k1 : tK B p = 1 := by have := Classical.not_not.mp h6; omega
          have e7 := hRR.2.2.2.2.2.2.1 k1
          refine ⟨nbr B p hR, Or.inr ⟨k1, by rw [← e7]; exact h7⟩, ?_⟩
          unfold opd
          rw [if_neg (by omega), e7]
      · have e14' : σ14 = hp (hp σ2 (g + 1) (σ2 g 3).toNat (σ2 1 8)) g 3 (σ2 g 3 + 1) := by
          rw [h14, if_neg (by have := hF1.1; have := hF1.2.1; omega)]
        have e81 : σ14 1 = σ2 1 := by rw [e14', hp_ne (by omega), hp_ne (by omega)]
        have e82 : σ14 2 = σ2 2 := by rw [e14', hp_ne (by omega), hp_ne (by omega)]
        have k20 : tK B0 p0 = 2 := by have := (R1 B0 p0 hR0).2.2.2.1; have := Classical.not_not.mp h5; omega
        have hB := hR0.2.1.n
        rw [hR0.1] at hB
        have hv := tV_num hB.1 k20
        have e8 := (R1 B0 p0 hR0).2.2.2.2.2.2.2.1 k20
        refine ⟨((R1 B0 p0 hR0).keep e81 e82).adv.1, fun σ15 h15 => leaf _ σ14 σ15 (by omega) h14 h15 (fun B p hR => ?_)⟩
        have hRR := R1 B p hR
        have k2 : tK B p = 2 := by have := hRR.2.2.2.1; have := Classical.not_not.mp h5; omega
        refine ⟨nbr B p hR, Or.inl k2, ?_⟩
        unfold opd
        rw [if_pos k2, hRR.2.2.2.2.2.2.2.1 k2]
    · have hbr' : ∀ B p, RS σ B p → tK B p = 3 ∧ tV B p = 40 := by
        intro B p hR
        refine ((R1 B p hR).sg 40).mp (Classical.byContradiction fun z => ?_)
        rw [if_neg z] at h3
        exact h3 rfl
      refine ⟨fun h7 => ⟨(R1 B0 p0 hR0).adv.1, ?_⟩, fun h7 => ⟨rfl, fun r σ' hr => ?_⟩⟩
      · intro σ16 hadv
        have A0 := (R1 B0 p0 hR0).adv.2 σ16 hadv
        have e7g : σ16 g = σ2 g := A0.1 g (by simp; omega)
        have e7g1 : σ16 (g + 1) = σ2 (g + 1) := A0.1 (g + 1) (by simp; omega)
        have F7 := hF1.eq e7g e7g1
        have ew : wr (a + 1) = a + 1 := wr_id (by omega) (by omega)
        rw [ew]
        refine ⟨⟨rfl, ⟨hg, by omega, by omega, ⟨B0, _, A0.2.2.2.2⟩, F7.1⟩, by omega, by omega⟩, ?_⟩
        intro r18 σ17 h17
        have a16 : Fr [1, g, g + 1] σ σ16 := f1.tr (Fr1 A0.1)
        have mac : ∀ B p, RS σ B p → ∀ S E, Cmp B 5 a S p → Rch B (0, p, S, E, (σ g 4).toNat) (0, tN B p, 1 :: S, E, (σ16 g 4).toNat) ∧ Cmp B 0 (a + 1) (1 :: S) (tN B p) := by
          intro B p hR S E hc
          have hc2 := hc.2.1
          refine ⟨?_, ?_, ?_, fun z => absurd z (by decide)⟩
          · refine Rch.one ?_
            rw [stM0, if_neg (nn1 B p S hc), if_pos (hbr' B p hR), if_neg (by omega), e7g, en4]
          · rw [cv0]; show (0 : Nat) < 1; decide
          · show ((dpt S + 1 : Nat) : Int) = a + 1
            omega
        refine ⟨fun h18 => ⟨Or.inl rfl, Or.inl rfl, fun B p hR => ?_⟩, fun h18 => ?_⟩
        · have ad := ((R1 B p hR).adv.2 σ16 hadv)
          obtain ⟨hf8, hx⟩ := h17.2 B _ ad.2.2.2.2
          refine ⟨⟨a16.tr hf8.1, by rw [hf8.2.1, ad.2.1, e11], by rw [hf8.2.2, e7g, e15]⟩, Or.inr ⟨rfl, ?_⟩⟩
          rcases hx with ⟨z, -⟩ | ⟨-, q2, c1, c2, c3'⟩
          · rw [h18] at z; cases z
          · refine ⟨q2, c1, c2, fun S E hc => ?_⟩
            obtain ⟨m1, m2⟩ := mac B p hR S E hc
            obtain ⟨S', E', u', n1⟩ := c3' _ E m2
            exact ⟨S', E', u', m1.tr n1⟩
        · have O : ∀ B p, RS σ B p → (Fr [1, g, g + 1] σ16 σ17 ∧ σ17 1 1 = σ16 1 1 ∧ σ17 g 5 = σ16 g 5) ∧ ∃ q L, tN B p < q ∧ OKc 0 (a + 1) g σ16 σ17 B (tN B p) q L 0 := by
            intro B p hR
            obtain ⟨x1, x2⟩ := h17.2 B _ ((R1 B p hR).adv.2 σ16 hadv).2.2.2.2
            rcases x2 with ⟨-, q, L, z1, z2⟩ | ⟨z, -⟩
            · exact ⟨x1, q, L, z1, z2⟩
            · exact absurd z h18
          obtain ⟨-, q0, L0, -, O0⟩ := O B0 p0 hR0
          refine ⟨⟨rfl, B0, q0, O0.1⟩, fun r20 σ19 h20 => ⟨fun h20' => ⟨Or.inl rfl, Or.inl rfl, fun B p hR => ?_⟩, fun h20' => ⟨Or.inr rfl, Or.inr rfl, fun B p hR => ?_⟩⟩⟩
          · have ad := ((R1 B p hR).adv.2 σ16 hadv)
            obtain ⟨hf8, q, L, hq, P⟩ := O B p hR
            have hs := h20 B q P.1
            have hsg : ¬ (tK B q = 3 ∧ tV B q = 41) := by
              intro z
              unfold sgnO at hs
              rw [if_pos z] at hs
              have := hs.1
              omega
            unfold sgnO at hs
            rw [if_neg hsg] at hs
            obtain ⟨y1, y2, y3, y4, y5⟩ := hs
            refine ⟨⟨(a16.tr hf8.1).tr (Fr1 y2), by rw [y3, hf8.2.1, ad.2.1, e11], by rw [y2 g (by simp; omega), hf8.2.2, e7g, e15]⟩, Or.inr ⟨rfl, q, y4, y5, fun S E hc => ?_⟩⟩
            obtain ⟨m1, m2⟩ := mac B p hR S E hc
            obtain ⟨R, E', n1, n2, n3, n4⟩ := P.2.2.2.2.2.2.2.2 (1 :: S) E m2
            refine ⟨R ++ 1 :: S, E', (σ17 g 4).toNat, (m1.tr n1).on ?_⟩
            rw [stM1, if_neg (fun z => hsg z.1), if_neg (fun z => z.2 (n4 z.1 (by rw [tv0]; have := tg_op ((opA_R B q).resolve_left z.1); omega))), if_pos hbr_in]
          · have ad := ((R1 B p hR).adv.2 σ16 hadv)
            obtain ⟨hf8, q, L, hq, P⟩ := O B p hR
            have hs := h20 B q P.1
            have hsg : tK B q = 3 ∧ tV B q = 41 := by
              refine Classical.byContradiction fun z => ?_
              unfold sgnO at hs
              rw [if_neg z] at hs
              exact h20' hs.1
            unfold sgnO at hs
            rw [if_pos hsg] at hs
            obtain ⟨y1, y2, y3, y4, y5, y6⟩ := hs
            have g19 : σ19 g = σ17 g := y2 g (by simp; omega)
            have g191 : σ19 (g + 1) = σ17 (g + 1) := y2 (g + 1) (by simp; omega)
            obtain ⟨P1, P2, P3, P4, P5, P6, P7, P8, P9⟩ := P
            have F19 := P4.eq g19 g191
            have hB := hR.2.1.n
            rw [hR.1] at hB
            have hN := tN_R (B := B) (p := p) hB.1 hR.2.2.1
            have hS := tS_R (B := B) (p := p) hB.1 hR.2.2.1
            have hN2 := tN_R (B := B) (p := q) hB.1 P1.2.2.1
            have hS2 := tS_R (B := B) (p := q) hB.1 P1.2.2.1
            have P7' : σ17 g 3 + (1 + (a + 1)) ≤ σ16 g 3 + 9 * (σ17 g 4 - σ16 g 4) := P7
            rw [e7g] at P7' P6 P8
            rw [e7g1] at P8
            refine ⟨⟨(a16.tr hf8.1).tr (Fr1 y2), by rw [y3, hf8.2.1, ad.2.1, e11], by rw [g19, hf8.2.2, e7g, e15]⟩, Or.inl ⟨rfl, tN B q, L, by omega, y6, by rw [y4, P2, ad.2.2.1, e11], by rw [y5, P3, ad.2.2.2.1, e11], F19.1, ?_, ?_, ?_, ?_, fun S E hc => ?_⟩⟩
            · rw [F19.2, P5, F7.2, hrd]
            · rw [g19]; omega
            · rw [g19]; show σ17 g 3 + 8 ≤ _; omega
            · rw [g19, g191, P8, e13, e1g]
            · obtain ⟨m1, m2⟩ := mac B p hR S E hc
              obtain ⟨R, E', n1, n2, n3, n4⟩ := P9 (1 :: S) E m2
              refine ⟨[], E' ++ R, (m1.tr n1).on ?_, AllT.nil, by rw [List.append_nil]; exact n3, fun z0 z1 => ?_⟩
              · rw [stM1, if_pos ⟨hsg, hbr_in⟩, cls_all (t := 0) (n2.mono (by omega)) (fun x S' e => by injection e with e1 e2; exact Or.inl e1.symm), g19]
                rfl
              · rw [tv5] at z1
                have := tg_op ((opA_R B (tN B q)).resolve_left z0)
                omega
      · refine bad r σ' hr (fun B p hR S E hc => ?_)
        have hc2 := hc.2.1
        rw [stM0, if_neg (nn1 B p S hc), if_pos (hbr' B p hR), if_pos (by omega)]
  · intro r σ' hr
    refine ⟨Or.inl hr.1, Or.inl hr.1, fun B p hR => ?_⟩
    obtain ⟨y1, y2, y3, y4, y5⟩ := hR.rf hr
    refine ⟨⟨Fr1 y2, y3, by rw [y2 g (by simp; omega)]⟩, Or.inr ⟨y1, p, y4, y5, fun S E hc => ⟨S, E, (σ g 4).toNat, Rch.one ?_⟩⟩⟩
    rw [stM0, if_neg (nn1 B p S hc)]
    by_cases z : tK B p = 3 ∧ tV B p = 40
    · rw [if_pos z, if_pos (by omega)]
    · rw [if_neg z, if_neg (by omega)]
def Rd_part_I : List AV → Hp → Nat → Nat → List AV → List AV → Hp → Prop := fun as σ0 pc n st ls σ => (match as with
    | [.inr (.inr (.inl (k, 0, 5))), .inr (.inr (.inl (q1, 0, 2))), .inl a2, .inl a3] => False
    | _ => False)
def Rd_part_ct (nn : Nat) : Nat → Ct := fun n => match n with
  | 0 => Rd_one_cs nn
  | 1 => Rd_unit_cs nn
  | 2 => Rd_chain_cs nn
  | _ => Rd_part_cs nn
set_option maxRecDepth 20000 in
set_option maxHeartbeats 4000000 in
theorem Rd_part_met {l : Launch} {D : va_G} {ad : Nat → Nat} {ca : Nat → ClassId} {L : Nat} {fx : Nat → Int} (nn : Nat) (h_Rd_one : ax_MC l D ad ca L fx yX5_one cX5_one 4 (some .boolean) (nn + 12) (Rd_one_cs nn)) (h_Rd_unit : ax_MC l D ad ca L fx yX5_unit cX5_unit 3 (some .boolean) (nn + 12) (Rd_unit_cs nn)) (h_Rd_chain : ax_MC l D ad ca L fx yX5_chain cX5_chain 6 (some .boolean) (nn + 12) (Rd_chain_cs nn)) : ax_MC l D ad ca L fx yX5_part cX5_part 4 (some .boolean) (nn + 1 + 12) (Rd_part_cs (nn + 1)) := by
  refine ax_met (oc := 5) (ct := Rd_part_ct nn) (calls := Rd_part_cl) (bs := Rd_part_bk) (cut := fun pc => false) (f := 4) (I := Rd_part_I) (by decide) rfl rfl Rd_part_ck (List.forall_mem_cons.mpr ⟨ax_cwV h_Rd_one (by omega) (by decide) rfl (by decide) rfl (ax_m3 101 (by decide +kernel) rfl) Rd_one_w rfl Rd_one_ds, List.forall_mem_cons.mpr ⟨ax_cwV h_Rd_unit (by omega) (by decide) rfl (by decide) rfl (ax_m3 116 (by decide +kernel) rfl) Rd_unit_w rfl Rd_unit_ds, List.forall_mem_cons.mpr ⟨ax_cwV h_Rd_chain (by omega) (by decide) rfl (by decide) rfl (ax_m3 93 (by decide +kernel) rfl) Rd_chain_w rfl Rd_chain_ds, fun _ h => absurd h List.not_mem_nil⟩⟩⟩) ?_ ?_
  · intro as σ0 hp hH
    match as, hp with
    | [.inr (.inr (.inl (k, 0, 5))), .inr (.inr (.inl (q1, 0, 2))), .inl a2, .inl a3], hp => exact ⟨rfl, Rd_part_p nn k q1 a2 a3 σ0 hH hp⟩
  · intro as σ0 hp n pc st ls σ hH hI
    match as, hp, hI with
    | [.inr (.inr (.inl (k, 0, 5))), .inr (.inr (.inl (q1, 0, 2))), .inl a2, .inl a3], hp, hI => exact False.elim hI
def Rd_chain_I : List AV → Hp → Nat → Nat → List AV → List AV → Hp → Prop := fun as σ0 pc n st ls σ => (match as with
    | [.inr (.inr (.inl (k, 0, 5))), .inr (.inr (.inl (q1, 0, 2))), .inl a2, .inl a3] => (bif Nat.beq pc 17 then (match st, ls with
      | [], [.inr (.inr (.inl (k', 0, 5))), .inr (.inr (.inl (q1', 0, 2))), .inl a2', .inl a3', .inl v4, _] => k = k' ∧ q1 = q1' ∧ a2 = a2' ∧ a3 = a3' ∧ Rd_chain_I17 k q1 a2 a3 σ0 n v4 σ
      | _, _ => False) else False)
    | _ => False)
def Rd_chain_ct (nn : Nat) : Nat → Ct := fun n => match n with
  | 0 => Rd_part_cs nn
  | 1 => Rd_jointAt_cs
  | 2 => Rd_advance_cs
  | 3 => Fo_append_cs
  | 4 => Rd_refuse_cs
  | _ => Rd_chain_cs nn
set_option maxRecDepth 20000 in
set_option maxHeartbeats 4000000 in
theorem Rd_chain_met {l : Launch} {D : va_G} {ad : Nat → Nat} {ca : Nat → ClassId} {L : Nat} {fx : Nat → Int} (nn : Nat) (h_Rd_part : ax_MC l D ad ca L fx yX5_part cX5_part 4 (some .boolean) (nn + 12) (Rd_part_cs nn)) : ax_MC l D ad ca L fx yX5_chain cX5_chain 6 (some .boolean) (nn + 1 + 12) (Rd_chain_cs (nn + 1)) := by
  refine ax_met (oc := 5) (ct := Rd_chain_ct nn) (calls := Rd_chain_cl) (bs := Rd_chain_bk) (cut := fun pc => Nat.beq pc 17) (f := 7) (I := Rd_chain_I) (by decide) rfl rfl Rd_chain_ck (List.forall_mem_cons.mpr ⟨ax_cwV h_Rd_part (by omega) (by decide) rfl (by decide) rfl (ax_m3 97 (by decide +kernel) rfl) Rd_part_w rfl Rd_part_ds, List.forall_mem_cons.mpr ⟨ax_cwV Rd_jointAt_met (by omega) (by decide) rfl (by decide) rfl (ax_m3 110 (by decide +kernel) rfl) Rd_jointAt_w rfl Rd_jointAt_ds, List.forall_mem_cons.mpr ⟨ax_cwV Rd_advance_met (by omega) (by decide) rfl (by decide) rfl (ax_m2 166 (by decide +kernel) rfl) Rd_advance_w rfl Rd_advance_ds, List.forall_mem_cons.mpr ⟨ax_cwV Fo_append_met (by omega) (by decide) rfl (by decide) rfl (ax_m3 106 (by decide +kernel) rfl) Fo_append_w rfl Fo_append_ds, List.forall_mem_cons.mpr ⟨ax_cwV Rd_refuse_met (by omega) (by decide) rfl (by decide) rfl (ax_m3 37 (by decide +kernel) rfl) Rd_refuse_w rfl Rd_refuse_ds, fun _ h => absurd h List.not_mem_nil⟩⟩⟩⟩⟩) ?_ ?_
  · intro as σ0 hp hH
    match as, hp with
    | [.inr (.inr (.inl (k, 0, 5))), .inr (.inr (.inl (q1, 0, 2))), .inl a2, .inl a3], hp => exact ⟨rfl, Rd_chain_p nn k q1 a2 a3 σ0 hH hp⟩
  · intro as σ0 hp n pc st ls σ hH hI
    match as, hp, hI with
    | [.inr (.inr (.inl (k, 0, 5))), .inr (.inr (.inl (q1, 0, 2))), .inl a2, .inl a3], hp, hI =>
      rcases ax_bifE hI with ⟨hpc, hI⟩ | ⟨-, hI⟩
      · have := Nat.eq_of_beq_eq_true hpc
        subst this
        match st, ls, hI with
        | [], [.inr (.inr (.inl (k', 0, 5))), .inr (.inr (.inl (q1', 0, 2))), .inl a2', .inl a3', .inl v4, _], hI =>
          obtain ⟨rfl, rfl, rfl, rfl, hI⟩ := hI
          exact Rd_chain_p17 nn k q1 a2 a3 σ0 hp n v4 σ hH hI
      exact False.elim hI
def Rd_one_I : List AV → Hp → Nat → Nat → List AV → List AV → Hp → Prop := fun as σ0 pc n st ls σ => (match as with
    | [.inr (.inr (.inl (k, 0, 5))), .inr (.inr (.inl (q1, 0, 2))), .inl a2] => False
    | _ => False)
def Rd_one_ct (nn : Nat) : Nat → Ct := fun n => match n with
  | 0 => Rd_isWord_cs
  | 1 => Rd_refuse_cs
  | 2 => Rd_advance_cs
  | 3 => Rd_one_cs nn
  | 4 => Fo_append_cs
  | 5 => Rd_chain_cs nn
  | 6 => Rd_jointAt_cs
  | _ => Rd_one_cs nn
set_option maxRecDepth 20000 in
set_option maxHeartbeats 4000000 in
theorem Rd_one_met {l : Launch} {D : va_G} {ad : Nat → Nat} {ca : Nat → ClassId} {L : Nat} {fx : Nat → Int} (nn : Nat) (h_Rd_one : ax_MC l D ad ca L fx yX5_one cX5_one 4 (some .boolean) (nn + 12) (Rd_one_cs nn)) (h_Rd_chain : ax_MC l D ad ca L fx yX5_chain cX5_chain 6 (some .boolean) (nn + 12) (Rd_chain_cs nn)) : ax_MC l D ad ca L fx yX5_one cX5_one 4 (some .boolean) (nn + 1 + 12) (Rd_one_cs (nn + 1)) := by
  refine ax_met (oc := 5) (ct := Rd_one_ct nn) (calls := Rd_one_cl) (bs := Rd_one_bk) (cut := fun pc => false) (f := 8) (I := Rd_one_I) (by decide) rfl rfl Rd_one_ck (List.forall_mem_cons.mpr ⟨ax_cwV Rd_isWord_met (by omega) (by decide) rfl (by decide) rfl (ax_m3 65 (by decide +kernel) rfl) Rd_isWord_w rfl Rd_isWord_ds, List.forall_mem_cons.mpr ⟨ax_cwV Rd_refuse_met (by omega) (by decide) rfl (by decide) rfl (ax_m3 37 (by decide +kernel) rfl) Rd_refuse_w rfl Rd_refuse_ds, List.forall_mem_cons.mpr ⟨ax_cwV Rd_advance_met (by omega) (by decide) rfl (by decide) rfl (ax_m2 166 (by decide +kernel) rfl) Rd_advance_w rfl Rd_advance_ds, List.forall_mem_cons.mpr ⟨ax_cwV h_Rd_one (by omega) (by decide) rfl (by decide) rfl (ax_m3 101 (by decide +kernel) rfl) Rd_one_w rfl Rd_one_ds, List.forall_mem_cons.mpr ⟨ax_cwV Fo_append_met (by omega) (by decide) rfl (by decide) rfl (ax_m3 106 (by decide +kernel) rfl) Fo_append_w rfl Fo_append_ds, List.forall_mem_cons.mpr ⟨ax_cwV h_Rd_chain (by omega) (by decide) rfl (by decide) rfl (ax_m3 93 (by decide +kernel) rfl) Rd_chain_w rfl Rd_chain_ds, List.forall_mem_cons.mpr ⟨ax_cwV Rd_jointAt_met (by omega) (by decide) rfl (by decide) rfl (ax_m3 110 (by decide +kernel) rfl) Rd_jointAt_w rfl Rd_jointAt_ds, fun _ h => absurd h List.not_mem_nil⟩⟩⟩⟩⟩⟩⟩) ?_ ?_
  · intro as σ0 hp hH
    match as, hp with
    | [.inr (.inr (.inl (k, 0, 5))), .inr (.inr (.inl (q1, 0, 2))), .inl a2], hp => exact ⟨rfl, Rd_one_p nn k q1 a2 σ0 hH hp⟩
  · intro as σ0 hp n pc st ls σ hH hI
    match as, hp, hI with
    | [.inr (.inr (.inl (k, 0, 5))), .inr (.inr (.inl (q1, 0, 2))), .inl a2], hp, hI => exact False.elim hI
def Rd_unit_I : List AV → Hp → Nat → Nat → List AV → List AV → Hp → Prop := fun as σ0 pc n st ls σ => (match as with
    | [.inr (.inr (.inl (k, 0, 5))), .inr (.inr (.inl (q1, 0, 2))), .inl a2] => False
    | _ => False)
def Rd_unit_ct (nn : Nat) : Nat → Ct := fun n => match n with
  | 0 => Rd_refuse_cs
  | 1 => Rd_isSign_cs
  | 2 => Rd_advance_cs
  | 3 => Rd_chain_cs nn
  | 4 => Rd_readSign_cs
  | 5 => Fo_append_cs
  | 6 => Rd_givenAt_cs
  | _ => Rd_unit_cs nn
set_option maxRecDepth 20000 in
set_option maxHeartbeats 4000000 in
theorem Rd_unit_met {l : Launch} {D : va_G} {ad : Nat → Nat} {ca : Nat → ClassId} {L : Nat} {fx : Nat → Int} (nn : Nat) (h_Rd_chain : ax_MC l D ad ca L fx yX5_chain cX5_chain 6 (some .boolean) (nn + 12) (Rd_chain_cs nn)) : ax_MC l D ad ca L fx yX5_unit cX5_unit 3 (some .boolean) (nn + 1 + 12) (Rd_unit_cs (nn + 1)) := by
  refine ax_met (oc := 5) (ct := Rd_unit_ct nn) (calls := Rd_unit_cl) (bs := Rd_unit_bk) (cut := fun pc => false) (f := 10) (I := Rd_unit_I) (by decide) rfl rfl Rd_unit_ck (List.forall_mem_cons.mpr ⟨ax_cwV Rd_refuse_met (by omega) (by decide) rfl (by decide) rfl (ax_m3 37 (by decide +kernel) rfl) Rd_refuse_w rfl Rd_refuse_ds, List.forall_mem_cons.mpr ⟨ax_cwV Rd_isSign_met (by omega) (by decide) rfl (by decide) rfl (ax_m3 75 (by decide +kernel) rfl) Rd_isSign_w rfl Rd_isSign_ds, List.forall_mem_cons.mpr ⟨ax_cwV Rd_advance_met (by omega) (by decide) rfl (by decide) rfl (ax_m2 166 (by decide +kernel) rfl) Rd_advance_w rfl Rd_advance_ds, List.forall_mem_cons.mpr ⟨ax_cwV h_Rd_chain (by omega) (by decide) rfl (by decide) rfl (ax_m3 93 (by decide +kernel) rfl) Rd_chain_w rfl Rd_chain_ds, List.forall_mem_cons.mpr ⟨ax_cwV Rd_readSign_met (by omega) (by decide) rfl (by decide) rfl (ax_m3 71 (by decide +kernel) rfl) Rd_readSign_w rfl Rd_readSign_ds, List.forall_mem_cons.mpr ⟨ax_cwV Fo_append_met (by omega) (by decide) rfl (by decide) rfl (ax_m3 106 (by decide +kernel) rfl) Fo_append_w rfl Fo_append_ds, List.forall_mem_cons.mpr ⟨ax_cwV Rd_givenAt_met (by omega) (by decide) rfl (by decide) rfl (ax_m3 120 (by decide +kernel) rfl) Rd_givenAt_w rfl Rd_givenAt_ds, fun _ h => absurd h List.not_mem_nil⟩⟩⟩⟩⟩⟩⟩) ?_ ?_
  · intro as σ0 hp hH
    match as, hp with
    | [.inr (.inr (.inl (k, 0, 5))), .inr (.inr (.inl (q1, 0, 2))), .inl a2], hp => exact ⟨rfl, Rd_unit_p nn k q1 a2 σ0 hH hp⟩
  · intro as σ0 hp n pc st ls σ hH hI
    match as, hp, hI with
    | [.inr (.inr (.inl (k, 0, 5))), .inr (.inr (.inl (q1, 0, 2))), .inl a2], hp, hI => exact False.elim hI
theorem Rd_rec {l : Launch} {D : va_G} {ad : Nat → Nat} {ca : Nat → ClassId} {L : Nat} {fx : Nat → Int} : ∀ n : Nat, ax_MC l D ad ca L fx yX5_chain cX5_chain 6 (some .boolean) (n + 12) (Rd_chain_cs n) ∧ ax_MC l D ad ca L fx yX5_part cX5_part 4 (some .boolean) (n + 12) (Rd_part_cs n) ∧ ax_MC l D ad ca L fx yX5_one cX5_one 4 (some .boolean) (n + 12) (Rd_one_cs n) ∧ ax_MC l D ad ca L fx yX5_unit cX5_unit 3 (some .boolean) (n + 12) (Rd_unit_cs n) := by
  intro n
  induction n with
  | zero =>
    refine ⟨?_, ?_, ?_, ?_⟩
    · intro as σ sz hlen hpre
      have h : (Rd_chain_cs 0).2.2.2.2.1 as σ := hpre
      unfold Rd_chain_cs at h
      dsimp only at h
      split at h
      · obtain ⟨-, ⟨-, -, h1, -⟩, h2, h3⟩ := h; omega
      · exact False.elim h
    · intro as σ sz hlen hpre
      have h : (Rd_part_cs 0).2.2.2.2.1 as σ := hpre
      unfold Rd_part_cs at h
      dsimp only at h
      split at h
      · obtain ⟨-, ⟨-, -, h1, -⟩, h2, h3⟩ := h; omega
      · exact False.elim h
    · intro as σ sz hlen hpre
      have h : (Rd_one_cs 0).2.2.2.2.1 as σ := hpre
      unfold Rd_one_cs at h
      dsimp only at h
      split at h
      · obtain ⟨-, ⟨-, -, h1, -⟩, h3⟩ := h; omega
      · exact False.elim h
    · intro as σ sz hlen hpre
      have h : (Rd_unit_cs 0).2.2.2.2.1 as σ := hpre
      unfold Rd_unit_cs at h
      dsimp only at h
      split at h
      · obtain ⟨-, ⟨-, -, h1, -⟩, h3⟩ := h; omega
      · exact False.elim h
  | succ n ih => exact ⟨Rd_chain_met n ih.2.1, Rd_part_met n ih.2.2.1 ih.2.2.2 ih.1, Rd_one_met n ih.2.2.1 ih.1, Rd_unit_met n ih.1⟩
theorem Rd_chain_fin {l : Launch} {D : va_G} {ad : Nat → Nat} {ca : Nat → ClassId} {L : Nat} {fx : Nat → Int} : ax_MC l D ad ca L fx yX5_chain cX5_chain 6 (some .boolean) 163 (Rd_chain_cs 151) := (Rd_rec 151).1
