-- THE OUTLOOK: findHush
def hh (f : Nat) : List Nat := 7 :: 8 :: 10 :: hs f
def HI (σ0 σ : Hp) (f : Nat) : Prop := Fr (hh f) σ0 σ ∧ LK σ (stX σ0 31).2.1 ∧ TB σ (famX σ0 f) (stX σ0 31) (fN (famX σ0 f)) ∧ 0 ≤ σ 3 9
theorem chh {f : Nat} : ∀ c ∈ hh f, c ∈ sg f 4 ∨ c = 3 ∨ (7 ≤ c ∧ c ≤ 13) ∨ c = 34 := by
  intro c hc
  simp only [hh, List.mem_cons] at hc
  rcases hc with rfl | rfl | rfl | hc
  · omega
  · omega
  · omega
  · exact chs c hc
theorem HI.go {σ0 σ : Hp} {f : Nat} (h : HI σ0 σ f) (hW : OW σ0 f) (h12 : kn (stX σ0 31).2.1 6 ≤ 12) {a : Int} (a0 : 0 ≤ a) (a1 : a < 4096) :
    Ou_isHushed_pre 3 f 31 a σ ∧ ∀ (r : Int) (σ1 : Hp), Ou_isHushed_post 3 f 31 a σ r σ1 → HI σ0 σ1 f ∧ ((r = 1 ∧ Hsd (famX σ0 f) (stX σ0 31) a.toNat) ∨ (r = 0 ∧ ¬ Hsd (famX σ0 f) (stX σ0 31) a.toNat)) := by
  obtain ⟨hf, hL, hT, h9⟩ := h
  obtain ⟨hW1, hfam, hnow⟩ := hW.keep hf chh
  have hst : stX σ 31 = stX σ0 31 := stX_eq hnow
  have hk := hW.1
  refine ⟨⟨rfl, rfl, hW1, by rw [hst]; exact hL, by rw [hst]; exact h12, by rw [hst, hfam]; exact hT, h9, a0, a1⟩, ?_⟩
  rintro r σ1 ⟨g1, g2, g3, g4⟩
  rw [hfam, hst] at g4
  have e7 := g1 7 (hs_no hk (by omega))
  have e8 := g1 8 (hs_no hk (by omega))
  have e10 := g1 10 (hs_no hk (by omega))
  refine ⟨⟨hf.tr (g1.mono (fun c hc => List.mem_cons_of_mem _ (List.mem_cons_of_mem _ (List.mem_cons_of_mem _ hc)))), ⟨by rw [g2]; exact hL.1, fun i hi => ?_⟩, fun p hp x hx hn => ?_, g3⟩, g4⟩
  · rw [e7, e8]; exact hL.2 i hi
  · rw [e10]; exact hT p hp x hx hn
def Ou_findHush_pre (k f q : Nat) (σ : Hp) : Prop := k = 3 ∧ q = 31 ∧ OW σ f ∧ kn (stX σ 31).2.1 6 ≤ 12
def Ou_findHush_post (_k f _q : Nat) (σ : Hp) (r : Int) (σ' : Hp) : Prop := Fr (hh f) σ σ' ∧ Bst (husP (famX σ f) (stX σ 31)) (2 ^ kn (stX σ 31).2.1 6) r
def Ou_findHush_I47 (_k f _q : Nat) (σ0 : Hp) (m : Nat) (v3 v4 : Int) (σ : Hp) : Prop := ∃ z : Nat, v4 = z ∧ 1 ≤ z ∧ z ≤ kn (stX σ0 31).2.1 6 + 1 ∧ m = (20 - z) * 10000 + 5000 ∧ v3 = (2 ^ kn (stX σ0 31).2.1 6 : Nat) ∧ HI σ0 σ f ∧ ¬ (¬ (stX σ0 31).2.2.2.2.2 = 0 ∧ ¬ (stX σ0 31).2.2.1 = -1) ∧ ∀ y, y < 2 ^ kn (stX σ0 31).2.1 6 → pc y < z → ¬ Hsd (famX σ0 f) (stX σ0 31) y
def Ou_findHush_I67 (_k f _q : Nat) (σ0 : Hp) (m : Nat) (v3 v4 v5 v6 : Int) (σ : Hp) : Prop := ∃ z v t : Nat, v4 = z ∧ 1 ≤ z ∧ z ≤ kn (stX σ0 31).2.1 6 ∧ v5 = v ∧ v6 = t ∧ t ≤ v ∧ t ≤ 4096 ∧ 0 < v ∧ v < 8192 ∧ m = (20 - z) * 10000 + (4096 - t) ∧ v3 = (2 ^ kn (stX σ0 31).2.1 6 : Nat) ∧ HI σ0 σ f ∧ ¬ (¬ (stX σ0 31).2.2.2.2.2 = 0 ∧ ¬ (stX σ0 31).2.2.1 = -1) ∧ (∀ y, y < 2 ^ kn (stX σ0 31).2.1 6 → pc y < z → ¬ Hsd (famX σ0 f) (stX σ0 31) y) ∧ (∀ y, y < 2 ^ kn (stX σ0 31).2.1 6 → y < v → pc y = z → ¬ Hsd (famX σ0 f) (stX σ0 31) y) ∧ (v < 4096 → pc v = z)
def Ou_findHush_bk : List (Nat × List Item) := [(0, [(.aload_n 2, 1, [], []), (.invokevirtual 68, 3, [0], []), (.ifCond .eq 5, 3, [9], []), (.iconst (-1), 1, [], []), (.ireturn, 1, [], [])]),
  (9, [(.aload_n 0, 1, [], []), (.aload_n 2, 1, [], []), (.invokevirtual 72, 3, [1], []), (.aload_n 0, 1, [], []), (.aload_n 1, 1, [], []), (.aload_n 2, 1, [], []), (.invokevirtual 75, 3, [2], []), (.aload_n 0, 1, [], []), (.iconst 0, 1, [], []), (.putfield 79, 3, [4, 9, 0, 0, 0, 0], []), (.aload_n 0, 1, [], []), (.aload_n 1, 1, [], []), (.aload_n 2, 1, [], []), (.iconst 0, 1, [], []), (.invokevirtual 82, 3, [3], []), (.ifCond .eq 5, 3, [37], []), (.iconst 0, 1, [], []), (.ireturn, 1, [], [])]),
  (37, [(.iconst 1, 1, [], []), (.aload_n 0, 1, [], []), (.getfield 86, 3, [4, 8, 0, 0, 0, 0], []), (.ishl, 1, [], []), (.istore_n 3, 1, [], []), (.iconst 1, 1, [], []), (.istore 4, 2, [], [])]),
  (47, [(.iload 4, 2, [], []), (.aload_n 0, 1, [], []), (.getfield 86, 3, [4, 8, 0, 0, 0, 0], []), (.if_icmp .gt 61, 3, [114], []), (.iconst 1, 1, [], []), (.iload 4, 2, [], []), (.ishl, 1, [], []), (.iconst 1, 1, [], []), (.isub, 1, [], []), (.istore 5, 2, [], []), (.iconst 0, 1, [], []), (.istore 6, 2, [], [])]),
  (67, [(.iload 6, 2, [], []), (.sipush 4096, 3, [], []), (.if_icmp .ge 36, 3, [108], []), (.iload 5, 2, [], []), (.iload_n 3, 1, [], []), (.if_icmp .ge 30, 3, [108], []), (.aload_n 0, 1, [], []), (.aload_n 1, 1, [], []), (.aload_n 2, 1, [], []), (.iload 5, 2, [], []), (.invokevirtual 82, 3, [3], []), (.ifCond .eq 6, 3, [95], []), (.iload 5, 2, [], []), (.ireturn, 1, [], [])]),
  (95, [(.iload 5, 2, [], []), (.invokestatic 89, 3, [4], []), (.istore 5, 2, [], []), (.iinc 6 1, 3, [], []), (.goto (-38), 3, [67], [])]),
  (108, [(.iinc 4 1, 3, [], []), (.goto (-64), 3, [47], [])]),
  (114, [(.iconst (-1), 1, [], []), (.ireturn, 1, [], [])])]
def Ou_findHush_cl : List (Instr × Nat) := [(.invokevirtual 68, 0), (.invokevirtual 72, 1), (.invokevirtual 75, 2), (.invokevirtual 82, 3), (.invokestatic 89, 4)]
set_option maxRecDepth 20000 in
theorem Ou_findHush_ck : Ou_findHush_bk.all (fun b => ax_chB 4 7 cX4_findHush Ou_findHush_cl b.1 b.2) = true := by decide +kernel
def Ou_findHush_cs : Ct := (3, 5, 1, (0, 0), fun as σ => (match as with
    | [.inr (.inr (.inl (k, 0, 4))), .inr (.inr (.inl (q1, 0, 1))), .inr (.inr (.inl (q2, 0, 7)))] => Ou_findHush_pre k q1 q2 σ
    | _ => False), fun as σ r σ' => (match as with
    | [.inr (.inr (.inl (k, 0, 4))), .inr (.inr (.inl (q1, 0, 1))), .inr (.inr (.inl (q2, 0, 7)))] => Ou_findHush_post k q1 q2 σ r σ'
    | _ => False))
theorem Ou_findHush_w : ∀ w ∈ ([.instanceMethod yX4_findHush, .selects yX4_findHush.cls yX4_findHush yX4_findHush, .initialized yX4_findHush.cls, .code yX4_findHush cX4_findHush 7 (some .int)] : List Cond), w ∈ ax_tb := ax_w4 (ax_m4 127 (by decide +kernel) rfl) (ax_m4 128 (by decide +kernel) rfl) (ax_m1 3 (by decide +kernel) rfl) (ax_m4 129 (by decide +kernel) rfl)
theorem Ou_findHush_ds : yX4_findHush.cls ≠ "java/lang/invoke/MethodHandle" ∧ yX4_findHush.cls ≠ "java/lang/invoke/VarHandle" ∧ (parseMethodDescriptor yX4_findHush.desc).map (fun d => d.parameters.length) = some 2 := by decide +kernel
def Ou_findHush_vc : Prop := ∀ (k : Nat) (q1 : Nat) (q2 : Nat) (σ : Hp), ax_H σ → Ou_findHush_pre k q1 q2 σ →
  St_holdsFast_pre q2 σ ∧
  ∀ (r2 : Int) (σ1 : Hp), St_holdsFast_post q2 σ r2 σ1 →
  (r2 = 0 →
    Ou_listKnows_pre k q2 σ1 ∧
    ∀ σ3 : Hp, Ou_listKnows_post k q2 σ1 σ3 →
    Ou_foreseeCares_pre k q1 q2 σ3 ∧
    ∀ σ4 : Hp, Ou_foreseeCares_post k q1 q2 σ3 σ4 →
    ∀ σ5 : Hp, σ5 = hp σ4 k 9 0 →
    Ou_isHushed_pre k q1 q2 0 σ5 ∧
    ∀ (r7 : Int) (σ6 : Hp), Ou_isHushed_post k q1 q2 0 σ5 r7 σ6 →
    (r7 = 0 →
      ∃ n' : Nat, k = k ∧ q1 = q1 ∧ q2 = q2 ∧ Ou_findHush_I47 k q1 q2 σ n' (iShl 1 (σ6 k 8)) 1 σ6) ∧
    (¬ (r7 = 0) →
      Ou_findHush_post k q1 q2 σ 0 σ6)) ∧
  (¬ (r2 = 0) →
    Ou_findHush_post k q1 q2 σ (-1) σ1)
def Ou_findHush_vc47 : Prop := ∀ (k : Nat) (q1 : Nat) (q2 : Nat) (σ0 : Hp), Ou_findHush_pre k q1 q2 σ0 → ∀ (n : Nat) (v3 : Int) (v4 : Int) (σ : Hp), ax_H σ → Ou_findHush_I47 k q1 q2 σ0 n v3 v4 σ →
  (σ k 8 < v4 →
    Ou_findHush_post k q1 q2 σ0 (-1) σ) ∧
  (¬ (σ k 8 < v4) →
    ∃ n' : Nat, n' < n ∧ k = k ∧ q1 = q1 ∧ q2 = q2 ∧ Ou_findHush_I67 k q1 q2 σ0 n' v3 v4 (wr ((iShl 1 v4) - 1)) 0 σ)
def Ou_findHush_vc67 : Prop := ∀ (k : Nat) (q1 : Nat) (q2 : Nat) (σ0 : Hp), Ou_findHush_pre k q1 q2 σ0 → ∀ (n : Nat) (v3 : Int) (v4 : Int) (v5 : Int) (v6 : Int) (σ : Hp), ax_H σ → Ou_findHush_I67 k q1 q2 σ0 n v3 v4 v5 v6 σ →
  (4096 ≤ v6 →
    ∃ n' : Nat, n' < n ∧ k = k ∧ q1 = q1 ∧ q2 = q2 ∧ Ou_findHush_I47 k q1 q2 σ0 n' v3 (wr (v4 + 1)) σ) ∧
  (¬ (4096 ≤ v6) →
    (v3 ≤ v5 →
      ∃ n' : Nat, n' < n ∧ k = k ∧ q1 = q1 ∧ q2 = q2 ∧ Ou_findHush_I47 k q1 q2 σ0 n' v3 (wr (v4 + 1)) σ) ∧
    (¬ (v3 ≤ v5) →
      Ou_isHushed_pre k q1 q2 v5 σ ∧
      ∀ (r2 : Int) (σ1 : Hp), Ou_isHushed_post k q1 q2 v5 σ r2 σ1 →
      (r2 = 0 →
        Ou_nextOfSameSize_pre v5 σ1 ∧
        ∀ (r4 : Int) (σ3 : Hp), Ou_nextOfSameSize_post v5 σ1 r4 σ3 →
        ∃ n' : Nat, n' < n ∧ k = k ∧ q1 = q1 ∧ q2 = q2 ∧ Ou_findHush_I67 k q1 q2 σ0 n' v3 v4 r4 (wr (v6 + 1)) σ3) ∧
      (¬ (r2 = 0) →
        Ou_findHush_post k q1 q2 σ0 v5 σ1)))
theorem pc0 : pc 0 = 0 := by decide
theorem pc_ones : ∀ z, z ≤ 12 → pc (2 ^ z - 1) = z := by decide
theorem Ou_findHush_p : Ou_findHush_vc := by
  intro k f q σ hH hp
  obtain ⟨rfl, rfl, hW, h12⟩ := hp
  have hk := hW.1
  refine ⟨trivial, ?_⟩
  rintro r2 σ1 ⟨rfl, rfl⟩
  have hT : 2 ^ kn (stX σ1 31).2.1 6 ≤ 4096 := Nat.pow_le_pow_right (n := 2) (by decide) h12
  have hT0 : 0 < 2 ^ kn (stX σ1 31).2.1 6 := Nat.two_pow_pos _
  refine ⟨fun h2 => ?_, fun h2 => ?_⟩
  · have hfast : ¬ (¬ (stX σ1 31).2.2.2.2.2 = 0 ∧ ¬ (stX σ1 31).2.2.1 = -1) := by
      intro z
      rw [if_pos (show ¬ σ1 31 5 = 0 ∧ ¬ σ1 31 2 = -1 from z)] at h2
      omega
    refine ⟨⟨rfl, rfl, hW.2.2.1.ss, h12⟩, ?_⟩
    rintro σ3 ⟨hf3, hL3⟩
    have hf3' : Fr (hh f) σ1 σ3 := hf3.mono (by intro c hc; simp only [hh, hs, List.mem_cons, List.not_mem_nil, or_false] at *; omega)
    obtain ⟨hW3, hfam3, hnow3⟩ := hW.keep hf3' chh
    have hst3 : stX σ3 31 = stX σ1 31 := stX_eq hnow3
    refine ⟨⟨rfl, rfl, hW3⟩, ?_⟩
    rintro σ4 ⟨hf4, hT4⟩
    rw [hfam3, hst3] at hT4
    rintro σ5 rfl
    have hf4' : Fr (hh f) σ3 σ4 := hf4.mono (by
      intro c hc
      rcases List.mem_cons.mp hc with rfl | hc
      · simp [hh]
      · exact List.mem_cons_of_mem _ (List.mem_cons_of_mem _ (List.mem_cons_of_mem _ (List.mem_cons_of_mem _ (List.mem_cons_of_mem _ (sc_in hc))))))
    have hno : ∀ c, c = 3 ∨ c = 7 ∨ c = 8 → c ∉ 10 :: sc f := by
      intro c hc z
      rcases List.mem_cons.mp z with rfl | z
      · omega
      · exact fo_sc hk (by omega) z
    have hHI : HI σ1 (hp σ4 3 9 0) f := by
      refine ⟨Fr.hp (hf3'.tr hf4') (by simp [hh, hs]), ⟨?_, fun i hi => ?_⟩, fun p hp x hx hn => ?_, by rw [hp_r1]; omega⟩
      · rw [hp_r2 (by omega), hf4 3 (hno 3 (by omega))]; exact hL3.1
      · rw [hp_ne (show (7 : Nat) ≠ 3 by decide), hp_ne (show (8 : Nat) ≠ 3 by decide), hf4 7 (hno 7 (by omega)), hf4 8 (hno 8 (by omega))]
        exact hL3.2 i hi
      · rw [hp_ne (show (10 : Nat) ≠ 3 by decide)]; exact hT4 p hp x hx hn
    obtain ⟨p1, p2⟩ := hHI.go hW h12 (a := 0) (by decide) (by decide)
    refine ⟨p1, fun r7 σ6 h7 => ?_⟩
    obtain ⟨g1, g2⟩ := p2 r7 σ6 h7
    have e68 : σ6 3 8 = (kn (stX σ1 31).2.1 6 : Nat) := g1.2.1.1
    refine ⟨fun h8 => ⟨195000, rfl, rfl, rfl, 1, rfl, by omega, by omega, rfl, ?_, g1, hfast, fun y hy hpc => ?_⟩, fun h8 => ⟨g1.1, Or.inl ⟨0, hT0, rfl, ?_, fun y hy _ => ?_⟩⟩⟩
    · rw [e68, shl_1 (by omega) (by omega), Int.toNat_natCast]
    · rcases g2 with ⟨z, -⟩ | ⟨-, g2⟩
      · omega
      · have hl := low_ok (v := y) (by omega)
        have : y = 0 := by
          by_cases e : y = 0
          · exact e
          · exfalso
            have hz : pc y = 0 := by omega
            exact absurd hz (Nat.pos_iff_ne_zero.mp (pc_pos y (by omega) (by omega)))
        rw [this]; exact g2
    · rcases g2 with ⟨-, g2⟩ | ⟨z, -⟩
      · exact (hush_iff hfast 0).mpr g2
      · exact absurd z h8
    · rw [pc0]; omega
  · have hfast : ¬ (stX σ1 31).2.2.2.2.2 = 0 ∧ ¬ (stX σ1 31).2.2.1 = -1 := by
      by_cases z : ¬ σ1 31 5 = 0 ∧ ¬ σ1 31 2 = -1
      · exact z
      · rw [if_neg z] at h2; exact absurd rfl h2
    exact ⟨Fr.rf, Or.inr ⟨rfl, fun y _ => hush_not hfast y⟩⟩
theorem Ou_findHush_p47 : Ou_findHush_vc47 := by
  intro k f q σ0 hp m v3 v4 σ hH hI
  obtain ⟨rfl, rfl, hW, h12⟩ := hp
  obtain ⟨z, rfl, hz1, hzT, rfl, rfl, hHI, hfast, hno⟩ := hI
  have hT : 2 ^ kn (stX σ0 31).2.1 6 ≤ 4096 := Nat.pow_le_pow_right (n := 2) (by decide) h12
  rw [hHI.2.1.1]
  refine ⟨fun h => ⟨hHI.1, Or.inr ⟨rfl, fun y hy hP => hno y hy ?_ ((hush_iff hfast y).mp hP)⟩⟩, fun h => ?_⟩
  · have := pc_le_of (v := y) (by omega) hy
    omega
  · have h2z : 2 ^ z ≤ 4096 := Nat.pow_le_pow_right (n := 2) (by decide) (show z ≤ 12 by omega)
    have h2z1 : 2 ^ 1 ≤ 2 ^ z := Nat.pow_le_pow_right (by decide) hz1
    refine ⟨(20 - z) * 10000 + 4096, by omega, rfl, rfl, rfl, z, 2 ^ z - 1, 0, rfl, hz1, by omega, ?_, rfl, by omega, by omega, by omega, by omega, rfl, rfl, hHI, hfast, hno, fun y hy hyv hpc => ?_, fun _ => pc_ones z (by omega)⟩
    · rw [shl_1 (by omega) (by omega), Int.toNat_natCast, wr_id (by omega) (by omega)]; omega
    · have := low_ok (v := y) (by omega)
      rw [hpc] at this
      omega
theorem Ou_findHush_p67 : Ou_findHush_vc67 := by
  intro k f q σ0 hp m v3 v4 v5 v6 σ hH hI
  obtain ⟨rfl, rfl, hW, h12⟩ := hp
  obtain ⟨z, v, t, rfl, hz1, hzT, rfl, rfl, htv, ht, hv0, hv1, rfl, rfl, hHI, hfast, hno, hno2, hpv⟩ := hI
  have hT : 2 ^ kn (stX σ0 31).2.1 6 ≤ 4096 := Nat.pow_le_pow_right (n := 2) (by decide) h12
  have out : 2 ^ kn (stX σ0 31).2.1 6 ≤ v → ∃ n' : Nat, n' < (20 - z) * 10000 + (4096 - t) ∧ (3 : Nat) = 3 ∧ f = f ∧ (31 : Nat) = 31 ∧ Ou_findHush_I47 3 f 31 σ0 n' (2 ^ kn (stX σ0 31).2.1 6 : Nat) (wr ((z : Int) + 1)) σ := by
    intro hv
    refine ⟨(20 - (z + 1)) * 10000 + 5000, by omega, rfl, rfl, rfl, z + 1, by rw [wr1 (by omega) (by omega)]; simp, by omega, by omega, rfl, rfl, hHI, hfast, fun y hy hpc => ?_⟩
    by_cases e : pc y = z
    · exact hno2 y hy (by omega) e
    · exact hno y hy (by omega)
  refine ⟨fun h => out (by omega), fun h => ⟨fun h2 => out (by omega), fun h2 => ?_⟩⟩
  have hv4 : v < 4096 := by omega
  obtain ⟨p1, p2⟩ := hHI.go hW h12 (a := (v : Int)) (by omega) (by omega)
  refine ⟨p1, fun r2 σ1 hr => ?_⟩
  obtain ⟨g1, g2⟩ := p2 r2 σ1 hr
  rw [Int.toNat_natCast] at g2
  refine ⟨fun h3 => ⟨⟨by omega, by omega⟩, ?_⟩, fun h3 => ⟨g1.1, Or.inl ⟨v, by omega, rfl, ?_, fun y hy hP => ?_⟩⟩⟩
  · rintro r4 σ3 ⟨rfl, rfl⟩
    rw [Int.toNat_natCast]
    obtain ⟨q1, q2, q3, q4, -⟩ := gos_ok hv0 hv4
    have hnv : ¬ Hsd (famX σ0 f) (stX σ0 31) v := by
      rcases g2 with ⟨y, -⟩ | ⟨-, y⟩
      · omega
      · exact y
    refine ⟨(20 - z) * 10000 + (4096 - (t + 1)), by omega, rfl, rfl, rfl, z, gos v, t + 1, rfl, hz1, hzT, rfl, by rw [wr1 (by omega) (by omega)]; simp, by omega, by omega, by omega, q2, rfl, rfl, g1, hfast, hno, fun y hy hyv hpc => ?_, fun hl => by rw [q3 hl, hpv hv4]⟩
    rcases Nat.lt_trichotomy y v with e | e | e
    · exact hno2 y hy e hpc
    · rw [e]; exact hnv
    · exact absurd (by rw [hpc, hpv hv4]) (q4 y e hyv (by omega))
  · rcases g2 with ⟨-, g2⟩ | ⟨y, -⟩
    · exact (hush_iff hfast v).mpr g2
    · exact absurd y h3
  · have hS := (hush_iff hfast y).mp hP
    have n1 : ¬ pc y < z := fun e => hno y hy e hS
    rw [hpv hv4]
    by_cases e : pc y = z
    · have n2 : ¬ y < v := fun e2 => hno2 y hy e2 e hS
      omega
    · omega
def Ou_findHush_I : List AV → Hp → Nat → Nat → List AV → List AV → Hp → Prop := fun as σ0 pc n st ls σ => (match as with
    | [.inr (.inr (.inl (k, 0, 4))), .inr (.inr (.inl (q1, 0, 1))), .inr (.inr (.inl (q2, 0, 7)))] => (bif Nat.beq pc 47 then (match st, ls with
      | [], [.inr (.inr (.inl (k', 0, 4))), .inr (.inr (.inl (q1', 0, 1))), .inr (.inr (.inl (q2', 0, 7))), .inl v3, .inl v4, _, _] => k = k' ∧ q1 = q1' ∧ q2 = q2' ∧ Ou_findHush_I47 k q1 q2 σ0 n v3 v4 σ
      | _, _ => False) else (bif Nat.beq pc 67 then (match st, ls with
      | [], [.inr (.inr (.inl (k', 0, 4))), .inr (.inr (.inl (q1', 0, 1))), .inr (.inr (.inl (q2', 0, 7))), .inl v3, .inl v4, .inl v5, .inl v6] => k = k' ∧ q1 = q1' ∧ q2 = q2' ∧ Ou_findHush_I67 k q1 q2 σ0 n v3 v4 v5 v6 σ
      | _, _ => False) else False))
    | _ => False)
def Ou_findHush_ct : Nat → Ct := fun n => match n with
  | 0 => St_holdsFast_cs
  | 1 => Ou_listKnows_cs
  | 2 => Ou_foreseeCares_cs
  | 3 => Ou_isHushed_cs
  | 4 => Ou_nextOfSameSize_cs
  | _ => Ou_findHush_cs
set_option maxRecDepth 20000 in
set_option maxHeartbeats 4000000 in
theorem Ou_findHush_met {l : Launch} {D : va_G} {ad : Nat → Nat} {ca : Nat → ClassId} {L : Nat} {fx : Nat → Int} : ax_MC l D ad ca L fx yX4_findHush cX4_findHush 7 (some .int) 5 Ou_findHush_cs := by
  refine ax_met (oc := 4) (ct := Ou_findHush_ct) (calls := Ou_findHush_cl) (bs := Ou_findHush_bk) (cut := fun pc => Nat.beq pc 47 || Nat.beq pc 67) (f := 9) (I := Ou_findHush_I) (by decide) rfl rfl Ou_findHush_ck (List.forall_mem_cons.mpr ⟨ax_cwV St_holdsFast_met (by decide) (by decide) rfl (by decide) rfl (ax_m4 130 (by decide +kernel) rfl) St_holdsFast_w rfl St_holdsFast_ds, List.forall_mem_cons.mpr ⟨ax_cwV Ou_listKnows_met (by decide) (by decide) rfl (by decide) rfl (ax_m4 131 (by decide +kernel) rfl) Ou_listKnows_w rfl Ou_listKnows_ds, List.forall_mem_cons.mpr ⟨ax_cwV Ou_foreseeCares_met (by decide) (by decide) rfl (by decide) rfl (ax_m4 136 (by decide +kernel) rfl) Ou_foreseeCares_w rfl Ou_foreseeCares_ds, List.forall_mem_cons.mpr ⟨ax_cwV Ou_isHushed_met (by decide) (by decide) rfl (by decide) rfl (ax_m4 141 (by decide +kernel) rfl) Ou_isHushed_w rfl Ou_isHushed_ds, List.forall_mem_cons.mpr ⟨ax_cwS Ou_nextOfSameSize_met (by decide) (by decide) (ax_m4 146 (by decide +kernel) rfl) Ou_nextOfSameSize_w rfl Ou_nextOfSameSize_ds, fun _ h => absurd h List.not_mem_nil⟩⟩⟩⟩⟩) ?_ ?_
  · intro as σ0 hp hH
    match as, hp with
    | [.inr (.inr (.inl (k, 0, 4))), .inr (.inr (.inl (q1, 0, 1))), .inr (.inr (.inl (q2, 0, 7)))], hp => exact ⟨rfl, Ou_findHush_p k q1 q2 σ0 hH hp⟩
  · intro as σ0 hp n pc st ls σ hH hI
    match as, hp, hI with
    | [.inr (.inr (.inl (k, 0, 4))), .inr (.inr (.inl (q1, 0, 1))), .inr (.inr (.inl (q2, 0, 7)))], hp, hI =>
      rcases ax_bifE hI with ⟨hpc, hI⟩ | ⟨-, hI⟩
      · have := Nat.eq_of_beq_eq_true hpc
        subst this
        match st, ls, hI with
        | [], [.inr (.inr (.inl (k', 0, 4))), .inr (.inr (.inl (q1', 0, 1))), .inr (.inr (.inl (q2', 0, 7))), .inl v3, .inl v4, _, _], hI =>
          obtain ⟨rfl, rfl, rfl, hI⟩ := hI
          exact Ou_findHush_p47 k q1 q2 σ0 hp n v3 v4 σ hH hI
      rcases ax_bifE hI with ⟨hpc, hI⟩ | ⟨-, hI⟩
      · have := Nat.eq_of_beq_eq_true hpc
        subst this
        match st, ls, hI with
        | [], [.inr (.inr (.inl (k', 0, 4))), .inr (.inr (.inl (q1', 0, 1))), .inr (.inr (.inl (q2', 0, 7))), .inl v3, .inl v4, .inl v5, .inl v6], hI =>
          obtain ⟨rfl, rfl, rfl, hI⟩ := hI
          exact Ou_findHush_p67 k q1 q2 σ0 hp n v3 v4 v5 v6 σ hH hI
      exact False.elim hI
