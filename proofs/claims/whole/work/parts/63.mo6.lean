-- THE MODEL: calm, law, path, who knows whom
theorem tr0 : (if (0 : Int) = 0 then (0 : Int) else 1) = 0 := rfl
theorem tr1 : (if (1 : Int) = 0 then (0 : Int) else 1) = 1 := rfl
theorem mxw_R (F : Fam) (s : Sta) : ∀ n, -1 ≤ mxw F s n ∧ mxw F s n ≤ 999 := by
  intro n
  induction n with
  | zero => exact ⟨Int.le_refl (-1), (by decide : (-1 : Int) ≤ 999)⟩
  | succ n ih =>
    have := wry_R F s n
    show -1 ≤ max (mxw F s n) (wry F s n) ∧ max (mxw F s n) (wry F s n) ≤ 999
    omega
def Mo_calm_pre (k : Nat) (σ : Hp) : Prop := k = 67 ∧ MP σ
def Mo_calm_post (_k : Nat) (σ : Hp) (r : Int) (σ' : Hp) : Prop := MQo σ σ' ∧ ∀ d, s_calm (mA d σ) r (mA d σ')
def Mo_calm_I46 (_k : Nat) (σ0 : Hp) (n : Nat) (v1 v2 : Int) (σ : Hp) : Prop := ∃ i : Nat, v2 = i ∧ i ≤ (σ0 67 42).toNat ∧ n = 6 - i ∧ Fr af σ0 σ ∧ AP σ ∧ ¬ (¬ (nowM σ0).2.2.2.2.2 = 0 ∧ ¬ (nowM σ0).2.2.1 = -1) ∧ (∀ d, airM σ = clmS (famM d σ0) (nowM σ0)) ∧ ∀ d, v1 = mxw (famM d σ0) (clmS (famM d σ0) (nowM σ0)) i
def Mo_calm_bk : List (Nat × List Item) := [(0, [(.aload_n 0, 1, [], []), (.getfield 85, 3, [9, 46, 4, 23, 1, 16], []), (.bipush 13, 2, [], []), (.iaload, 1, [], []), (.iconst 1, 1, [], []), (.if_icmp .ne 15, 3, [23], []), (.aload_n 0, 1, [], []), (.getfield 85, 3, [9, 46, 4, 23, 1, 16], []), (.bipush 12, 2, [], []), (.iaload, 1, [], []), (.ifCond .lt 5, 3, [23], []), (.iconst (-1), 1, [], []), (.ireturn, 1, [], [])]),
  (23, [(.aload_n 0, 1, [], []), (.invokevirtual 401, 3, [0], []), (.aload_n 0, 1, [], []), (.invokevirtual 392, 3, [1], []), (.aload_n 0, 1, [], []), (.getfield 88, 3, [9, 47, 4, 24, 1, 16], []), (.bipush 14, 2, [], []), (.dup2, 1, [], []), (.iaload, 1, [], []), (.iconst 1, 1, [], []), (.iadd, 1, [], []), (.iastore, 1, [], []), (.iconst (-1), 1, [], []), (.istore_n 1, 1, [], []), (.iconst 0, 1, [], []), (.istore_n 2, 1, [], [])]),
  (46, [(.iload_n 2, 1, [], []), (.aload_n 0, 1, [], []), (.getfield 304, 3, [9, 42, 0, 0, 0, 0], []), (.if_icmp .ge 28, 3, [79], []), (.aload_n 0, 1, [], []), (.iload_n 2, 1, [], []), (.invokevirtual 389, 3, [2], []), (.iload_n 1, 1, [], []), (.if_icmp .le 11, 3, [71], []), (.aload_n 0, 1, [], []), (.iload_n 2, 1, [], []), (.invokevirtual 389, 3, [2], []), (.goto 4, 3, [72], [])]),
  (71, [(.iload_n 1, 1, [], [])]),
  (72, [(.istore_n 1, 1, [], []), (.iinc 2 1, 3, [], []), (.goto (-30), 3, [46], [])]),
  (79, [(.iload_n 1, 1, [], []), (.sipush 999, 3, [], []), (.if_icmp .ge 9, 3, [92], []), (.iload_n 1, 1, [], []), (.iconst 1, 1, [], []), (.iadd, 1, [], []), (.goto 4, 3, [93], [])]),
  (92, [(.iconst (-1), 1, [], [])]),
  (93, [(.ireturn, 1, [], [])])]
def Mo_calm_cl : List (Instr × Nat) := [(.invokevirtual 401, 0), (.invokevirtual 392, 1), (.invokevirtual 389, 2)]
set_option maxRecDepth 20000 in
theorem Mo_calm_ck : Mo_calm_bk.all (fun b => ax_chB 9 3 cX9_calm Mo_calm_cl b.1 b.2) = true := by decide +kernel
def Mo_calm_cs : Ct := (1, 10, 1, (0, 0), fun as σ => (match as with
    | [.inr (.inr (.inl (k, 0, 9)))] => Mo_calm_pre k σ
    | _ => False), fun as σ r σ' => (match as with
    | [.inr (.inr (.inl (k, 0, 9)))] => Mo_calm_post k σ r σ'
    | _ => False))
theorem Mo_calm_w : ∀ w ∈ ([.instanceMethod yX9_calm, .selects yX9_calm.cls yX9_calm yX9_calm, .initialized yX9_calm.cls, .code yX9_calm cX9_calm 3 (some .int)] : List Cond), w ∈ ax_tb := ax_w4 (ax_m8 19 (by decide +kernel) rfl) (ax_m8 20 (by decide +kernel) rfl) (ax_m1 10 (by decide +kernel) rfl) (ax_m8 21 (by decide +kernel) rfl)
theorem Mo_calm_ds : yX9_calm.cls ≠ "java/lang/invoke/MethodHandle" ∧ yX9_calm.cls ≠ "java/lang/invoke/VarHandle" ∧ (parseMethodDescriptor yX9_calm.desc).map (fun d => d.parameters.length) = some 0 := by decide +kernel
def Mo_calm_vc : Prop := ∀ (k : Nat) (σ : Hp), ax_H σ → Mo_calm_pre k σ →
  (0 ≤ (13 : Int) ∧ (13 : Int) < 16) ∧
  (¬ σ (k + 23) 13 = 1 →
    Mo_load_pre k σ ∧
    ∀ σ1 : Hp, Mo_load_post k σ σ1 →
    Mo_growAll_pre k σ1 ∧
    ∀ σ2 : Hp, Mo_growAll_post k σ1 σ2 →
    (0 ≤ (14 : Int) ∧ (14 : Int) < 16) ∧
    (0 ≤ (14 : Int) ∧ (14 : Int) < 16) ∧
    ∀ σ3 : Hp, σ3 = hp σ2 (k + 24) 14 (wr ((σ2 (k + 24) 14) + 1)) →
    ∃ n' : Nat, k = k ∧ Mo_calm_I46 k σ n' (-1) 0 σ3) ∧
  (¬ (¬ σ (k + 23) 13 = 1) →
    (0 ≤ (12 : Int) ∧ (12 : Int) < 16) ∧
    (σ (k + 23) 12 < 0 →
      Mo_load_pre k σ ∧
      ∀ σ4 : Hp, Mo_load_post k σ σ4 →
      Mo_growAll_pre k σ4 ∧
      ∀ σ5 : Hp, Mo_growAll_post k σ4 σ5 →
      (0 ≤ (14 : Int) ∧ (14 : Int) < 16) ∧
      (0 ≤ (14 : Int) ∧ (14 : Int) < 16) ∧
      ∀ σ6 : Hp, σ6 = hp σ5 (k + 24) 14 (wr ((σ5 (k + 24) 14) + 1)) →
      ∃ n' : Nat, k = k ∧ Mo_calm_I46 k σ n' (-1) 0 σ6) ∧
    (¬ (σ (k + 23) 12 < 0) →
      Mo_calm_post k σ (-1) σ))
def Mo_calm_vc46 : Prop := ∀ (k : Nat) (σ0 : Hp), Mo_calm_pre k σ0 → ∀ (n : Nat) (v1 : Int) (v2 : Int) (σ : Hp), ax_H σ → Mo_calm_I46 k σ0 n v1 v2 σ →
  (σ k 42 ≤ v2 →
    (999 ≤ v1 →
      Mo_calm_post k σ0 (-1) σ) ∧
    (¬ (999 ≤ v1) →
      Mo_calm_post k σ0 (wr (v1 + 1)) σ)) ∧
  (¬ (σ k 42 ≤ v2) →
    Mo_worryOf_pre k v2 σ ∧
    ∀ (r2 : Int) (σ1 : Hp), Mo_worryOf_post k v2 σ r2 σ1 →
    (r2 ≤ v1 →
      ∃ n' : Nat, n' < n ∧ k = k ∧ Mo_calm_I46 k σ0 n' v1 (wr (v2 + 1)) σ1) ∧
    (¬ (r2 ≤ v1) →
      Mo_worryOf_pre k v2 σ1 ∧
      ∀ (r4 : Int) (σ3 : Hp), Mo_worryOf_post k v2 σ1 r4 σ3 →
      ∃ n' : Nat, n' < n ∧ k = k ∧ Mo_calm_I46 k σ0 n' r4 (wr (v2 + 1)) σ3))
theorem Mo_calm_p : Mo_calm_vc := by
  intro k σ hH hp
  obtain ⟨rfl, hP⟩ := hp
  have hN := hP.np
  have hd01 : (nowM σ).2.2.2.2.2 = 0 ∨ (nowM σ).2.2.2.2.2 = 1 := hP.d01
  have hV : -1 ≤ (nowM σ).2.2.1 := hN.2.2.1.1
  have go : ¬ (¬ (nowM σ).2.2.2.2.2 = 0 ∧ ¬ (nowM σ).2.2.1 = -1) → Mo_load_pre 67 σ ∧
    ∀ σ1 : Hp, Mo_load_post 67 σ σ1 →
    Mo_growAll_pre 67 σ1 ∧
    ∀ σ2 : Hp, Mo_growAll_post 67 σ1 σ2 →
    (0 ≤ (14 : Int) ∧ (14 : Int) < 16) ∧
    (0 ≤ (14 : Int) ∧ (14 : Int) < 16) ∧
    ∀ σ3 : Hp, σ3 = hp σ2 (67 + 24) 14 (wr ((σ2 (67 + 24) 14) + 1)) →
    ∃ n' : Nat, (67 : Nat) = 67 ∧ Mo_calm_I46 67 σ n' (-1) 0 σ3 := by
    intro hz
    refine ⟨rfl, fun σ1 g => ?_⟩
    have L := hN.load g
    refine ⟨⟨rfl, L.1⟩, ?_⟩
    rintro σ2 ⟨g1, g2, g3⟩
    have ga := grown_air L.1 g2 g3
    have M := L.1.mid g1 (ga 0) (fun j => grA_R L.1.2.1.1 j) (grA_z L.1) L.1.2.1.2.2.2
    refine ⟨by decide, by decide, ?_⟩
    have e14 : σ2 91 14 = (nowM σ).2.2.2.1 := by rw [g2 14 (by decide)]; exact g.2 14 (by decide)
    have hd := hN.2.1.2.2.1
    rw [show σ2 (67 + 24) 14 = (nowM σ).2.2.2.1 from e14, wr1 hd.1 (by omega)]
    intro σ3 h3
    have f3 : Fr af σ2 σ3 := by rw [h3]; exact Fr.hp Fr.rf (by simp [af])
    have q : ∀ j, ¬ j = 14 → σ3 91 j = σ2 91 j := fun j hj => by rw [h3]; exact hp_r2 (fun z => hj z.2)
    have q14 : σ3 91 14 = (nowM σ).2.2.2.1 + 1 := by rw [h3]; exact hp_r1
    have ea : ∀ d, airM σ3 = clmS (famM d σ) (nowM σ) := by
      intro d
      have e2 : airM σ3 = ((airM σ2).1, (airM σ2).2.1, (airM σ2).2.2.1, (nowM σ).2.2.2.1 + 1, (airM σ2).2.2.2.2.1, (airM σ2).2.2.2.2.2) := by
        show stR (σ3 91) 0 = _
        unfold stR
        refine Prod.ext (tr_ext fun j hj => q _ (by omega)) (Prod.ext (tr_ext fun j hj => q _ (by omega)) ?_)
        show (σ3 91 12, σ3 91 14, σ3 91 15, σ3 91 13) = (σ2 91 12, (nowM σ).2.2.2.1 + 1, σ2 91 15, σ2 91 13)
        rw [q 12 (by decide), q14, q 15 (by decide), q 13 (by decide)]
      rw [e2, ga d, L.2.1 d, L.2.2]
      rfl
    have e67 : σ3 67 = σ2 67 := f3 67 (by decide)
    have K := M.1.1.keep (σ' := σ3) (by rw [e67]) (by rw [e67]) (by rw [e67]) (fun c hc => f3 c (by simp [af]; omega))
    have hA3 : AP σ3 := by
      have e42 : σ3 67 = σ 67 := by rw [e67, g1 67 (by decide), g.1 67 (by decide)]
      refine ⟨K.1, ?_, ?_⟩
      · rw [ea 0]
        exact ⟨fun j => grA_R hN.2.1.1 j, hN.2.1.2.1, ⟨by show 0 ≤ (nowM σ).2.2.2.1 + 1; omega, by show (nowM σ).2.2.2.1 + 1 ≤ 100000; omega⟩, hN.2.1.2.2.2⟩
      · rw [ea 0, e42]
        refine ⟨hN.2.2.1, hN.2.2.2.1, fun j hj => ?_⟩
        show grA (famM 0 σ) (nowM σ) j = 0
        unfold grA
        rw [if_neg (show ¬ j < fN (famM 0 σ) from (by show ¬ j < (σ 67 42).toNat; omega))]
        exact hN.2.2.2.2 j hj
    exact ⟨6, rfl, 0, rfl, Nat.zero_le _, rfl, ((g.1.mono (by simp [af])).tr g1).tr f3, hA3, hz, ea, fun d => rfl⟩
  have e13 : σ (67 + 23) 13 = (nowM σ).2.2.2.2.2 := rfl
  have e12 : σ (67 + 23) 12 = (nowM σ).2.2.1 := rfl
  rw [e13, e12]
  refine ⟨by decide, fun h => go (fun z => h (by omega)), fun h => ⟨by decide, fun h2 => go (fun z => z.2 (by omega)), fun h2 => om0 hP.1 (fun d => ?_)⟩⟩
  show _ = clm (famM d σ) (nowM σ)
  unfold clm
  rw [if_pos ⟨by omega, by omega⟩]
theorem Mo_calm_p46 : Mo_calm_vc46 := by
  intro k σ0 hp n v1 v2 σ hH hI
  obtain ⟨rfl, hP⟩ := hp
  obtain ⟨i, rfl, hi, rfl, hf, hA, hz, ha, hv⟩ := hI
  have hn := hP.n6
  have e67 : σ 67 = σ0 67 := hf 67 (by decide)
  have F := hP.np.fam hf
  rw [e67]
  have hvR : -1 ≤ v1 ∧ v1 ≤ 999 := by rw [hv 0]; exact mxw_R _ _ _
  refine ⟨fun h => ?_, fun h => ⟨⟨rfl, by omega, by rw [e67]; omega, hA⟩, ?_⟩⟩
  · have ei : i = (σ0 67 42).toNat := by omega
    refine ⟨fun h2 => om1 hP.1 hf scm_af (fun d => ?_), fun h2 => om1 hP.1 hf scm_af (fun d => ?_)⟩
    · show _ = clm (famM d σ0) (nowM σ0)
      unfold clm
      rw [if_neg hz, show fN (famM d σ0) = i from ei.symm, ← hv d, if_neg (by omega)]
    · show _ = clm (famM d σ0) (nowM σ0)
      unfold clm
      rw [if_neg hz, show fN (famM d σ0) = i from ei.symm, ← hv d, if_pos (by omega), wr_id (by omega) (by omega)]
  · rintro r2 σ1 ⟨g1, g2⟩
    have K1 := hA.fr g1 (by simp)
    have f1 : Fr af σ0 σ1 := hf.tr (g1.mono (by simp [af]))
    have r2' : ∀ d, r2 = wry (famM d σ0) (clmS (famM d σ0) (nowM σ0)) i := fun d => by rw [g2 d, F d, ha d, Int.toNat_natCast]
    rw [wr1 (by omega) (by omega)]
    refine ⟨fun h2 => ⟨6 - (i + 1), by omega, rfl, i + 1, by simp, by omega, rfl, f1, K1.1, hz, fun d => by rw [K1.2.2, ha d], fun d => ?_⟩, fun h2 => ⟨⟨rfl, by omega, by rw [f1 67 (by decide)]; omega, K1.1⟩, ?_⟩⟩
    · have h3 := hv d
      have h4 := r2' d
      show v1 = max (mxw (famM d σ0) (clmS (famM d σ0) (nowM σ0)) i) (wry (famM d σ0) (clmS (famM d σ0) (nowM σ0)) i)
      omega
    · rintro r4 σ3 ⟨g3, g4⟩
      have K3 := K1.1.fr g3 (by simp)
      refine ⟨6 - (i + 1), by omega, rfl, i + 1, by simp, by omega, rfl, f1.tr (g3.mono (by simp [af])), K3.1, hz, fun d => by rw [K3.2.2, K1.2.2, ha d], fun d => ?_⟩
      have h3 := hv d
      have h4 := r2' d
      have h5 : r4 = wry (famM d σ0) (clmS (famM d σ0) (nowM σ0)) i := by rw [g4 d, K1.2.1 d, F d, K1.2.2, ha d, Int.toNat_natCast]
      show r4 = max (mxw (famM d σ0) (clmS (famM d σ0) (nowM σ0)) i) (wry (famM d σ0) (clmS (famM d σ0) (nowM σ0)) i)
      omega
def Mo_calm_I : List AV → Hp → Nat → Nat → List AV → List AV → Hp → Prop := fun as σ0 pc n st ls σ => (match as with
    | [.inr (.inr (.inl (k, 0, 9)))] => (bif Nat.beq pc 46 then (match st, ls with
      | [], [.inr (.inr (.inl (k', 0, 9))), .inl v1, .inl v2] => k = k' ∧ Mo_calm_I46 k σ0 n v1 v2 σ
      | _, _ => False) else False)
    | _ => False)
def Mo_calm_ct : Nat → Ct := fun n => match n with
  | 0 => Mo_load_cs
  | 1 => Mo_growAll_cs
  | 2 => Mo_worryOf_cs
  | _ => Mo_calm_cs
set_option maxRecDepth 20000 in
set_option maxHeartbeats 4000000 in
theorem Mo_calm_met {l : Launch} {D : va_G} {ad : Nat → Nat} {ca : Nat → ClassId} {L : Nat} {fx : Nat → Int} : ax_MC l D ad ca L fx yX9_calm cX9_calm 3 (some .int) 5 Mo_calm_cs := by
  refine ax_met (oc := 9) (ct := Mo_calm_ct) (calls := Mo_calm_cl) (bs := Mo_calm_bk) (cut := fun pc => Nat.beq pc 46) (f := 9) (I := Mo_calm_I) (by decide) rfl rfl Mo_calm_ck (List.forall_mem_cons.mpr ⟨ax_cwV Mo_load_met (by decide) (by decide) rfl (by decide) rfl (ax_m7 86 (by decide +kernel) rfl) Mo_load_w rfl Mo_load_ds, List.forall_mem_cons.mpr ⟨ax_cwV Mo_growAll_met (by decide) (by decide) rfl (by decide) rfl (ax_m7 110 (by decide +kernel) rfl) Mo_growAll_w rfl Mo_growAll_ds, List.forall_mem_cons.mpr ⟨ax_cwV Mo_worryOf_met (by decide) (by decide) rfl (by decide) rfl (ax_m7 46 (by decide +kernel) rfl) Mo_worryOf_w rfl Mo_worryOf_ds, fun _ h => absurd h List.not_mem_nil⟩⟩⟩) ?_ ?_
  · intro as σ0 hp hH
    match as, hp with
    | [.inr (.inr (.inl (k, 0, 9)))], hp => exact ⟨rfl, Mo_calm_p k σ0 hH hp⟩
  · intro as σ0 hp n pc st ls σ hH hI
    match as, hp, hI with
    | [.inr (.inr (.inl (k, 0, 9)))], hp, hI =>
      rcases ax_bifE hI with ⟨hpc, hI⟩ | ⟨-, hI⟩
      · have := Nat.eq_of_beq_eq_true hpc
        subst this
        match st, ls, hI with
        | [], [.inr (.inr (.inl (k', 0, 9))), .inl v1, .inl v2], hI =>
          obtain ⟨rfl, hI⟩ := hI
          exact Mo_calm_p46 k σ0 hp n v1 v2 σ hH hI
      exact False.elim hI
def Mo_law_pre (k : Nat) (_a : Int) (σ : Hp) : Prop := k = 67 ∧ MP σ
def Mo_law_post (_k : Nat) (a : Int) (σ : Hp) (r : Int) (σ' : Hp) : Prop := MQo σ σ' ∧ ∀ d, s_law (mA d σ) a r (mA d σ')
def Mo_law_I21 (_k : Nat) (a : Int) (σ0 : Hp) (n : Nat) (v2 v3 : Int) (σ : Hp) : Prop := ∃ i : Nat, v3 = i ∧ i ≤ (σ0 67 42).toNat ∧ (0 ≤ a ∧ a ≤ 999) ∧ n = 6 - i ∧ Fr af σ0 σ ∧ AP σ ∧ airM σ = nowM σ0 ∧ ∀ d, v2 = (cwr (famM d σ0) (nowM σ0) a i : Nat)
def Mo_law_bk : List (Nat × List Item) := [(0, [(.iload_n 1, 1, [], []), (.iconst 0, 1, [], []), (.sipush 999, 3, [], []), (.invokestatic 379, 3, [0], []), (.ifCond .ne 5, 3, [13], []), (.iconst (-1), 1, [], []), (.ireturn, 1, [], [])]),
  (13, [(.aload_n 0, 1, [], []), (.invokevirtual 401, 3, [1], []), (.iconst 0, 1, [], []), (.istore_n 2, 1, [], []), (.iconst 0, 1, [], []), (.istore_n 3, 1, [], [])]),
  (21, [(.iload_n 3, 1, [], []), (.aload_n 0, 1, [], []), (.getfield 304, 3, [9, 42, 0, 0, 0, 0], []), (.if_icmp .ge 29, 3, [55], []), (.iload_n 2, 1, [], []), (.aload_n 0, 1, [], []), (.iload_n 3, 1, [], []), (.invokevirtual 389, 3, [2], []), (.iload_n 1, 1, [], []), (.if_icmp .lt 7, 3, [43], []), (.iconst 1, 1, [], []), (.goto 4, 3, [44], [])]),
  (43, [(.iconst 0, 1, [], [])]),
  (44, [(.invokestatic 300, 3, [3], []), (.iadd, 1, [], []), (.istore_n 2, 1, [], []), (.iinc 3 1, 3, [], []), (.goto (-31), 3, [21], [])]),
  (55, [(.iload_n 2, 1, [], []), (.ireturn, 1, [], [])])]
def Mo_law_cl : List (Instr × Nat) := [(.invokestatic 379, 0), (.invokevirtual 401, 1), (.invokevirtual 389, 2), (.invokestatic 300, 3)]
set_option maxRecDepth 20000 in
theorem Mo_law_ck : Mo_law_bk.all (fun b => ax_chB 9 4 cX9_law Mo_law_cl b.1 b.2) = true := by decide +kernel
def Mo_law_cs : Ct := (2, 10, 1, (0, 0), fun as σ => (match as with
    | [.inr (.inr (.inl (k, 0, 9))), .inl a1] => Mo_law_pre k a1 σ
    | _ => False), fun as σ r σ' => (match as with
    | [.inr (.inr (.inl (k, 0, 9))), .inl a1] => Mo_law_post k a1 σ r σ'
    | _ => False))
theorem Mo_law_w : ∀ w ∈ ([.instanceMethod yX9_law, .selects yX9_law.cls yX9_law yX9_law, .initialized yX9_law.cls, .code yX9_law cX9_law 4 (some .int)] : List Cond), w ∈ ax_tb := ax_w4 (ax_m8 23 (by decide +kernel) rfl) (ax_m8 24 (by decide +kernel) rfl) (ax_m1 10 (by decide +kernel) rfl) (ax_m8 25 (by decide +kernel) rfl)
theorem Mo_law_ds : yX9_law.cls ≠ "java/lang/invoke/MethodHandle" ∧ yX9_law.cls ≠ "java/lang/invoke/VarHandle" ∧ (parseMethodDescriptor yX9_law.desc).map (fun d => d.parameters.length) = some 1 := by decide +kernel
def Mo_law_vc : Prop := ∀ (k : Nat) (a1 : Int) (σ : Hp), ax_H σ → Mo_law_pre k a1 σ →
  Mo_isIn_pre a1 0 999 σ ∧
  ∀ (r2 : Int) (σ1 : Hp), Mo_isIn_post a1 0 999 σ r2 σ1 →
  (¬ r2 = 0 →
    Mo_load_pre k σ1 ∧
    ∀ σ3 : Hp, Mo_load_post k σ1 σ3 →
    ∃ n' : Nat, k = k ∧ a1 = a1 ∧ Mo_law_I21 k a1 σ n' 0 0 σ3) ∧
  (¬ (¬ r2 = 0) →
    Mo_law_post k a1 σ (-1) σ1)
def Mo_law_vc21 : Prop := ∀ (k : Nat) (a1 : Int) (σ0 : Hp), Mo_law_pre k a1 σ0 → ∀ (n : Nat) (v2 : Int) (v3 : Int) (σ : Hp), ax_H σ → Mo_law_I21 k a1 σ0 n v2 v3 σ →
  (σ k 42 ≤ v3 →
    Mo_law_post k a1 σ0 v2 σ) ∧
  (¬ (σ k 42 ≤ v3) →
    Mo_worryOf_pre k v3 σ ∧
    ∀ (r2 : Int) (σ1 : Hp), Mo_worryOf_post k v3 σ r2 σ1 →
    (r2 < a1 →
      Mo_truth_pre 0 σ1 ∧
      ∀ (r4 : Int) (σ3 : Hp), Mo_truth_post 0 σ1 r4 σ3 →
      ∃ n' : Nat, n' < n ∧ k = k ∧ a1 = a1 ∧ Mo_law_I21 k a1 σ0 n' (wr (v2 + r4)) (wr (v3 + 1)) σ3) ∧
    (¬ (r2 < a1) →
      Mo_truth_pre 1 σ1 ∧
      ∀ (r6 : Int) (σ5 : Hp), Mo_truth_post 1 σ1 r6 σ5 →
      ∃ n' : Nat, n' < n ∧ k = k ∧ a1 = a1 ∧ Mo_law_I21 k a1 σ0 n' (wr (v2 + r6)) (wr (v3 + 1)) σ5))
theorem cwr_le' (F : Fam) (s : Sta) (n : Int) : ∀ p, cwr F s n p ≤ p := by
  intro p
  induction p with
  | zero => exact Nat.le_refl 0
  | succ p ih => rw [cwr_s]; split <;> omega
theorem Mo_law_p : Mo_law_vc := by
  intro k a σ hH hp
  obtain ⟨rfl, hP⟩ := hp
  refine ⟨trivial, ?_⟩
  rintro r2 σ1 ⟨rfl, rfl⟩
  refine ⟨fun h => ⟨rfl, fun σ3 g => ?_⟩, fun h => om0 hP.1 (fun d => ?_)⟩
  · have L := hP.np.load g
    exact ⟨6, rfl, rfl, 0, rfl, Nat.zero_le _, ite1 h, rfl, g.1.mono (by simp [af]), L.1, L.2.2, fun d => rfl⟩
  · show _ = _; rw [if_neg (ite0' h)]
theorem Mo_law_p21 : Mo_law_vc21 := by
  intro k a σ0 hp n v2 v3 σ hH hI
  obtain ⟨rfl, hP⟩ := hp
  obtain ⟨i, rfl, hi, ha, rfl, hf, hA, hs, hv⟩ := hI
  have hn := hP.n6
  have e67 : σ 67 = σ0 67 := hf 67 (by decide)
  have F := hP.np.fam hf
  rw [e67]
  refine ⟨fun h => om1 hP.1 hf scm_af (fun d => ?_), fun h => ⟨⟨rfl, by omega, by rw [e67]; omega, hA⟩, ?_⟩⟩
  · show _ = _
    have ei : fN (aF (mA d σ0)) = i := by show (σ0 67 42).toNat = i; omega
    rw [if_pos ha, hv d, ei]; rfl
  · rintro r2 σ1 ⟨g1, g2⟩
    have K1 := hA.fr g1 (by simp)
    have f1 : Fr af σ0 σ1 := hf.tr (g1.mono (by simp [af]))
    have r2' : ∀ d, r2 = wry (famM d σ0) (nowM σ0) i := fun d => by rw [g2 d, F d, hs, Int.toNat_natCast]
    rw [wr1 (by omega) (by omega)]
    refine ⟨fun h2 => ⟨trivial, ?_⟩, fun h2 => ⟨trivial, ?_⟩⟩
    · rintro r4 σ3 ⟨rfl, rfl⟩
      refine ⟨6 - (i + 1), by omega, rfl, rfl, i + 1, by simp, by omega, ha, rfl, f1, K1.1, K1.2.2.trans hs, fun d => ?_⟩
      have h3 := hv d
      have h4 := r2' d
      have hl := cwr_le' (famM d σ0) (nowM σ0) a i
      rw [tr0, cwr_s, if_neg (by omega), wr_id (by omega) (by omega)]
      omega
    · rintro r4 σ3 ⟨rfl, rfl⟩
      refine ⟨6 - (i + 1), by omega, rfl, rfl, i + 1, by simp, by omega, ha, rfl, f1, K1.1, K1.2.2.trans hs, fun d => ?_⟩
      have h3 := hv d
      have h4 := r2' d
      have hl := cwr_le' (famM d σ0) (nowM σ0) a i
      rw [tr1, cwr_s, if_pos (by omega), wr_id (by omega) (by omega)]
      omega
def Mo_law_I : List AV → Hp → Nat → Nat → List AV → List AV → Hp → Prop := fun as σ0 pc n st ls σ => (match as with
    | [.inr (.inr (.inl (k, 0, 9))), .inl a1] => (bif Nat.beq pc 21 then (match st, ls with
      | [], [.inr (.inr (.inl (k', 0, 9))), .inl a1', .inl v2, .inl v3] => k = k' ∧ a1 = a1' ∧ Mo_law_I21 k a1 σ0 n v2 v3 σ
      | _, _ => False) else False)
    | _ => False)
def Mo_law_ct : Nat → Ct := fun n => match n with
  | 0 => Mo_isIn_cs
  | 1 => Mo_load_cs
  | 2 => Mo_worryOf_cs
  | 3 => Mo_truth_cs
  | _ => Mo_law_cs
set_option maxRecDepth 20000 in
set_option maxHeartbeats 4000000 in
theorem Mo_law_met {l : Launch} {D : va_G} {ad : Nat → Nat} {ca : Nat → ClassId} {L : Nat} {fx : Nat → Int} : ax_MC l D ad ca L fx yX9_law cX9_law 4 (some .int) 5 Mo_law_cs := by
  refine ax_met (oc := 9) (ct := Mo_law_ct) (calls := Mo_law_cl) (bs := Mo_law_bk) (cut := fun pc => Nat.beq pc 21) (f := 7) (I := Mo_law_I) (by decide) rfl rfl Mo_law_ck (List.forall_mem_cons.mpr ⟨ax_cwS Mo_isIn_met (by decide) (by decide) (ax_m7 83 (by decide +kernel) rfl) Mo_isIn_w rfl Mo_isIn_ds, List.forall_mem_cons.mpr ⟨ax_cwV Mo_load_met (by decide) (by decide) rfl (by decide) rfl (ax_m7 86 (by decide +kernel) rfl) Mo_load_w rfl Mo_load_ds, List.forall_mem_cons.mpr ⟨ax_cwV Mo_worryOf_met (by decide) (by decide) rfl (by decide) rfl (ax_m7 46 (by decide +kernel) rfl) Mo_worryOf_w rfl Mo_worryOf_ds, List.forall_mem_cons.mpr ⟨ax_cwS Mo_truth_met (by decide) (by decide) (ax_m7 58 (by decide +kernel) rfl) Mo_truth_w rfl Mo_truth_ds, fun _ h => absurd h List.not_mem_nil⟩⟩⟩⟩) ?_ ?_
  · intro as σ0 hp hH
    match as, hp with
    | [.inr (.inr (.inl (k, 0, 9))), .inl a1], hp => exact ⟨rfl, Mo_law_p k a1 σ0 hH hp⟩
  · intro as σ0 hp n pc st ls σ hH hI
    match as, hp, hI with
    | [.inr (.inr (.inl (k, 0, 9))), .inl a1], hp, hI =>
      rcases ax_bifE hI with ⟨hpc, hI⟩ | ⟨-, hI⟩
      · have := Nat.eq_of_beq_eq_true hpc
        subst this
        match st, ls, hI with
        | [], [.inr (.inr (.inl (k', 0, 9))), .inl a1', .inl v2, .inl v3], hI =>
          obtain ⟨rfl, rfl, hI⟩ := hI
          exact Mo_law_p21 k a1 σ0 hp n v2 v3 σ hH hI
      exact False.elim hI
/-- changes of the rows that lie, beside scratch -/
theorem mA_L {σ σ' : Hp} (hX : MIr σ) (h67 : ∀ j, shS j → ¬ j = 56 → σ' 67 j = σ 67 j) (hc : ∀ c, shC c → ¬ c = 97 → σ' c = σ c) (h56 : 0 ≤ σ' 67 56 ∧ σ' 67 56 ≤ 6) : MQo σ σ' ∧ ∀ d, mA d σ' = wL (mA d σ) (σ' 67 56).toNat (tr (σ' 67 56).toNat (σ' 97)) := by
  have q67 : ∀ j, ¬ j = 56 → hp σ' 67 56 (σ 67 56) 67 j = σ' 67 j := fun j hj => hp_r2 (fun z => hj z.2)
  obtain ⟨h1, h2, h3, h4, h5, h6⟩ := hX
  have s1 := h67 1 (by unfold shS; omega) (by decide)
  have s2 := h67 2 (by unfold shS; omega) (by decide)
  have s3 := h67 3 (by unfold shS; omega) (by decide)
  have s23 := h67 23 (by unfold shS; omega) (by decide)
  have s42 := h67 42 (by unfold shS; omega) (by decide)
  have s43 := h67 43 (by unfold shS; omega) (by decide)
  have s50 := h67 50 (by unfold shS; omega) (by decide)
  have s51 := h67 51 (by unfold shS; omega) (by decide)
  have s64 := h67 64 (by unfold shS; omega) (by decide)
  have s65 := h67 65 (by unfold shS; omega) (by decide)
  have K := h1.keep (σ' := σ') s42 s43 s23 (fun c z => hc c (by unfold shC; omega) (by omega))
  have c68 := hc 68 (by unfold shC; omega) (by decide)
  refine ⟨⟨⟨K.1, by rw [s1]; exact h2, by rw [c68]; exact h3, by rw [s50, s51]; exact h4, h56, by rw [s64]; exact h6⟩, fun c z => hc c (by unfold shC; omega) (by omega)⟩, fun d => ?_⟩
  have eX : bxM σ' = bxM σ := by funext i; unfold bxM; rw [hc 106 (by unfold shC; omega) (by decide), hc 107 (by unfold shC; omega) (by decide)]
  unfold mA wL tpM hstM sgM lsM nowM
  rw [s1, s2, s3, K.2 d, s50, s51, s64, s65, c68, hc 90 (by unfold shC; omega) (by decide), hc 93 (by unfold shC; omega) (by decide), eX, hc 99 (by unfold shC; omega) (by decide), hc 100 (by unfold shC; omega) (by decide), hc 101 (by unfold shC; omega) (by decide), hc 102 (by unfold shC; omega) (by decide), hc 103 (by unfold shC; omega) (by decide)]
def Mo_path_pre (k : Nat) (_a : Int) (σ : Hp) : Prop := k = 67 ∧ MP σ
def Mo_path_post (_k : Nat) (a : Int) (σ : Hp) (r : Int) (σ' : Hp) : Prop := MQo σ σ' ∧ ∀ d, s_path (mA d σ) a r (mA d σ')
def Mo_path_I25 (_k : Nat) (a : Int) (σ0 : Hp) (n : Nat) (v2 v3 : Int) (σ : Hp) : Prop := ∃ i : Nat, v3 = i ∧ (i : Int) ≤ a ∧ (1 ≤ a ∧ a ≤ 6) ∧ n = 6 - i ∧ (∀ c, ¬ c ∈ 67 :: 97 :: af → σ c = σ0 c) ∧ (∀ j, ¬ j = 56 → σ 67 j = σ0 67 j) ∧ Rn σ0 σ (nowM σ0) 0 i ∧ (∀ d, v2 = (cnt (famM d σ0) (nowM σ0) (-1) i : Nat)) ∧ ∀ d, ∀ j, j < i → σ 97 j = (itr (famM d σ0) 0 (nowM σ0) (j + 1)).2.2.1
def Mo_path_bk : List (Nat × List Item) := [(0, [(.aload_n 0, 1, [], []), (.iconst 0, 1, [], []), (.putfield 376, 3, [9, 56, 0, 0, 0, 0], []), (.iload_n 1, 1, [], []), (.iconst 1, 1, [], []), (.bipush 6, 2, [], []), (.invokestatic 379, 3, [0], []), (.ifCond .ne 5, 3, [17], []), (.iconst (-1), 1, [], []), (.ireturn, 1, [], [])]),
  (17, [(.aload_n 0, 1, [], []), (.invokevirtual 401, 3, [1], []), (.iconst 0, 1, [], []), (.istore_n 2, 1, [], []), (.iconst 0, 1, [], []), (.istore_n 3, 1, [], [])]),
  (25, [(.iload_n 3, 1, [], []), (.iload_n 1, 1, [], []), (.if_icmp .ge 47, 3, [74], []), (.aload_n 0, 1, [], []), (.invokevirtual 435, 3, [2], []), (.aload_n 0, 1, [], []), (.getfield 106, 3, [9, 55, 4, 30, 1, 6], []), (.iload_n 3, 1, [], []), (.aload_n 0, 1, [], []), (.getfield 88, 3, [9, 47, 4, 24, 1, 16], []), (.bipush 12, 2, [], []), (.iaload, 1, [], []), (.iastore, 1, [], []), (.iload_n 2, 1, [], []), (.aload_n 0, 1, [], []), (.getfield 88, 3, [9, 47, 4, 24, 1, 16], []), (.bipush 12, 2, [], []), (.iaload, 1, [], []), (.ifCond .ge 7, 3, [62], []), (.iconst 1, 1, [], []), (.goto 4, 3, [63], [])]),
  (62, [(.iconst 0, 1, [], [])]),
  (63, [(.invokestatic 300, 3, [3], []), (.iadd, 1, [], []), (.istore_n 2, 1, [], []), (.iinc 3 1, 3, [], []), (.goto (-46), 3, [25], [])]),
  (74, [(.aload_n 0, 1, [], []), (.iload_n 1, 1, [], []), (.putfield 376, 3, [9, 56, 0, 0, 0, 0], []), (.iload_n 2, 1, [], []), (.ireturn, 1, [], [])])]
def Mo_path_cl : List (Instr × Nat) := [(.invokestatic 379, 0), (.invokevirtual 401, 1), (.invokevirtual 435, 2), (.invokestatic 300, 3)]
set_option maxRecDepth 20000 in
theorem Mo_path_ck : Mo_path_bk.all (fun b => ax_chB 9 4 cX9_path Mo_path_cl b.1 b.2) = true := by decide +kernel
def Mo_path_cs : Ct := (2, 10, 1, (0, 0), fun as σ => (match as with
    | [.inr (.inr (.inl (k, 0, 9))), .inl a1] => Mo_path_pre k a1 σ
    | _ => False), fun as σ r σ' => (match as with
    | [.inr (.inr (.inl (k, 0, 9))), .inl a1] => Mo_path_post k a1 σ r σ'
    | _ => False))
theorem Mo_path_w : ∀ w ∈ ([.instanceMethod yX9_path, .selects yX9_path.cls yX9_path yX9_path, .initialized yX9_path.cls, .code yX9_path cX9_path 4 (some .int)] : List Cond), w ∈ ax_tb := ax_w4 (ax_m8 49 (by decide +kernel) rfl) (ax_m8 50 (by decide +kernel) rfl) (ax_m1 10 (by decide +kernel) rfl) (ax_m8 51 (by decide +kernel) rfl)
theorem Mo_path_ds : yX9_path.cls ≠ "java/lang/invoke/MethodHandle" ∧ yX9_path.cls ≠ "java/lang/invoke/VarHandle" ∧ (parseMethodDescriptor yX9_path.desc).map (fun d => d.parameters.length) = some 1 := by decide +kernel
def Mo_path_vc : Prop := ∀ (k : Nat) (a1 : Int) (σ : Hp), ax_H σ → Mo_path_pre k a1 σ →
  ∀ σ1 : Hp, σ1 = hp σ k 56 0 →
  Mo_isIn_pre a1 1 6 σ1 ∧
  ∀ (r3 : Int) (σ2 : Hp), Mo_isIn_post a1 1 6 σ1 r3 σ2 →
  (¬ r3 = 0 →
    Mo_load_pre k σ2 ∧
    ∀ σ4 : Hp, Mo_load_post k σ2 σ4 →
    ∃ n' : Nat, k = k ∧ a1 = a1 ∧ Mo_path_I25 k a1 σ n' 0 0 σ4) ∧
  (¬ (¬ r3 = 0) →
    Mo_path_post k a1 σ (-1) σ2)
def Mo_path_vc25 : Prop := ∀ (k : Nat) (a1 : Int) (σ0 : Hp), Mo_path_pre k a1 σ0 → ∀ (n : Nat) (v2 : Int) (v3 : Int) (σ : Hp), ax_H σ → Mo_path_I25 k a1 σ0 n v2 v3 σ →
  (a1 ≤ v3 →
    ∀ σ1 : Hp, σ1 = hp σ k 56 a1 →
    Mo_path_post k a1 σ0 v2 σ1) ∧
  (¬ (a1 ≤ v3) →
    Mo_goDay_pre k σ ∧
    ∀ σ2 : Hp, Mo_goDay_post k σ σ2 →
    (0 ≤ (12 : Int) ∧ (12 : Int) < 16) ∧
    (0 ≤ v3 ∧ v3 < 6) ∧
    ∀ σ3 : Hp, σ3 = hp σ2 (k + 30) v3.toNat (σ2 (k + 24) 12) →
    (0 ≤ (12 : Int) ∧ (12 : Int) < 16) ∧
    (0 ≤ σ3 (k + 24) 12 →
      Mo_truth_pre 0 σ3 ∧
      ∀ (r5 : Int) (σ4 : Hp), Mo_truth_post 0 σ3 r5 σ4 →
      ∃ n' : Nat, n' < n ∧ k = k ∧ a1 = a1 ∧ Mo_path_I25 k a1 σ0 n' (wr (v2 + r5)) (wr (v3 + 1)) σ4) ∧
    (¬ (0 ≤ σ3 (k + 24) 12) →
      Mo_truth_pre 1 σ3 ∧
      ∀ (r7 : Int) (σ6 : Hp), Mo_truth_post 1 σ3 r7 σ6 →
      ∃ n' : Nat, n' < n ∧ k = k ∧ a1 = a1 ∧ Mo_path_I25 k a1 σ0 n' (wr (v2 + r7)) (wr (v3 + 1)) σ6))
theorem shC_ne {c : Nat} (h : shC c) (h2 : ¬ c = 97) : ¬ c ∈ 67 :: 97 :: af := by
  intro z
  simp only [af, List.mem_cons, List.not_mem_nil, or_false] at z
  unfold shC at h
  omega
theorem Mo_path_p : Mo_path_vc := by
  intro k a σ hH hp0
  obtain ⟨rfl, hP⟩ := hp0
  intro σ1 h1
  have q67 : ∀ j, ¬ j = 56 → σ1 67 j = σ 67 j := fun j hj => by rw [h1, hp_r2 (fun z => hj z.2)]
  have qc : ∀ c, ¬ c = 67 → σ1 c = σ c := fun c hc => by rw [h1, hp_ne hc]
  refine ⟨trivial, ?_⟩
  rintro r3 σ2 ⟨rfl, rfl⟩
  have hN := hP.np
  have K := hN.1.keep (σ' := σ2) (q67 42 (by decide)) (q67 43 (by decide)) (q67 23 (by decide)) (fun c hc => qc c (by omega))
  have en : nowM σ2 = nowM σ := by show stR (σ2 90) 0 = _; rw [qc 90 (by decide)]
  have hN2 : NP σ2 := ⟨K.1, by rw [en]; exact hN.2.1, by rw [en, q67 42 (by decide)]; exact hN.2.2⟩
  refine ⟨fun h => ⟨rfl, fun σ4 g => ?_⟩, fun h => ?_⟩
  · have R := hN2.rn g 0
    rw [en] at R
    refine ⟨6, rfl, rfl, 0, rfl, by have := ite1 h; omega, ite1 h, rfl, fun c hc => ?_, fun j hj => ?_, ⟨R.2.1, fun d => (R.2.2.1 d).trans (K.2 d), fun d => R.2.2.2.1 d, R.2.2.2.2⟩, fun d => rfl, fun d j hj => absurd hj (Nat.not_lt_zero j)⟩
    · rw [R.1 c (fun z => hc (List.mem_cons_of_mem _ (List.mem_cons_of_mem _ z)))]
      exact qc c (fun z => hc (by rw [z]; exact List.mem_cons_self))
    · rw [R.1 67 (by decide)]; exact q67 j hj
  · have z56 : σ2 67 56 = 0 := by rw [h1, hp_r1]
    have M := mA_L hP.1 (σ' := σ2) (fun j _ hj => q67 j hj) (fun c hc _ => qc c (fun z => by rw [z] at hc; unfold shC at hc; omega)) (by rw [z56]; exact ⟨by decide, by decide⟩)
    refine ⟨M.1, fun d => ?_⟩
    have h' := ite0' h
    unfold s_path
    rw [if_neg h', M.2 d, z56]
    exact ⟨rfl, by rw [show (0 : Int).toNat = 0 from rfl, tr_0]⟩
theorem Rn.keep {σ0 σ σ' : Hp} {s : Sta} {a : Int} {i : Nat} (h : Rn σ0 σ s a i) (h67 : σ' 67 = σ 67) (h91 : σ' 91 = σ 91) (hc : ∀ c, (73 ≤ c ∧ c ≤ 75) ∨ (85 ≤ c ∧ c ≤ 89) → σ' c = σ c) : Rn σ0 σ' s a i := by
  have K := h.1.keep h67 h91 hc
  exact ⟨K.1, fun d => (K.2 d).trans (h.2.1 d), fun d => (hst_air h91).trans (h.2.2.1 d), h.2.2.2⟩
theorem Mo_path_p25 : Mo_path_vc25 := by
  intro k a σ0 hp0 n v2 v3 σ hH hI
  obtain ⟨rfl, hP⟩ := hp0
  obtain ⟨i, rfl, hi, ha, rfl, hc, h67, hR, hv, hrow⟩ := hI
  refine ⟨fun h => ?_, fun h => ?_⟩
  · intro σ1 h1
    have ei : a.toNat = i := by omega
    have q67 : ∀ j, ¬ j = 56 → σ1 67 j = σ0 67 j := fun j hj => by rw [h1, hp_r2 (fun z => hj z.2), h67 j hj]
    have qc : ∀ c, ¬ c = 67 → σ1 c = σ c := fun c hc => by rw [h1, hp_ne hc]
    have z56 : σ1 67 56 = a := by rw [h1, hp_r1]
    have M := mA_L hP.1 (σ' := σ1) (fun j _ hj => q67 j hj) (fun c hcc h97 => by
      rw [qc c (fun z => by rw [z] at hcc; unfold shC at hcc; omega)]
      exact hc c (shC_ne hcc h97)) (by rw [z56]; omega)
    refine ⟨M.1, fun d => ?_⟩
    unfold s_path
    rw [if_pos ha, M.2 d, z56]
    refine ⟨by rw [hv d, ei]; rfl, ?_⟩
    congr 1
    refine tr_ext fun j hj => ?_
    rw [qc 97 (by decide)]
    exact hrow d j (by omega)
  · obtain ⟨p1, p2⟩ := hR.day (by omega)
    refine ⟨p1, fun σ2 g => ?_⟩
    obtain ⟨q1, q2⟩ := p2 σ2 g
    refine ⟨by decide, ⟨by omega, by omega⟩, ?_⟩
    intro σ3 h3
    rw [Int.toNat_natCast] at h3
    have e91 : σ3 91 = σ2 91 := by rw [h3]; exact hp_ne (by decide)
    have f3 : ∀ c, ¬ c = 97 → σ3 c = σ2 c := fun c hcc => by rw [h3]; exact hp_ne hcc
    have R3 : Rn σ0 σ3 (nowM σ0) 0 (i + 1) := q2.keep (f3 67 (by decide)) e91 (fun c hcc => f3 c (by omega))
    have c3 : ∀ c, ¬ c ∈ 67 :: 97 :: af → σ3 c = σ0 c := by
      intro c hcc
      rw [f3 c (fun z => hcc (by rw [z]; simp)), q1 c (fun z => hcc (List.mem_cons_of_mem _ (List.mem_cons_of_mem _ z)))]
      exact hc c hcc
    have s3 : ∀ j, ¬ j = 56 → σ3 67 j = σ0 67 j := fun j hj => by rw [f3 67 (by decide), q1 67 (by decide)]; exact h67 j hj
    have row3 : ∀ d, ∀ j, j < i + 1 → σ3 97 j = (itr (famM d σ0) 0 (nowM σ0) (j + 1)).2.2.1 := by
      intro d j hj
      rw [h3]
      show hp σ2 97 i (σ2 91 12) 97 j = _
      by_cases e : j = i
      · rw [e, hp_r1]; exact q2.h d
      · rw [hp_r2 (fun z => e z.2), q1 97 (by decide)]; exact hrow d j (by omega)
    have hV : -1 ≤ σ3 91 12 := R3.1.2.2.1.1
    refine ⟨by decide, ?_⟩
    rw [wr1 (by omega) (by omega)]
    refine ⟨fun h5 => ⟨trivial, ?_⟩, fun h5 => ⟨trivial, ?_⟩⟩
    · rintro r5 σ4 ⟨rfl, rfl⟩
      refine ⟨6 - (i + 1), by omega, rfl, rfl, i + 1, by simp, by omega, ha, rfl, c3, s3, R3, fun d => ?_, row3⟩
      have h5' : 0 ≤ σ4 91 12 := h5
      have h6 := R3.h d
      have hvd := hv d
      have hcd := cnt_le (famM d σ0) (nowM σ0) (-1) i
      rw [tr0, cnt_s, if_neg (by omega), wr_id (by omega) (by omega)]
      omega
    · rintro r5 σ4 ⟨rfl, rfl⟩
      refine ⟨6 - (i + 1), by omega, rfl, rfl, i + 1, by simp, by omega, ha, rfl, c3, s3, R3, fun d => ?_, row3⟩
      have h5' : ¬ 0 ≤ σ4 91 12 := h5
      have h6 := R3.h d
      have hvd := hv d
      have hcd := cnt_le (famM d σ0) (nowM σ0) (-1) i
      rw [tr1, cnt_s, if_pos (by omega), wr_id (by omega) (by omega)]
      omega
def Mo_path_I : List AV → Hp → Nat → Nat → List AV → List AV → Hp → Prop := fun as σ0 pc n st ls σ => (match as with
    | [.inr (.inr (.inl (k, 0, 9))), .inl a1] => (bif Nat.beq pc 25 then (match st, ls with
      | [], [.inr (.inr (.inl (k', 0, 9))), .inl a1', .inl v2, .inl v3] => k = k' ∧ a1 = a1' ∧ Mo_path_I25 k a1 σ0 n v2 v3 σ
      | _, _ => False) else False)
    | _ => False)
def Mo_path_ct : Nat → Ct := fun n => match n with
  | 0 => Mo_isIn_cs
  | 1 => Mo_load_cs
  | 2 => Mo_goDay_cs
  | 3 => Mo_truth_cs
  | _ => Mo_path_cs
set_option maxRecDepth 20000 in
set_option maxHeartbeats 4000000 in
theorem Mo_path_met {l : Launch} {D : va_G} {ad : Nat → Nat} {ca : Nat → ClassId} {L : Nat} {fx : Nat → Int} : ax_MC l D ad ca L fx yX9_path cX9_path 4 (some .int) 8 Mo_path_cs := by
  refine ax_met (oc := 9) (ct := Mo_path_ct) (calls := Mo_path_cl) (bs := Mo_path_bk) (cut := fun pc => Nat.beq pc 25) (f := 7) (I := Mo_path_I) (by decide) rfl rfl Mo_path_ck (List.forall_mem_cons.mpr ⟨ax_cwS Mo_isIn_met (by decide) (by decide) (ax_m7 83 (by decide +kernel) rfl) Mo_isIn_w rfl Mo_isIn_ds, List.forall_mem_cons.mpr ⟨ax_cwV Mo_load_met (by decide) (by decide) rfl (by decide) rfl (ax_m7 86 (by decide +kernel) rfl) Mo_load_w rfl Mo_load_ds, List.forall_mem_cons.mpr ⟨ax_cwV Mo_goDay_met (by decide) (by decide) rfl (by decide) rfl (ax_m7 189 (by decide +kernel) rfl) Mo_goDay_w rfl Mo_goDay_ds, List.forall_mem_cons.mpr ⟨ax_cwS Mo_truth_met (by decide) (by decide) (ax_m7 58 (by decide +kernel) rfl) Mo_truth_w rfl Mo_truth_ds, fun _ h => absurd h List.not_mem_nil⟩⟩⟩⟩) ?_ ?_
  · intro as σ0 hp hH
    match as, hp with
    | [.inr (.inr (.inl (k, 0, 9))), .inl a1], hp => exact ⟨rfl, Mo_path_p k a1 σ0 hH hp⟩
  · intro as σ0 hp n pc st ls σ hH hI
    match as, hp, hI with
    | [.inr (.inr (.inl (k, 0, 9))), .inl a1], hp, hI =>
      rcases ax_bifE hI with ⟨hpc, hI⟩ | ⟨-, hI⟩
      · have := Nat.eq_of_beq_eq_true hpc
        subst this
        match st, ls, hI with
        | [], [.inr (.inr (.inl (k', 0, 9))), .inl a1', .inl v2, .inl v3], hI =>
          obtain ⟨rfl, rfl, hI⟩ := hI
          exact Mo_path_p25 k a1 σ0 hp n v2 v3 σ hH hI
      exact False.elim hI
