-- THE MODEL: acts
theorem stR_ext {f g : Nat → Int} {b c : Nat} (h : ∀ j, j < 16 → f (b + j) = g (c + j)) : stR f b = stR g c := by
  unfold stR
  refine Prod.ext (tr_ext fun j hj => h j (by omega)) (Prod.ext (tr_ext fun j hj => ?_) ?_)
  · show f (b + 6 + j) = g (c + 6 + j)
    rw [Nat.add_assoc, Nat.add_assoc]; exact h (6 + j) (by omega)
  · show (f (b + 12), f (b + 14), f (b + 15), f (b + 13)) = (g (c + 12), g (c + 14), g (c + 15), g (c + 13))
    rw [h 12 (by omega), h 13 (by omega), h 14 (by omega), h 15 (by omega)]
theorem stR_now {f : Nat → Int} {σ : Hp} {b : Nat} (h : ∀ j, j < 16 → f (b + j) = σ 90 j) : stR f b = nowM σ := stR_ext (fun j hj => by rw [h j hj, Nat.zero_add])
theorem stR_c {f g : Nat → Int} {b : Nat} {v : Int} (hb : b < 6) (h : ∀ j, g j = if j = b then v else f j) : stR g 0 = (va_up (stR f 0).1 b v, (stR f 0).2) := by
  unfold stR
  refine Prod.ext ?_ (Prod.ext (tr_ext fun j hj => by rw [h, if_neg (by omega)]) ?_)
  · funext j
    show tr 6 (fun j => g (0 + j)) j = va_up (tr 6 (fun j => f (0 + j))) b v j
    by_cases e : j = b
    · rw [e, vu_at, tr_in hb, Nat.zero_add, h, if_pos rfl]
    · rw [vu_ne e]
      by_cases hj : j < 6
      · rw [tr_in hj, tr_in hj, Nat.zero_add, h, if_neg e]
      · rw [tr_out (by omega), tr_out (by omega)]
  · show (g 12, g 14, g 15, g 13) = (f 12, f 14, f 15, f 13)
    rw [h, h, h, h, if_neg (by omega), if_neg (by omega), if_neg (by omega), if_neg (by omega)]
theorem hstM_eq {σ σ' : Hp} (h50 : σ' 67 50 = σ 67 50) (h51 : σ' 67 51 = σ 67 51) (h93 : σ' 93 = σ 93) : hstM σ' = hstM σ := by unfold hstM; rw [h50, h51, h93]
/-- an act has changed the state now, and the history -/
theorem mA_act {σ σ' : Hp} (hX : MIr σ) (h67 : ∀ j, ¬ j = 50 → ¬ j = 51 → σ' 67 j = σ 67 j) (h50 : 0 ≤ σ' 67 50) (h51 : 0 ≤ σ' 67 51) (hc : ∀ c, shC c → ¬ c = 90 → ¬ c = 93 → σ' c = σ c) : MQo σ σ' ∧ ∀ d, mA d σ' = wH (mA d σ) (nowM σ') (hstM σ') := by
  obtain ⟨h1, h2, h3, h4, h5, h6⟩ := hX
  have K := h1.keep (σ' := σ') (h67 42 (by decide) (by decide)) (h67 43 (by decide) (by decide)) (h67 23 (by decide) (by decide)) (fun c z => hc c (by unfold shC; omega) (by omega) (by omega))
  have c68 := hc 68 (by unfold shC; omega) (by decide) (by decide)
  refine ⟨⟨⟨K.1, by rw [h67 1 (by decide) (by decide)]; exact h2, by rw [c68]; exact h3, ⟨h50, h51⟩, by rw [h67 56 (by decide) (by decide)]; exact h5, by rw [h67 64 (by decide) (by decide)]; exact h6⟩, fun c z => hc c (by unfold shC; omega) (by omega) (by omega)⟩, fun d => ?_⟩
  have eX : bxM σ' = bxM σ := by funext i; unfold bxM; rw [hc 106 (by unfold shC; omega) (by decide) (by decide), hc 107 (by unfold shC; omega) (by decide) (by decide)]
  unfold mA wH tpM sgM lsM
  rw [h67 1 (by decide) (by decide), h67 2 (by decide) (by decide), h67 3 (by decide) (by decide), K.2 d, h67 56 (by decide) (by decide), h67 64 (by decide) (by decide), h67 65 (by decide) (by decide), c68, eX, hc 97 (by unfold shC; omega) (by decide) (by decide), hc 99 (by unfold shC; omega) (by decide) (by decide), hc 100 (by unfold shC; omega) (by decide) (by decide), hc 101 (by unfold shC; omega) (by decide) (by decide), hc 102 (by unfold shC; omega) (by decide) (by decide), hc 103 (by unfold shC; omega) (by decide) (by decide)]
theorem MP.len {σ : Hp} (h : MP σ) : σ 67 50 + σ 67 51 ≤ 40 := by
  obtain ⟨d, hd⟩ := h.2
  have := hd.2.2.2.2.2.2.1
  have e1 : (aH (mA d σ)).1.length = (σ 67 50).toNat := by
    show ((List.range (σ 67 50).toNat).map _).length = _
    rw [List.length_map, List.length_range]
  have e2 : (aH (mA d σ)).2.length = (σ 67 51).toNat := by
    show ((List.range (σ 67 51).toNat).map _).length = _
    rw [List.length_map, List.length_range]
  have := h.1.2.2.2.1
  omega
def actQ (σ σ' : Hp) : Prop := Fr [67, 91, 93] σ σ' ∧ (∀ j, ¬ j = 50 → ¬ j = 51 → σ' 67 j = σ 67 j) ∧ 0 ≤ σ' 67 50 ∧ σ' 67 51 = 0 ∧ hstM σ' = (hk (hstM σ).1 (nowM σ), []) ∧ ∀ j, j < 16 → σ' 91 j = σ 90 j
def Mo_act_pre (k : Nat) (σ : Hp) : Prop := k = 67 ∧ 0 ≤ σ 67 50 ∧ σ 67 50 ≤ 40
def Mo_act_post (_k : Nat) (σ σ' : Hp) : Prop := actQ σ σ'
def Mo_act_I11 (_k : Nat) (σ0 : Hp) (n : Nat) (v1 : Int) (σ : Hp) : Prop := ∃ i : Nat, v1 = i ∧ i ≤ 624 ∧ n = 700 - i ∧ σ0 67 50 = 40 ∧ Fr [93] σ0 σ ∧ (∀ j, j < i → σ 93 j = σ0 93 (16 + j)) ∧ ∀ j, i ≤ j → σ 93 j = σ0 93 j
def Mo_act_I51 (_k : Nat) (σ0 : Hp) (n : Nat) (v1 : Int) (σ : Hp) : Prop := ∃ i : Nat, v1 = i ∧ i ≤ 16 ∧ n = 20 - i ∧ Fr [67, 93] σ0 σ ∧ (∀ j, ¬ j = 50 → σ 67 j = σ0 67 j) ∧ (0 ≤ σ 67 50 ∧ σ 67 50 ≤ 39) ∧ (List.range (σ 67 50).toNat).map (fun i => stR (σ 93) (16 * i)) = (if (hstM σ0).1.length < 40 then (hstM σ0).1 else (hstM σ0).1.tail) ∧ ∀ j, j < i → σ 93 (16 * (σ 67 50).toNat + j) = σ0 90 j
def Mo_act_bk : List (Nat × List Item) := [(0, [(.aload_n 0, 1, [], []), (.getfield 367, 3, [9, 50, 0, 0, 0, 0], []), (.bipush 40, 2, [], []), (.if_icmp .ne 43, 3, [49], []), (.iconst 0, 1, [], []), (.istore_n 1, 1, [], [])]),
  (11, [(.iload_n 1, 1, [], []), (.sipush 624, 3, [], []), (.if_icmp .ge 24, 3, [39], []), (.aload_n 0, 1, [], []), (.getfield 94, 3, [9, 49, 4, 26, 1, 640], []), (.iload_n 1, 1, [], []), (.aload_n 0, 1, [], []), (.getfield 94, 3, [9, 49, 4, 26, 1, 640], []), (.bipush 16, 2, [], []), (.iload_n 1, 1, [], []), (.iadd, 1, [], []), (.iaload, 1, [], []), (.iastore, 1, [], []), (.iinc 1 1, 3, [], []), (.goto (-25), 3, [11], [])]),
  (39, [(.aload_n 0, 1, [], []), (.dup, 1, [], []), (.getfield 367, 3, [9, 50, 0, 0, 0, 0], []), (.iconst 1, 1, [], []), (.isub, 1, [], []), (.putfield 367, 3, [9, 50, 0, 0, 0, 0], [])]),
  (49, [(.iconst 0, 1, [], []), (.istore_n 1, 1, [], [])]),
  (51, [(.iload_n 1, 1, [], []), (.bipush 16, 2, [], []), (.if_icmp .ge 29, 3, [83], []), (.aload_n 0, 1, [], []), (.getfield 94, 3, [9, 49, 4, 26, 1, 640], []), (.bipush 16, 2, [], []), (.aload_n 0, 1, [], []), (.getfield 367, 3, [9, 50, 0, 0, 0, 0], []), (.imul, 1, [], []), (.iload_n 1, 1, [], []), (.iadd, 1, [], []), (.aload_n 0, 1, [], []), (.getfield 85, 3, [9, 46, 4, 23, 1, 16], []), (.iload_n 1, 1, [], []), (.iaload, 1, [], []), (.iastore, 1, [], []), (.iinc 1 1, 3, [], []), (.goto (-29), 3, [51], [])]),
  (83, [(.aload_n 0, 1, [], []), (.dup, 1, [], []), (.getfield 367, 3, [9, 50, 0, 0, 0, 0], []), (.iconst 1, 1, [], []), (.iadd, 1, [], []), (.putfield 367, 3, [9, 50, 0, 0, 0, 0], []), (.aload_n 0, 1, [], []), (.iconst 0, 1, [], []), (.putfield 370, 3, [9, 51, 0, 0, 0, 0], []), (.aload_n 0, 1, [], []), (.invokevirtual 401, 3, [0], []), (.return_, 1, [], [])])]
def Mo_act_cl : List (Instr × Nat) := [(.invokevirtual 401, 0)]
set_option maxRecDepth 20000 in
theorem Mo_act_ck : Mo_act_bk.all (fun b => ax_chB 9 2 cX9_act Mo_act_cl b.1 b.2) = true := by decide +kernel
def Mo_act_cs : Ct := (1, 10, 0, (0, 0), fun as σ => (match as with
    | [.inr (.inr (.inl (k, 0, 9)))] => Mo_act_pre k σ
    | _ => False), fun as σ r σ' => (match as with
    | [.inr (.inr (.inl (k, 0, 9)))] => Mo_act_post k σ σ'
    | _ => False))
theorem Mo_act_w : ∀ w ∈ ([.instanceMethod yX9_act, .selects yX9_act.cls yX9_act yX9_act, .initialized yX9_act.cls, .code yX9_act cX9_act 2 none] : List Cond), w ∈ ax_tb := ax_w4 (ax_m7 104 (by decide +kernel) rfl) (ax_m0 43 (by decide +kernel) rfl) (ax_m1 10 (by decide +kernel) rfl) (ax_m7 105 (by decide +kernel) rfl)
theorem Mo_act_ds : yX9_act.cls ≠ "java/lang/invoke/MethodHandle" ∧ yX9_act.cls ≠ "java/lang/invoke/VarHandle" ∧ (parseMethodDescriptor yX9_act.desc).map (fun d => d.parameters.length) = some 0 := by decide +kernel
def Mo_act_vc : Prop := ∀ (k : Nat) (σ : Hp), ax_H σ → Mo_act_pre k σ →
  (¬ σ k 50 = 40 →
    ∃ n' : Nat, k = k ∧ Mo_act_I51 k σ n' 0 σ) ∧
  (¬ (¬ σ k 50 = 40) →
    ∃ n' : Nat, k = k ∧ Mo_act_I11 k σ n' 0 σ)
def Mo_act_vc11 : Prop := ∀ (k : Nat) (σ0 : Hp), Mo_act_pre k σ0 → ∀ (n : Nat) (v1 : Int) (σ : Hp), ax_H σ → Mo_act_I11 k σ0 n v1 σ →
  (624 ≤ v1 →
    ∀ σ1 : Hp, σ1 = hp σ k 50 (wr ((σ k 50) - 1)) →
    ∃ n' : Nat, n' < n ∧ k = k ∧ Mo_act_I51 k σ0 n' 0 σ1) ∧
  (¬ (624 ≤ v1) →
    (0 ≤ wr (16 + v1) ∧ wr (16 + v1) < 640) ∧
    (0 ≤ v1 ∧ v1 < 640) ∧
    ∀ σ2 : Hp, σ2 = hp σ (k + 26) v1.toNat (σ (k + 26) (wr (16 + v1)).toNat) →
    ∃ n' : Nat, n' < n ∧ k = k ∧ Mo_act_I11 k σ0 n' (wr (v1 + 1)) σ2)
def Mo_act_vc51 : Prop := ∀ (k : Nat) (σ0 : Hp), Mo_act_pre k σ0 → ∀ (n : Nat) (v1 : Int) (σ : Hp), ax_H σ → Mo_act_I51 k σ0 n v1 σ →
  (16 ≤ v1 →
    ∀ σ1 : Hp, σ1 = hp σ k 50 (wr ((σ k 50) + 1)) →
    ∀ σ2 : Hp, σ2 = hp σ1 k 51 0 →
    Mo_load_pre k σ2 ∧
    ∀ σ3 : Hp, Mo_load_post k σ2 σ3 →
    Mo_act_post k σ0 σ3) ∧
  (¬ (16 ≤ v1) →
    (0 ≤ v1 ∧ v1 < 16) ∧
    (0 ≤ wr ((wr (16 * (σ k 50))) + v1) ∧ wr ((wr (16 * (σ k 50))) + v1) < 640) ∧
    ∀ σ4 : Hp, σ4 = hp σ (k + 26) (wr ((wr (16 * (σ k 50))) + v1)).toNat (σ (k + 23) v1.toNat) →
    ∃ n' : Nat, n' < n ∧ k = k ∧ Mo_act_I51 k σ0 n' (wr (v1 + 1)) σ4)
theorem tail_rows {α : Type} (f : Nat → α) (n : Nat) : ((List.range (n + 1)).map f).tail = (List.range n).map (fun i => f (i + 1)) := by
  rw [List.range_succ_eq_map, List.map_cons, List.tail_cons, List.map_map]
  rfl
theorem hstM_l (σ : Hp) : (hstM σ).1.length = (σ 67 50).toNat := by
  show ((List.range (σ 67 50).toNat).map _).length = _
  rw [List.length_map, List.length_range]
theorem Mo_act_p : Mo_act_vc := by
  intro k σ hH hp
  obtain ⟨rfl, h0, h4⟩ := hp
  refine ⟨fun h => ⟨20, rfl, 0, rfl, by omega, rfl, Fr.rf, fun _ _ => rfl, ⟨h0, by omega⟩, ?_, fun j hj => absurd hj (Nat.not_lt_zero j)⟩, fun h => ⟨700, rfl, 0, rfl, by omega, rfl, Classical.not_not.mp h, Fr.rf, fun j hj => absurd hj (Nat.not_lt_zero j), fun j _ => rfl⟩⟩
  rw [if_pos (by rw [hstM_l]; omega)]
  rfl
theorem Mo_act_p11 : Mo_act_vc11 := by
  intro k σ0 hp0 n v1 σ hH hI
  obtain ⟨rfl, h0, h4⟩ := hp0
  obtain ⟨i, rfl, hi, rfl, h40, hf, h1, h2⟩ := hI
  have e67 : σ 67 = σ0 67 := hf 67 (by decide)
  refine ⟨fun h => ?_, fun h => ?_⟩
  · rw [e67, h40, wr_id (by omega) (by omega)]
    intro σ1 hs
    have q50 : σ1 67 50 = 39 := by rw [hs, hp_r1]; rfl
    have q67 : ∀ j, ¬ j = 50 → σ1 67 j = σ0 67 j := fun j hj => by rw [hs, hp_r2 (fun z => hj z.2), e67]
    have q93 : σ1 93 = σ 93 := by rw [hs]; exact hp_ne (by decide)
    refine ⟨20, by omega, rfl, 0, rfl, by omega, rfl, by rw [hs]; exact Fr.hp (hf.mono (by simp)) (by simp), q67, by rw [q50]; exact ⟨by decide, by decide⟩, ?_, fun j hj => absurd hj (Nat.not_lt_zero j)⟩
    rw [if_neg (by rw [hstM_l, h40]; decide), q50, q93]
    show (List.range 39).map (fun i => stR (σ 93) (16 * i)) = ((List.range (σ0 67 50).toNat).map (fun i => stR (σ0 93) (16 * i))).tail
    rw [h40, show (40 : Int).toNat = 39 + 1 from rfl, tail_rows]
    refine List.map_congr_left (fun m hm => ?_)
    have hm' := List.mem_range.mp hm
    refine stR_ext (fun j hj => ?_)
    rw [h1 (16 * m + j) (by omega)]
    congr 1
    show 16 + (16 * m + j) = 16 * (m + 1) + j
    omega
  · rw [wr_id (x := 16 + (i : Int)) (by omega) (by omega), wr1 (by omega) (by omega), show ((16 : Int) + (i : Int)).toNat = 16 + i by omega, Int.toNat_natCast]
    refine ⟨⟨by omega, by omega⟩, ⟨by omega, by omega⟩, ?_⟩
    rintro σ2 rfl
    refine ⟨700 - (i + 1), by omega, rfl, i + 1, by simp, by omega, rfl, h40, Fr.hp hf (by simp), fun j hj => ?_, fun j hj => ?_⟩
    · show hp σ 93 i (σ 93 (16 + i)) 93 j = _
      by_cases e : j = i
      · rw [e, hp_r1, h2 (16 + i) (by omega)]
      · rw [hp_r2 (fun z => e z.2)]; exact h1 j (by omega)
    · show hp σ 93 i (σ 93 (16 + i)) 93 j = _
      rw [hp_r2 (fun z => by omega)]; exact h2 j (by omega)
theorem Mo_act_p51 : Mo_act_vc51 := by
  intro k σ0 hp0 n v1 σ hH hI
  obtain ⟨rfl, h0, h4⟩ := hp0
  obtain ⟨i, rfl, hi, rfl, hf, h67, h50, hrow, hr⟩ := hI
  refine ⟨fun h => ?_, fun h => ?_⟩
  · have ei : i = 16 := by omega
    subst ei
    rw [wr1 h50.1 (by omega)]
    intro σ1 hs1 σ2 hs2
    have q50 : σ2 67 50 = σ 67 50 + 1 := by rw [hs2, hp_r2 (fun z => by omega), hs1, hp_r1]
    have q51 : σ2 67 51 = 0 := by rw [hs2, hp_r1]
    have q67 : ∀ j, ¬ j = 50 → ¬ j = 51 → σ2 67 j = σ0 67 j := fun j hj hj2 => by rw [hs2, hp_r2 (fun z => hj2 z.2), hs1, hp_r2 (fun z => hj z.2), h67 j hj]
    have qc : ∀ c, ¬ c = 67 → σ2 c = σ c := fun c hc => by rw [hs2, hp_ne hc, hs1, hp_ne hc]
    refine ⟨rfl, ?_⟩
    rintro σ3 ⟨g1, g2⟩
    have e67 : σ3 67 = σ2 67 := g1 67 (by decide)
    have e93 : σ3 93 = σ 93 := by rw [g1 93 (by decide), qc 93 (by decide)]
    refine ⟨?_, fun j a b => by rw [e67]; exact q67 j a b, by rw [e67, q50]; omega, by rw [e67, q51], ?_, fun j hj => ?_⟩
    · intro c hc
      have c67 : ¬ c = 67 := fun z => hc (by rw [z]; simp)
      have c93 : ¬ c = 93 := fun z => hc (by rw [z]; simp)
      have c91 : ¬ c = 91 := fun z => hc (by rw [z]; simp)
      rw [g1 c (by simp; exact c91), qc c c67]
      exact hf c (by simp; exact ⟨c67, c93⟩)
    · show ((List.range (σ3 67 50).toNat).map (fun i => stR (σ3 93) (16 * i)), (List.range (σ3 67 51).toNat).map (fun i => stR (σ3 93) (16 * ((σ3 67 50).toNat + i)))) = _
      rw [e67, q51, q50, e93, show (σ 67 50 + 1).toNat = (σ 67 50).toNat + 1 by omega]
      refine Prod.ext ?_ rfl
      show (List.range ((σ 67 50).toNat + 1)).map (fun i => stR (σ 93) (16 * i)) = hk (hstM σ0).1 (nowM σ0)
      rw [List.range_succ, List.map_append, hrow]
      unfold hk
      congr 1
      show [stR (σ 93) (16 * (σ 67 50).toNat)] = [nowM σ0]
      rw [stR_now hr]
    · rw [g2 j hj, qc 90 (by decide), hf 90 (by decide)]
  · rw [wr_id (x := 16 * σ 67 50) (by omega) (by omega), wr_id (x := 16 * σ 67 50 + (i : Int)) (by omega) (by omega), wr1 (by omega) (by omega), Int.toNat_natCast, show (16 * σ 67 50 + (i : Int)).toNat = 16 * (σ 67 50).toNat + i by omega]
    refine ⟨⟨by omega, by omega⟩, ⟨by omega, by omega⟩, ?_⟩
    rintro σ4 hs
    have e67 : σ4 67 = σ 67 := by rw [hs]; exact hp_ne (by decide)
    have q : ∀ j, ¬ j = 16 * (σ 67 50).toNat + i → σ4 93 j = σ 93 j := fun j hj => by rw [hs]; exact hp_r2 (fun z => hj z.2)
    refine ⟨20 - (i + 1), by omega, rfl, i + 1, by simp, by omega, rfl, by rw [hs]; exact Fr.hp hf (by simp), by rw [e67]; exact h67, by rw [e67]; exact h50, ?_, fun j hj => ?_⟩
    · rw [← hrow, e67]
      refine List.map_congr_left (fun m hm => ?_)
      have hm' := List.mem_range.mp hm
      exact stR_ext (fun j hj => q _ (by omega))
    · rw [e67]
      by_cases e : j = i
      · rw [e, hs]
        show hp σ 93 (16 * (σ 67 50).toNat + i) (σ 90 i) 93 (16 * (σ 67 50).toNat + i) = _
        rw [hp_r1, hf 90 (by decide)]
      · rw [q _ (by omega)]; exact hr j (by omega)
def Mo_act_I : List AV → Hp → Nat → Nat → List AV → List AV → Hp → Prop := fun as σ0 pc n st ls σ => (match as with
    | [.inr (.inr (.inl (k, 0, 9)))] => (bif Nat.beq pc 11 then (match st, ls with
      | [], [.inr (.inr (.inl (k', 0, 9))), .inl v1] => k = k' ∧ Mo_act_I11 k σ0 n v1 σ
      | _, _ => False) else (bif Nat.beq pc 51 then (match st, ls with
      | [], [.inr (.inr (.inl (k', 0, 9))), .inl v1] => k = k' ∧ Mo_act_I51 k σ0 n v1 σ
      | _, _ => False) else False))
    | _ => False)
def Mo_act_ct : Nat → Ct := fun n => match n with
  | 0 => Mo_load_cs
  | _ => Mo_act_cs
set_option maxRecDepth 20000 in
set_option maxHeartbeats 4000000 in
theorem Mo_act_met {l : Launch} {D : va_G} {ad : Nat → Nat} {ca : Nat → ClassId} {L : Nat} {fx : Nat → Int} : ax_MC l D ad ca L fx yX9_act cX9_act 2 none 2 Mo_act_cs := by
  refine ax_met (oc := 9) (ct := Mo_act_ct) (calls := Mo_act_cl) (bs := Mo_act_bk) (cut := fun pc => Nat.beq pc 11 || Nat.beq pc 51) (f := 7) (I := Mo_act_I) (by decide) rfl rfl Mo_act_ck (List.forall_mem_cons.mpr ⟨ax_cwV Mo_load_met (by decide) (by decide) rfl (by decide) rfl (ax_m7 86 (by decide +kernel) rfl) Mo_load_w rfl Mo_load_ds, fun _ h => absurd h List.not_mem_nil⟩) ?_ ?_
  · intro as σ0 hp hH
    match as, hp with
    | [.inr (.inr (.inl (k, 0, 9)))], hp => exact ⟨rfl, Mo_act_p k σ0 hH hp⟩
  · intro as σ0 hp n pc st ls σ hH hI
    match as, hp, hI with
    | [.inr (.inr (.inl (k, 0, 9)))], hp, hI =>
      rcases ax_bifE hI with ⟨hpc, hI⟩ | ⟨-, hI⟩
      · have := Nat.eq_of_beq_eq_true hpc
        subst this
        match st, ls, hI with
        | [], [.inr (.inr (.inl (k', 0, 9))), .inl v1], hI =>
          obtain ⟨rfl, hI⟩ := hI
          exact Mo_act_p11 k σ0 hp n v1 σ hH hI
      rcases ax_bifE hI with ⟨hpc, hI⟩ | ⟨-, hI⟩
      · have := Nat.eq_of_beq_eq_true hpc
        subst this
        match st, ls, hI with
        | [], [.inr (.inr (.inl (k', 0, 9))), .inl v1], hI =>
          obtain ⟨rfl, hI⟩ := hI
          exact Mo_act_p51 k σ0 hp n v1 σ hH hI
      exact False.elim hI
theorem MP.act {σ : Hp} (h : MP σ) : Mo_act_pre 67 σ := ⟨rfl, h.1.2.2.2.1.1, by have := h.len; have := h.1.2.2.2.1; omega⟩
/-- behind an act, and what followed it -/
theorem actQ.pic {σ σ1 σ' : Hp} {cs : List Nat} (hX : MIr σ) (ha : actQ σ σ1) (hf : Fr cs σ1 σ') (hc : ∀ c ∈ cs, c = 90 ∨ scm c) : MQo σ σ' ∧ ∀ d, mA d σ' = act (mA d σ) (nowM σ') := by
  obtain ⟨a1, a2, a3, a4, a5, a6⟩ := ha
  have n67 : ¬ (67 : Nat) ∈ cs := fun z => by
    have := hc 67 z
    unfold scm at this
    omega
  have n93 : ¬ (93 : Nat) ∈ cs := fun z => by
    have := hc 93 z
    unfold scm shC at this
    omega
  have e67 : σ' 67 = σ1 67 := hf 67 n67
  have M := mA_act (σ' := σ') hX (fun j b c => by rw [e67]; exact a2 j b c) (by rw [e67]; exact a3) (by rw [e67, a4]; exact Int.le_refl 0) (fun c z z1 z2 => by
    rw [hf c (fun y => by rcases hc c y with h | h; exact z1 h; exact h.2 z)]
    exact a1 c (fun y => by simp at y; unfold shC at z; omega))
  refine ⟨M.1, fun d => ?_⟩
  rw [M.2 d, hstM_eq (by rw [e67]) (by rw [e67]) (hf 93 n93), a5]
  rfl
theorem actQ.load {σ σ1 : Hp} (h : MP σ) (ha : actQ σ σ1) : AP σ1 ∧ (∀ d, famM d σ1 = famM d σ) ∧ airM σ1 = nowM σ := by
  obtain ⟨a1, a2, a3, a4, a5, a6⟩ := ha
  have hN := h.np
  have K := hN.1.keep (σ' := σ1) (a2 42 (by decide) (by decide)) (a2 43 (by decide) (by decide)) (a2 23 (by decide) (by decide)) (fun c hc => a1 c (by simp; omega))
  have ea : airM σ1 = nowM σ := stR_eq a6
  exact ⟨⟨K.1, by rw [ea]; exact hN.2.1.mono (by decide), by rw [ea, a2 42 (by decide) (by decide)]; exact hN.2.2⟩, K.2, ea⟩
def Mo_day_pre (k : Nat) (σ : Hp) : Prop := k = 67 ∧ MP σ
def Mo_day_post (_k : Nat) (σ : Hp) (r : Int) (σ' : Hp) : Prop := MQo σ σ' ∧ ∀ d, s_day (mA d σ) r (mA d σ')
def Mo_day_bk : List (Nat × List Item) := [(0, [(.aload_n 0, 1, [], []), (.getfield 85, 3, [9, 46, 4, 23, 1, 16], []), (.bipush 14, 2, [], []), (.iaload, 1, [], []), (.sipush 999, 3, [], []), (.if_icmp .ne 6, 3, [16], []), (.bipush (-2), 2, [], []), (.ireturn, 1, [], [])]),
  (16, [(.aload_n 0, 1, [], []), (.invokevirtual 407, 3, [0], []), (.aload_n 0, 1, [], []), (.invokevirtual 410, 3, [1], []), (.aload_n 0, 1, [], []), (.invokevirtual 364, 3, [2], []), (.aload_n 0, 1, [], []), (.getfield 85, 3, [9, 46, 4, 23, 1, 16], []), (.bipush 12, 2, [], []), (.iaload, 1, [], []), (.ireturn, 1, [], [])])]
def Mo_day_cl : List (Instr × Nat) := [(.invokevirtual 407, 0), (.invokevirtual 410, 1), (.invokevirtual 364, 2)]
set_option maxRecDepth 20000 in
theorem Mo_day_ck : Mo_day_bk.all (fun b => ax_chB 9 1 cX9_day Mo_day_cl b.1 b.2) = true := by decide +kernel
def Mo_day_cs : Ct := (1, 10, 1, (0, 0), fun as σ => (match as with
    | [.inr (.inr (.inl (k, 0, 9)))] => Mo_day_pre k σ
    | _ => False), fun as σ r σ' => (match as with
    | [.inr (.inr (.inl (k, 0, 9)))] => Mo_day_post k σ r σ'
    | _ => False))
theorem Mo_day_w : ∀ w ∈ ([.instanceMethod yX9_day, .selects yX9_day.cls yX9_day yX9_day, .initialized yX9_day.cls, .code yX9_day cX9_day 1 (some .int)] : List Cond), w ∈ ax_tb := ax_w4 (ax_m7 99 (by decide +kernel) rfl) (ax_m7 100 (by decide +kernel) rfl) (ax_m1 10 (by decide +kernel) rfl) (ax_m7 101 (by decide +kernel) rfl)
theorem Mo_day_ds : yX9_day.cls ≠ "java/lang/invoke/MethodHandle" ∧ yX9_day.cls ≠ "java/lang/invoke/VarHandle" ∧ (parseMethodDescriptor yX9_day.desc).map (fun d => d.parameters.length) = some 0 := by decide +kernel
def Mo_day_vc : Prop := ∀ (k : Nat) (σ : Hp), ax_H σ → Mo_day_pre k σ →
  (0 ≤ (14 : Int) ∧ (14 : Int) < 16) ∧
  (¬ σ (k + 23) 14 = 999 →
    Mo_act_pre k σ ∧
    ∀ σ1 : Hp, Mo_act_post k σ σ1 →
    Mo_goNewsDay_pre k σ1 ∧
    ∀ σ2 : Hp, Mo_goNewsDay_post k σ1 σ2 →
    Mo_keepAir_pre k σ2 ∧
    ∀ σ3 : Hp, Mo_keepAir_post k σ2 σ3 →
    (0 ≤ (12 : Int) ∧ (12 : Int) < 16) ∧
    Mo_day_post k σ (σ3 (k + 23) 12) σ3) ∧
  (¬ (¬ σ (k + 23) 14 = 999) →
    Mo_day_post k σ (-2) σ)
theorem kA_scm : ∀ c ∈ 90 :: af, c = 90 ∨ scm c := by
  intro c hc
  rcases List.mem_cons.mp hc with z | z
  · exact Or.inl z
  · exact Or.inr (scm_af c z)
theorem now_air {σ σ' : Hp} (h : Mo_keepAir_post 67 σ σ') : nowM σ' = airM σ := stR_eq h.2
theorem Mo_day_p : Mo_day_vc := by
  intro k σ hH hp
  obtain ⟨rfl, hP⟩ := hp
  have hN := hP.np
  have hd : (nowM σ).2.2.2.1 ≤ 999 := hN.2.1.2.2.1.2
  have e14 : σ (67 + 23) 14 = (nowM σ).2.2.2.1 := rfl
  rw [e14]
  refine ⟨by decide, fun h => ⟨hP.act, ?_⟩, fun h => ⟨⟨hP.1, fun _ _ => rfl⟩, fun d => ?_⟩⟩
  · intro σ1 ha
    have L := actQ.load hP ha
    have hd1 : σ1 91 14 < 100000 := by
      have : σ1 91 14 = (nowM σ).2.2.2.1 := ha.2.2.2.2.2 14 (by decide)
      omega
    refine ⟨⟨rfl, L.1, hd1⟩, ?_⟩
    rintro σ2 ⟨g1, g2, g3⟩
    refine ⟨rfl, fun σ3 g => ⟨by decide, ?_⟩⟩
    have hn := now_air g
    have P := actQ.pic hP.1 ha (σ' := σ3) (cs := 90 :: af) ((g1.mono (fun c hc => List.mem_cons_of_mem _ hc)).tr (g.1.mono (by simp))) kA_scm
    refine ⟨P.1, fun d => ?_⟩
    have e : nowM σ3 = stp (famM d σ) (-1) (nowM σ) := by rw [hn, g2 d, L.2.1 d, L.2.2]
    unfold s_day
    rw [if_neg (show ¬ 999 ≤ (aS (mA d σ)).2.2.2.1 from (by show ¬ 999 ≤ (nowM σ).2.2.2.1; omega)), P.2 d]
    refine ⟨?_, by rw [e]; rfl⟩
    show (nowM σ3).2.2.1 = _
    rw [e]; rfl
  · unfold s_day
    rw [if_pos (show 999 ≤ (aS (mA d σ)).2.2.2.1 from (by show 999 ≤ (nowM σ).2.2.2.1; omega))]
    exact ⟨rfl, rfl⟩
def Mo_day_I : List AV → Hp → Nat → Nat → List AV → List AV → Hp → Prop := fun as σ0 pc n st ls σ => (match as with
    | [.inr (.inr (.inl (k, 0, 9)))] => False
    | _ => False)
def Mo_day_ct : Nat → Ct := fun n => match n with
  | 0 => Mo_act_cs
  | 1 => Mo_goNewsDay_cs
  | 2 => Mo_keepAir_cs
  | _ => Mo_day_cs
set_option maxRecDepth 20000 in
set_option maxHeartbeats 4000000 in
theorem Mo_day_met {l : Launch} {D : va_G} {ad : Nat → Nat} {ca : Nat → ClassId} {L : Nat} {fx : Nat → Int} : ax_MC l D ad ca L fx yX9_day cX9_day 1 (some .int) 8 Mo_day_cs := by
  refine ax_met (oc := 9) (ct := Mo_day_ct) (calls := Mo_day_cl) (bs := Mo_day_bk) (cut := fun pc => false) (f := 3) (I := Mo_day_I) (by decide) rfl rfl Mo_day_ck (List.forall_mem_cons.mpr ⟨ax_cwV Mo_act_met (by decide) (by decide) rfl (by decide) rfl (ax_m7 102 (by decide +kernel) rfl) Mo_act_w rfl Mo_act_ds, List.forall_mem_cons.mpr ⟨ax_cwV Mo_goNewsDay_met (by decide) (by decide) rfl (by decide) rfl (ax_m7 106 (by decide +kernel) rfl) Mo_goNewsDay_w rfl Mo_goNewsDay_ds, List.forall_mem_cons.mpr ⟨ax_cwV Mo_keepAir_met (by decide) (by decide) rfl (by decide) rfl (ax_m7 67 (by decide +kernel) rfl) Mo_keepAir_w rfl Mo_keepAir_ds, fun _ h => absurd h List.not_mem_nil⟩⟩⟩) ?_ ?_
  · intro as σ0 hp hH
    match as, hp with
    | [.inr (.inr (.inl (k, 0, 9)))], hp => exact ⟨rfl, Mo_day_p k σ0 hH hp⟩
  · intro as σ0 hp n pc st ls σ hH hI
    match as, hp, hI with
    | [.inr (.inr (.inl (k, 0, 9)))], hp, hI => exact False.elim hI
def Mo_careBy_pre (k : Nat) (a b : Int) (σ : Hp) : Prop := k = 67 ∧ MP σ ∧ (0 ≤ a ∧ a < (((σ 67 42).toNat : Nat) : Int)) ∧ -9 ≤ b ∧ b ≤ 9
def Mo_careBy_post (_k : Nat) (a b : Int) (σ : Hp) (r : Int) (σ' : Hp) : Prop := MQo σ σ' ∧ ∀ d, r = (chg (nowM σ) a.toNat b).1 a.toNat ∧ mA d σ' = act (mA d σ) (chg (nowM σ) a.toNat b)
def Mo_careBy_bk : List (Nat × List Item) := [(0, [(.aload_n 0, 1, [], []), (.invokevirtual 407, 3, [0], []), (.aload_n 0, 1, [], []), (.getfield 85, 3, [9, 46, 4, 23, 1, 16], []), (.iload_n 1, 1, [], []), (.aload_n 0, 1, [], []), (.getfield 85, 3, [9, 46, 4, 23, 1, 16], []), (.iload_n 1, 1, [], []), (.iaload, 1, [], []), (.iload_n 2, 1, [], []), (.iadd, 1, [], []), (.bipush 99, 2, [], []), (.invokestatic 386, 3, [1], []), (.iastore, 1, [], []), (.aload_n 0, 1, [], []), (.getfield 85, 3, [9, 46, 4, 23, 1, 16], []), (.iload_n 1, 1, [], []), (.iaload, 1, [], []), (.ireturn, 1, [], [])])]
def Mo_careBy_cl : List (Instr × Nat) := [(.invokevirtual 407, 0), (.invokestatic 386, 1)]
set_option maxRecDepth 20000 in
theorem Mo_careBy_ck : Mo_careBy_bk.all (fun b => ax_chB 9 3 cX9_careBy Mo_careBy_cl b.1 b.2) = true := by decide +kernel
def Mo_careBy_cs : Ct := (3, 10, 1, (0, 0), fun as σ => (match as with
    | [.inr (.inr (.inl (k, 0, 9))), .inl a1, .inl a2] => Mo_careBy_pre k a1 a2 σ
    | _ => False), fun as σ r σ' => (match as with
    | [.inr (.inr (.inl (k, 0, 9))), .inl a1, .inl a2] => Mo_careBy_post k a1 a2 σ r σ'
    | _ => False))
theorem Mo_careBy_w : ∀ w ∈ ([.instanceMethod yX9_careBy, .selects yX9_careBy.cls yX9_careBy yX9_careBy, .initialized yX9_careBy.cls, .code yX9_careBy cX9_careBy 3 (some .int)] : List Cond), w ∈ ax_tb := ax_w4 (ax_m7 124 (by decide +kernel) rfl) (ax_m0 47 (by decide +kernel) rfl) (ax_m1 10 (by decide +kernel) rfl) (ax_m7 125 (by decide +kernel) rfl)
theorem Mo_careBy_ds : yX9_careBy.cls ≠ "java/lang/invoke/MethodHandle" ∧ yX9_careBy.cls ≠ "java/lang/invoke/VarHandle" ∧ (parseMethodDescriptor yX9_careBy.desc).map (fun d => d.parameters.length) = some 2 := by decide +kernel
def Mo_careBy_vc : Prop := ∀ (k : Nat) (a1 : Int) (a2 : Int) (σ : Hp), ax_H σ → Mo_careBy_pre k a1 a2 σ →
  Mo_act_pre k σ ∧
  ∀ σ1 : Hp, Mo_act_post k σ σ1 →
  (0 ≤ a1 ∧ a1 < 16) ∧
  Mo_within_pre (wr ((σ1 (k + 23) a1.toNat) + a2)) 99 σ1 ∧
  ∀ (r3 : Int) (σ2 : Hp), Mo_within_post (wr ((σ1 (k + 23) a1.toNat) + a2)) 99 σ1 r3 σ2 →
  (0 ≤ a1 ∧ a1 < 16) ∧
  ∀ σ4 : Hp, σ4 = hp σ2 (k + 23) a1.toNat r3 →
  (0 ≤ a1 ∧ a1 < 16) ∧
  Mo_careBy_post k a1 a2 σ (σ4 (k + 23) a1.toNat) σ4
theorem Mo_careBy_p : Mo_careBy_vc := by
  intro k a b σ hH hp0
  obtain ⟨rfl, hP, ha, hb⟩ := hp0
  have hn := hP.n6
  have hN := hP.np
  refine ⟨hP.act, fun σ1 hac => ⟨⟨ha.1, by omega⟩, by show (0 : Int) ≤ 99; decide, ?_⟩⟩
  rintro r3 σ2 ⟨rfl, rfl⟩
  have e0 : σ2 (67 + 23) a.toNat = (nowM σ).1 a.toNat := by
    rw [now_c (by omega)]
    exact congrFun (hac.1 90 (by simp)) a.toNat
  have hcR := hN.2.1.1 a.toNat
  rw [e0, wr_id (by omega) (by omega)]
  refine ⟨⟨ha.1, by omega⟩, fun σ4 hs => ⟨⟨ha.1, by omega⟩, ?_⟩⟩
  have f4 : Fr [90] σ2 σ4 := by rw [hs]; exact Fr.hp Fr.rf (by simp)
  have P := actQ.pic hP.1 hac f4 (by simp)
  have en : nowM σ4 = chg (nowM σ) a.toNat b := by
    have := stR_c (f := σ 90) (g := σ4 90) (b := a.toNat) (v := wth ((nowM σ).1 a.toNat + b) 99) (by omega) (fun j => by
      rw [hs]
      show hp σ2 90 a.toNat _ 90 j = _
      by_cases e : j = a.toNat
      · rw [e, hp_r1, if_pos rfl]
      · rw [hp_r2 (fun z => e z.2), if_neg e, hac.1 90 (by simp)])
    exact this
  refine ⟨P.1, fun d => ⟨?_, by rw [P.2 d, en]⟩⟩
  rw [← en, now_c (by omega)]
def Mo_careBy_I : List AV → Hp → Nat → Nat → List AV → List AV → Hp → Prop := fun as σ0 pc n st ls σ => (match as with
    | [.inr (.inr (.inl (k, 0, 9))), .inl a1, .inl a2] => False
    | _ => False)
def Mo_careBy_ct : Nat → Ct := fun n => match n with
  | 0 => Mo_act_cs
  | 1 => Mo_within_cs
  | _ => Mo_careBy_cs
set_option maxRecDepth 20000 in
set_option maxHeartbeats 4000000 in
theorem Mo_careBy_met {l : Launch} {D : va_G} {ad : Nat → Nat} {ca : Nat → ClassId} {L : Nat} {fx : Nat → Int} : ax_MC l D ad ca L fx yX9_careBy cX9_careBy 3 (some .int) 3 Mo_careBy_cs := by
  refine ax_met (oc := 9) (ct := Mo_careBy_ct) (calls := Mo_careBy_cl) (bs := Mo_careBy_bk) (cut := fun pc => false) (f := 2) (I := Mo_careBy_I) (by decide) rfl rfl Mo_careBy_ck (List.forall_mem_cons.mpr ⟨ax_cwV Mo_act_met (by decide) (by decide) rfl (by decide) rfl (ax_m7 102 (by decide +kernel) rfl) Mo_act_w rfl Mo_act_ds, List.forall_mem_cons.mpr ⟨ax_cwS Mo_within_met (by decide) (by decide) (ax_m7 64 (by decide +kernel) rfl) Mo_within_w rfl Mo_within_ds, fun _ h => absurd h List.not_mem_nil⟩⟩) ?_ ?_
  · intro as σ0 hp hH
    match as, hp with
    | [.inr (.inr (.inl (k, 0, 9))), .inl a1, .inl a2], hp => exact ⟨rfl, Mo_careBy_p k a1 a2 σ0 hH hp⟩
  · intro as σ0 hp n pc st ls σ hH hI
    match as, hp, hI with
    | [.inr (.inr (.inl (k, 0, 9))), .inl a1, .inl a2], hp, hI => exact False.elim hI
def Mo_ease_pre (k : Nat) (_a _b : Int) (σ : Hp) : Prop := k = 67 ∧ MP σ
def Mo_ease_post (_k : Nat) (a b : Int) (σ : Hp) (r : Int) (σ' : Hp) : Prop := MQo σ σ' ∧ ∀ d, s_ease (mA d σ) a b r (mA d σ')
def Mo_ease_bk : List (Nat × List Item) := [(0, [(.aload_n 0, 1, [], []), (.iload_n 1, 1, [], []), (.invokevirtual 398, 3, [0], []), (.ifCond .eq 23, 3, [28], []), (.iload_n 2, 1, [], []), (.iconst 1, 1, [], []), (.bipush 9, 2, [], []), (.invokestatic 379, 3, [1], []), (.ifCond .eq 13, 3, [28], []), (.aload_n 0, 1, [], []), (.iload_n 1, 1, [], []), (.iload_n 2, 1, [], []), (.ineg, 1, [], []), (.invokevirtual 413, 3, [2], []), (.goto 4, 3, [29], [])]),
  (28, [(.iconst (-1), 1, [], [])]),
  (29, [(.ireturn, 1, [], [])])]
def Mo_ease_cl : List (Instr × Nat) := [(.invokevirtual 398, 0), (.invokestatic 379, 1), (.invokevirtual 413, 2)]
set_option maxRecDepth 20000 in
theorem Mo_ease_ck : Mo_ease_bk.all (fun b => ax_chB 9 3 cX9_ease Mo_ease_cl b.1 b.2) = true := by decide +kernel
def Mo_ease_cs : Ct := (3, 10, 1, (0, 0), fun as σ => (match as with
    | [.inr (.inr (.inl (k, 0, 9))), .inl a1, .inl a2] => Mo_ease_pre k a1 a2 σ
    | _ => False), fun as σ r σ' => (match as with
    | [.inr (.inr (.inl (k, 0, 9))), .inl a1, .inl a2] => Mo_ease_post k a1 a2 σ r σ'
    | _ => False))
theorem Mo_ease_w : ∀ w ∈ ([.instanceMethod yX9_ease, .selects yX9_ease.cls yX9_ease yX9_ease, .initialized yX9_ease.cls, .code yX9_ease cX9_ease 3 (some .int)] : List Cond), w ∈ ax_tb := ax_w4 (ax_m7 119 (by decide +kernel) rfl) (ax_m7 120 (by decide +kernel) rfl) (ax_m1 10 (by decide +kernel) rfl) (ax_m7 121 (by decide +kernel) rfl)
theorem Mo_ease_ds : yX9_ease.cls ≠ "java/lang/invoke/MethodHandle" ∧ yX9_ease.cls ≠ "java/lang/invoke/VarHandle" ∧ (parseMethodDescriptor yX9_ease.desc).map (fun d => d.parameters.length) = some 2 := by decide +kernel
def Mo_ease_vc : Prop := ∀ (k : Nat) (a1 : Int) (a2 : Int) (σ : Hp), ax_H σ → Mo_ease_pre k a1 a2 σ →
  Mo_isPerson_pre k a1 σ ∧
  ∀ (r2 : Int) (σ1 : Hp), Mo_isPerson_post k a1 σ r2 σ1 →
  (r2 = 0 →
    Mo_ease_post k a1 a2 σ (-1) σ1) ∧
  (¬ (r2 = 0) →
    Mo_isIn_pre a2 1 9 σ1 ∧
    ∀ (r4 : Int) (σ3 : Hp), Mo_isIn_post a2 1 9 σ1 r4 σ3 →
    (r4 = 0 →
      Mo_ease_post k a1 a2 σ (-1) σ3) ∧
    (¬ (r4 = 0) →
      Mo_careBy_pre k a1 (wr (-a2)) σ3 ∧
      ∀ (r6 : Int) (σ5 : Hp), Mo_careBy_post k a1 (wr (-a2)) σ3 r6 σ5 →
      Mo_ease_post k a1 a2 σ r6 σ5))
theorem Mo_ease_p : Mo_ease_vc := by
  intro k a b σ hH hp
  obtain ⟨rfl, hP⟩ := hp
  refine ⟨⟨rfl, hP.n6⟩, ?_⟩
  rintro r2 σ1 ⟨rfl, rfl⟩
  refine ⟨fun h => ⟨⟨hP.1, fun _ _ => rfl⟩, fun d => ?_⟩, fun h => ⟨trivial, ?_⟩⟩
  · unfold s_ease s_chg; rw [if_neg (fun z => ite0 h z.1)]; exact ⟨rfl, rfl⟩
  rintro r4 σ3 ⟨rfl, rfl⟩
  refine ⟨fun h2 => ⟨⟨hP.1, fun _ _ => rfl⟩, fun d => ?_⟩, fun h2 => ?_⟩
  · unfold s_ease s_chg; rw [if_neg (fun z => ite0 h2 z.2)]; exact ⟨rfl, rfl⟩
  have h1 := ite1 h
  have h2' := ite1 h2
  rw [wr_id (by omega) (by omega)]
  refine ⟨⟨rfl, hP, h1, by omega, by omega⟩, ?_⟩
  rintro r6 σ5 ⟨g1, g2⟩
  refine ⟨g1, fun d => ?_⟩
  unfold s_ease s_chg
  rw [if_pos ⟨h1, h2'⟩]
  exact g2 d
def Mo_ease_I : List AV → Hp → Nat → Nat → List AV → List AV → Hp → Prop := fun as σ0 pc n st ls σ => (match as with
    | [.inr (.inr (.inl (k, 0, 9))), .inl a1, .inl a2] => False
    | _ => False)
def Mo_ease_ct : Nat → Ct := fun n => match n with
  | 0 => Mo_isPerson_cs
  | 1 => Mo_isIn_cs
  | 2 => Mo_careBy_cs
  | _ => Mo_ease_cs
set_option maxRecDepth 20000 in
set_option maxHeartbeats 4000000 in
theorem Mo_ease_met {l : Launch} {D : va_G} {ad : Nat → Nat} {ca : Nat → ClassId} {L : Nat} {fx : Nat → Int} : ax_MC l D ad ca L fx yX9_ease cX9_ease 3 (some .int) 4 Mo_ease_cs := by
  refine ax_met (oc := 9) (ct := Mo_ease_ct) (calls := Mo_ease_cl) (bs := Mo_ease_bk) (cut := fun pc => false) (f := 4) (I := Mo_ease_I) (by decide) rfl rfl Mo_ease_ck (List.forall_mem_cons.mpr ⟨ax_cwV Mo_isPerson_met (by decide) (by decide) rfl (by decide) rfl (ax_m7 79 (by decide +kernel) rfl) Mo_isPerson_w rfl Mo_isPerson_ds, List.forall_mem_cons.mpr ⟨ax_cwS Mo_isIn_met (by decide) (by decide) (ax_m7 83 (by decide +kernel) rfl) Mo_isIn_w rfl Mo_isIn_ds, List.forall_mem_cons.mpr ⟨ax_cwV Mo_careBy_met (by decide) (by decide) rfl (by decide) rfl (ax_m7 122 (by decide +kernel) rfl) Mo_careBy_w rfl Mo_careBy_ds, fun _ h => absurd h List.not_mem_nil⟩⟩⟩) ?_ ?_
  · intro as σ0 hp hH
    match as, hp with
    | [.inr (.inr (.inl (k, 0, 9))), .inl a1, .inl a2], hp => exact ⟨rfl, Mo_ease_p k a1 a2 σ0 hH hp⟩
  · intro as σ0 hp n pc st ls σ hH hI
    match as, hp, hI with
    | [.inr (.inr (.inl (k, 0, 9))), .inl a1, .inl a2], hp, hI => exact False.elim hI
def Mo_take_pre (k : Nat) (_a _b : Int) (σ : Hp) : Prop := k = 67 ∧ MP σ
def Mo_take_post (_k : Nat) (a b : Int) (σ : Hp) (r : Int) (σ' : Hp) : Prop := MQo σ σ' ∧ ∀ d, s_take (mA d σ) a b r (mA d σ')
def Mo_take_bk : List (Nat × List Item) := [(0, [(.aload_n 0, 1, [], []), (.iload_n 1, 1, [], []), (.invokevirtual 398, 3, [0], []), (.ifCond .eq 22, 3, [27], []), (.iload_n 2, 1, [], []), (.iconst 1, 1, [], []), (.bipush 9, 2, [], []), (.invokestatic 379, 3, [1], []), (.ifCond .eq 12, 3, [27], []), (.aload_n 0, 1, [], []), (.iload_n 1, 1, [], []), (.iload_n 2, 1, [], []), (.invokevirtual 413, 3, [2], []), (.goto 4, 3, [28], [])]),
  (27, [(.iconst (-1), 1, [], [])]),
  (28, [(.ireturn, 1, [], [])])]
def Mo_take_cl : List (Instr × Nat) := [(.invokevirtual 398, 0), (.invokestatic 379, 1), (.invokevirtual 413, 2)]
set_option maxRecDepth 20000 in
theorem Mo_take_ck : Mo_take_bk.all (fun b => ax_chB 9 3 cX9_take Mo_take_cl b.1 b.2) = true := by decide +kernel
def Mo_take_cs : Ct := (3, 10, 1, (0, 0), fun as σ => (match as with
    | [.inr (.inr (.inl (k, 0, 9))), .inl a1, .inl a2] => Mo_take_pre k a1 a2 σ
    | _ => False), fun as σ r σ' => (match as with
    | [.inr (.inr (.inl (k, 0, 9))), .inl a1, .inl a2] => Mo_take_post k a1 a2 σ r σ'
    | _ => False))
theorem Mo_take_w : ∀ w ∈ ([.instanceMethod yX9_take, .selects yX9_take.cls yX9_take yX9_take, .initialized yX9_take.cls, .code yX9_take cX9_take 3 (some .int)] : List Cond), w ∈ ax_tb := ax_w4 (ax_m7 127 (by decide +kernel) rfl) (ax_m7 128 (by decide +kernel) rfl) (ax_m1 10 (by decide +kernel) rfl) (ax_m7 129 (by decide +kernel) rfl)
theorem Mo_take_ds : yX9_take.cls ≠ "java/lang/invoke/MethodHandle" ∧ yX9_take.cls ≠ "java/lang/invoke/VarHandle" ∧ (parseMethodDescriptor yX9_take.desc).map (fun d => d.parameters.length) = some 2 := by decide +kernel
def Mo_take_vc : Prop := ∀ (k : Nat) (a1 : Int) (a2 : Int) (σ : Hp), ax_H σ → Mo_take_pre k a1 a2 σ →
  Mo_isPerson_pre k a1 σ ∧
  ∀ (r2 : Int) (σ1 : Hp), Mo_isPerson_post k a1 σ r2 σ1 →
  (r2 = 0 →
    Mo_take_post k a1 a2 σ (-1) σ1) ∧
  (¬ (r2 = 0) →
    Mo_isIn_pre a2 1 9 σ1 ∧
    ∀ (r4 : Int) (σ3 : Hp), Mo_isIn_post a2 1 9 σ1 r4 σ3 →
    (r4 = 0 →
      Mo_take_post k a1 a2 σ (-1) σ3) ∧
    (¬ (r4 = 0) →
      Mo_careBy_pre k a1 a2 σ3 ∧
      ∀ (r6 : Int) (σ5 : Hp), Mo_careBy_post k a1 a2 σ3 r6 σ5 →
      Mo_take_post k a1 a2 σ r6 σ5))
theorem Mo_take_p : Mo_take_vc := by
  intro k a b σ hH hp
  obtain ⟨rfl, hP⟩ := hp
  refine ⟨⟨rfl, hP.n6⟩, ?_⟩
  rintro r2 σ1 ⟨rfl, rfl⟩
  refine ⟨fun h => ⟨⟨hP.1, fun _ _ => rfl⟩, fun d => ?_⟩, fun h => ⟨trivial, ?_⟩⟩
  · unfold s_take s_chg; rw [if_neg (fun z => ite0 h z.1)]; exact ⟨rfl, rfl⟩
  rintro r4 σ3 ⟨rfl, rfl⟩
  refine ⟨fun h2 => ⟨⟨hP.1, fun _ _ => rfl⟩, fun d => ?_⟩, fun h2 => ?_⟩
  · unfold s_take s_chg; rw [if_neg (fun z => ite0 h2 z.2)]; exact ⟨rfl, rfl⟩
  have h1 := ite1 h
  have h2' := ite1 h2
  refine ⟨⟨rfl, hP, h1, by omega, by omega⟩, ?_⟩
  rintro r6 σ5 ⟨g1, g2⟩
  refine ⟨g1, fun d => ?_⟩
  unfold s_take s_chg
  rw [if_pos ⟨h1, h2'⟩]
  exact g2 d
def Mo_take_I : List AV → Hp → Nat → Nat → List AV → List AV → Hp → Prop := fun as σ0 pc n st ls σ => (match as with
    | [.inr (.inr (.inl (k, 0, 9))), .inl a1, .inl a2] => False
    | _ => False)
def Mo_take_ct : Nat → Ct := fun n => match n with
  | 0 => Mo_isPerson_cs
  | 1 => Mo_isIn_cs
  | 2 => Mo_careBy_cs
  | _ => Mo_take_cs
set_option maxRecDepth 20000 in
set_option maxHeartbeats 4000000 in
theorem Mo_take_met {l : Launch} {D : va_G} {ad : Nat → Nat} {ca : Nat → ClassId} {L : Nat} {fx : Nat → Int} : ax_MC l D ad ca L fx yX9_take cX9_take 3 (some .int) 4 Mo_take_cs := by
  refine ax_met (oc := 9) (ct := Mo_take_ct) (calls := Mo_take_cl) (bs := Mo_take_bk) (cut := fun pc => false) (f := 4) (I := Mo_take_I) (by decide) rfl rfl Mo_take_ck (List.forall_mem_cons.mpr ⟨ax_cwV Mo_isPerson_met (by decide) (by decide) rfl (by decide) rfl (ax_m7 79 (by decide +kernel) rfl) Mo_isPerson_w rfl Mo_isPerson_ds, List.forall_mem_cons.mpr ⟨ax_cwS Mo_isIn_met (by decide) (by decide) (ax_m7 83 (by decide +kernel) rfl) Mo_isIn_w rfl Mo_isIn_ds, List.forall_mem_cons.mpr ⟨ax_cwV Mo_careBy_met (by decide) (by decide) rfl (by decide) rfl (ax_m7 122 (by decide +kernel) rfl) Mo_careBy_w rfl Mo_careBy_ds, fun _ h => absurd h List.not_mem_nil⟩⟩⟩) ?_ ?_
  · intro as σ0 hp hH
    match as, hp with
    | [.inr (.inr (.inl (k, 0, 9))), .inl a1, .inl a2], hp => exact ⟨rfl, Mo_take_p k a1 a2 σ0 hH hp⟩
  · intro as σ0 hp n pc st ls σ hH hI
    match as, hp, hI with
    | [.inr (.inr (.inl (k, 0, 9))), .inl a1, .inl a2], hp, hI => exact False.elim hI
def Mo_turnKnows_pre (k : Nat) (a b : Int) (σ : Hp) : Prop := k = 67 ∧ MP σ ∧ twoM σ a b
def xrn (σ : Hp) (a b : Nat) : Sta := wkn (nowM σ) a ((((nowM σ).2.1 a).toNat ^^^ 2 ^ b : Nat) : Int)
def Mo_turnKnows_post (_k : Nat) (a b : Int) (σ : Hp) (r : Int) (σ' : Hp) : Prop := MQo σ σ' ∧ ∀ d, r = wry (famM d σ) (xrn σ a.toNat b.toNat) a.toNat ∧ mA d σ' = act (mA d σ) (xrn σ a.toNat b.toNat)
def Mo_turnKnows_bk : List (Nat × List Item) := [(0, [(.aload_n 0, 1, [], []), (.invokevirtual 407, 3, [0], []), (.aload_n 0, 1, [], []), (.getfield 88, 3, [9, 47, 4, 24, 1, 16], []), (.bipush 6, 2, [], []), (.iload_n 1, 1, [], []), (.iadd, 1, [], []), (.dup2, 1, [], []), (.iaload, 1, [], []), (.iconst 1, 1, [], []), (.iload_n 2, 1, [], []), (.ishl, 1, [], []), (.ixor, 1, [], []), (.iastore, 1, [], []), (.aload_n 0, 1, [], []), (.invokevirtual 364, 3, [1], []), (.aload_n 0, 1, [], []), (.iload_n 1, 1, [], []), (.invokevirtual 389, 3, [2], []), (.ireturn, 1, [], [])])]
def Mo_turnKnows_cl : List (Instr × Nat) := [(.invokevirtual 407, 0), (.invokevirtual 364, 1), (.invokevirtual 389, 2)]
set_option maxRecDepth 20000 in
theorem Mo_turnKnows_ck : Mo_turnKnows_bk.all (fun b => ax_chB 9 3 cX9_turnKnows Mo_turnKnows_cl b.1 b.2) = true := by decide +kernel
def Mo_turnKnows_cs : Ct := (3, 10, 1, (0, 0), fun as σ => (match as with
    | [.inr (.inr (.inl (k, 0, 9))), .inl a1, .inl a2] => Mo_turnKnows_pre k a1 a2 σ
    | _ => False), fun as σ r σ' => (match as with
    | [.inr (.inr (.inl (k, 0, 9))), .inl a1, .inl a2] => Mo_turnKnows_post k a1 a2 σ r σ'
    | _ => False))
theorem Mo_turnKnows_w : ∀ w ∈ ([.instanceMethod yX9_turnKnows, .selects yX9_turnKnows.cls yX9_turnKnows yX9_turnKnows, .initialized yX9_turnKnows.cls, .code yX9_turnKnows cX9_turnKnows 3 (some .int)] : List Cond), w ∈ ax_tb := ax_w4 (ax_m7 151 (by decide +kernel) rfl) (ax_m0 51 (by decide +kernel) rfl) (ax_m1 10 (by decide +kernel) rfl) (ax_m7 152 (by decide +kernel) rfl)
theorem Mo_turnKnows_ds : yX9_turnKnows.cls ≠ "java/lang/invoke/MethodHandle" ∧ yX9_turnKnows.cls ≠ "java/lang/invoke/VarHandle" ∧ (parseMethodDescriptor yX9_turnKnows.desc).map (fun d => d.parameters.length) = some 2 := by decide +kernel
def Mo_turnKnows_vc : Prop := ∀ (k : Nat) (a1 : Int) (a2 : Int) (σ : Hp), ax_H σ → Mo_turnKnows_pre k a1 a2 σ →
  Mo_act_pre k σ ∧
  ∀ σ1 : Hp, Mo_act_post k σ σ1 →
  (0 ≤ wr (6 + a1) ∧ wr (6 + a1) < 16) ∧
  (0 ≤ wr (6 + a1) ∧ wr (6 + a1) < 16) ∧
  ∀ σ2 : Hp, σ2 = hp σ1 (k + 24) (wr (6 + a1)).toNat (iXor (σ1 (k + 24) (wr (6 + a1)).toNat) (iShl 1 a2)) →
  Mo_keepAir_pre k σ2 ∧
  ∀ σ3 : Hp, Mo_keepAir_post k σ2 σ3 →
  Mo_worryOf_pre k a1 σ3 ∧
  ∀ (r5 : Int) (σ4 : Hp), Mo_worryOf_post k a1 σ3 r5 σ4 →
  Mo_turnKnows_post k a1 a2 σ r5 σ4
theorem Mo_turnKnows_p : Mo_turnKnows_vc := by
  intro k a b σ hH hp0
  obtain ⟨rfl, hP, hab⟩ := hp0
  have hn := hP.n6
  have hN := hP.np
  obtain ⟨⟨ha, hb⟩, hne⟩ := hab
  refine ⟨hP.act, fun σ1 hac => ?_⟩
  have L := actQ.load hP hac
  have hkR := hN.2.1.2.1 a.toNat
  have h26 : 2 ^ b.toNat < 2 ^ 6 := Nat.pow_lt_pow_right (by decide) (by omega)
  have ek : σ1 (67 + 24) (6 + a.toNat) = (nowM σ).2.1 a.toNat := by rw [← L.2.2]; exact (air_k (by omega)).symm
  have hor : ((nowM σ).2.1 a.toNat).toNat ^^^ 2 ^ b.toNat < 2 ^ 6 := Nat.xor_lt_two_pow (by omega) h26
  have ev : iXor ((nowM σ).2.1 a.toNat) (iShl 1 b) = ((((nowM σ).2.1 a.toNat).toNat ^^^ 2 ^ b.toNat : Nat) : Int) := by
    rw [shl_1 hb.1 (by omega)]
    have hz : (nowM σ).2.1 a.toNat = ((((nowM σ).2.1 a.toNat).toNat : Nat) : Int) := by omega
    rw [hz, Int.toNat_natCast, iXor_n (by omega) (by omega)]
  rw [wr_id (x := 6 + a) (by omega) (by omega), show ((6 : Int) + a).toNat = 6 + a.toNat by omega, ek, ev]
  refine ⟨⟨by omega, by omega⟩, ⟨by omega, by omega⟩, ?_⟩
  intro σ2 hs
  have e42 : σ1 67 42 = σ 67 42 := hac.2.1 42 (by decide) (by decide)
  have W := L.1.wk (b := a.toNat) (v := ((((nowM σ).2.1 a.toNat).toNat ^^^ 2 ^ b.toNat : Nat) : Int)) (by omega) ⟨by omega, by omega⟩ (fun o ho => by
    rw [e42]
    rw [bt_n, Nat.testBit_xor] at ho
    by_cases z : ((nowM σ).2.1 a.toNat).toNat.testBit o = true
    · exact hN.2.2.2.1 a.toNat o z
    · rw [Bool.not_eq_true] at z
      rw [z, Bool.false_xor, Nat.testBit_two_pow] at ho
      have : b.toNat = o := of_decide_eq_true ho
      exact ⟨by omega, by omega, by omega⟩)
  rw [show hp σ1 91 (6 + a.toNat) ((((nowM σ).2.1 a.toNat).toNat ^^^ 2 ^ b.toNat : Nat) : Int) = σ2 from hs.symm] at W
  have ea : airM σ2 = xrn σ a.toNat b.toNat := by
    rw [hs]
    exact (air_wk (by omega)).trans (by rw [L.2.2]; rfl)
  refine ⟨rfl, fun σ3 g => ?_⟩
  have K3 := W.1.fr g.1 (by simp)
  have e67 : σ3 67 42 = σ 67 42 := by rw [g.1 67 (by decide), hs]; exact e42
  refine ⟨⟨rfl, ha.1, by rw [e67]; exact ha.2, K3.1⟩, ?_⟩
  rintro r5 σ4 ⟨g1, g2⟩
  have f4 : Fr (90 :: af) σ1 σ4 := by
    have f2 : Fr (90 :: af) σ1 σ2 := by rw [hs]; exact Fr.hp Fr.rf (by simp [af])
    exact (f2.tr (g.1.mono (by simp))).tr (g1.mono (by simp [af]))
  have P := actQ.pic hP.1 hac f4 kA_scm
  have en : nowM σ4 = xrn σ a.toNat b.toNat := by
    rw [show nowM σ4 = nowM σ3 from (by show stR (σ4 90) 0 = _; rw [g1 90 (by decide)]), now_air g, ea]
  refine ⟨P.1, fun d => ⟨?_, by rw [P.2 d, en]⟩⟩
  rw [g2 d, K3.2.1 d, W.2 d, L.2.1 d, K3.2.2, ea]
def Mo_turnKnows_I : List AV → Hp → Nat → Nat → List AV → List AV → Hp → Prop := fun as σ0 pc n st ls σ => (match as with
    | [.inr (.inr (.inl (k, 0, 9))), .inl a1, .inl a2] => False
    | _ => False)
def Mo_turnKnows_ct : Nat → Ct := fun n => match n with
  | 0 => Mo_act_cs
  | 1 => Mo_keepAir_cs
  | 2 => Mo_worryOf_cs
  | _ => Mo_turnKnows_cs
set_option maxRecDepth 20000 in
set_option maxHeartbeats 4000000 in
theorem Mo_turnKnows_met {l : Launch} {D : va_G} {ad : Nat → Nat} {ca : Nat → ClassId} {L : Nat} {fx : Nat → Int} : ax_MC l D ad ca L fx yX9_turnKnows cX9_turnKnows 3 (some .int) 5 Mo_turnKnows_cs := by
  refine ax_met (oc := 9) (ct := Mo_turnKnows_ct) (calls := Mo_turnKnows_cl) (bs := Mo_turnKnows_bk) (cut := fun pc => false) (f := 2) (I := Mo_turnKnows_I) (by decide) rfl rfl Mo_turnKnows_ck (List.forall_mem_cons.mpr ⟨ax_cwV Mo_act_met (by decide) (by decide) rfl (by decide) rfl (ax_m7 102 (by decide +kernel) rfl) Mo_act_w rfl Mo_act_ds, List.forall_mem_cons.mpr ⟨ax_cwV Mo_keepAir_met (by decide) (by decide) rfl (by decide) rfl (ax_m7 67 (by decide +kernel) rfl) Mo_keepAir_w rfl Mo_keepAir_ds, List.forall_mem_cons.mpr ⟨ax_cwV Mo_worryOf_met (by decide) (by decide) rfl (by decide) rfl (ax_m7 46 (by decide +kernel) rfl) Mo_worryOf_w rfl Mo_worryOf_ds, fun _ h => absurd h List.not_mem_nil⟩⟩⟩) ?_ ?_
  · intro as σ0 hp hH
    match as, hp with
    | [.inr (.inr (.inl (k, 0, 9))), .inl a1, .inl a2], hp => exact ⟨rfl, Mo_turnKnows_p k a1 a2 σ0 hH hp⟩
  · intro as σ0 hp n pc st ls σ hH hI
    match as, hp, hI with
    | [.inr (.inr (.inl (k, 0, 9))), .inl a1, .inl a2], hp, hI => exact False.elim hI
theorem xor_or {x b : Nat} (h : ¬ x.testBit b = true) : x ^^^ 2 ^ b = x ||| 2 ^ b := by
  apply Nat.eq_of_testBit_eq
  intro j
  rw [Nat.testBit_xor, Nat.testBit_or, Nat.testBit_two_pow]
  by_cases e : b = j
  · subst e
    rw [Bool.not_eq_true] at h
    rw [h]; simp
  · simp [e]
theorem xor_nd {x b : Nat} (h : x.testBit b = true) : x ^^^ 2 ^ b = ndf x (2 ^ b) := by
  apply Nat.eq_of_testBit_eq
  intro j
  rw [Nat.testBit_xor, ndf_t, Nat.testBit_two_pow]
  by_cases e : b = j
  · subst e
    rw [h]; simp
  · simp [e]
def Mo_tell_pre (k : Nat) (_a _b : Int) (σ : Hp) : Prop := k = 67 ∧ MP σ
def Mo_tell_post (_k : Nat) (a b : Int) (σ : Hp) (r : Int) (σ' : Hp) : Prop := MQo σ σ' ∧ ∀ d, s_tell (mA d σ) a b r (mA d σ')
def Mo_tell_bk : List (Nat × List Item) := [(0, [(.aload_n 0, 1, [], []), (.iload_n 1, 1, [], []), (.iload_n 2, 1, [], []), (.invokevirtual 419, 3, [0], []), (.ifCond .eq 30, 3, [36], []), (.aload_n 0, 1, [], []), (.iload_n 1, 1, [], []), (.iload_n 2, 1, [], []), (.invokevirtual 423, 3, [1], []), (.ifCond .ne 21, 3, [36], []), (.aload_n 0, 1, [], []), (.invokevirtual 426, 3, [2], []), (.bipush 12, 2, [], []), (.if_icmp .ge 12, 3, [36], []), (.aload_n 0, 1, [], []), (.iload_n 1, 1, [], []), (.iload_n 2, 1, [], []), (.invokevirtual 429, 3, [3], []), (.goto 4, 3, [37], [])]),
  (36, [(.iconst (-1), 1, [], [])]),
  (37, [(.ireturn, 1, [], [])])]
def Mo_tell_cl : List (Instr × Nat) := [(.invokevirtual 419, 0), (.invokevirtual 423, 1), (.invokevirtual 426, 2), (.invokevirtual 429, 3)]
set_option maxRecDepth 20000 in
theorem Mo_tell_ck : Mo_tell_bk.all (fun b => ax_chB 9 3 cX9_tell Mo_tell_cl b.1 b.2) = true := by decide +kernel
def Mo_tell_cs : Ct := (3, 10, 1, (0, 0), fun as σ => (match as with
    | [.inr (.inr (.inl (k, 0, 9))), .inl a1, .inl a2] => Mo_tell_pre k a1 a2 σ
    | _ => False), fun as σ r σ' => (match as with
    | [.inr (.inr (.inl (k, 0, 9))), .inl a1, .inl a2] => Mo_tell_post k a1 a2 σ r σ'
    | _ => False))
theorem Mo_tell_w : ∀ w ∈ ([.instanceMethod yX9_tell, .selects yX9_tell.cls yX9_tell yX9_tell, .initialized yX9_tell.cls, .code yX9_tell cX9_tell 3 (some .int)] : List Cond), w ∈ ax_tb := ax_w4 (ax_m7 131 (by decide +kernel) rfl) (ax_m7 132 (by decide +kernel) rfl) (ax_m1 10 (by decide +kernel) rfl) (ax_m7 133 (by decide +kernel) rfl)
theorem Mo_tell_ds : yX9_tell.cls ≠ "java/lang/invoke/MethodHandle" ∧ yX9_tell.cls ≠ "java/lang/invoke/VarHandle" ∧ (parseMethodDescriptor yX9_tell.desc).map (fun d => d.parameters.length) = some 2 := by decide +kernel
def Mo_tell_vc : Prop := ∀ (k : Nat) (a1 : Int) (a2 : Int) (σ : Hp), ax_H σ → Mo_tell_pre k a1 a2 σ →
  Mo_areTwo_pre k a1 a2 σ ∧
  ∀ (r2 : Int) (σ1 : Hp), Mo_areTwo_post k a1 a2 σ r2 σ1 →
  (r2 = 0 →
    Mo_tell_post k a1 a2 σ (-1) σ1) ∧
  (¬ (r2 = 0) →
    Mo_isKnown_pre k a1 a2 σ1 ∧
    ∀ (r4 : Int) (σ3 : Hp), Mo_isKnown_post k a1 a2 σ1 r4 σ3 →
    (¬ r4 = 0 →
      Mo_tell_post k a1 a2 σ (-1) σ3) ∧
    (¬ (¬ r4 = 0) →
      Mo_allKnows_pre k σ3 ∧
      ∀ (r6 : Int) (σ5 : Hp), Mo_allKnows_post k σ3 r6 σ5 →
      (12 ≤ r6 →
        Mo_tell_post k a1 a2 σ (-1) σ5) ∧
      (¬ (12 ≤ r6) →
        Mo_turnKnows_pre k a1 a2 σ5 ∧
        ∀ (r8 : Int) (σ7 : Hp), Mo_turnKnows_post k a1 a2 σ5 r8 σ7 →
        Mo_tell_post k a1 a2 σ r8 σ7)))
theorem Mo_tell_p : Mo_tell_vc := by
  intro k a b σ hH hp
  obtain ⟨rfl, hP⟩ := hp
  have hN := hP.np
  have hn := hP.n6
  have no : ∀ (σ1 : Hp), σ1 = σ → (∀ d, ¬ (two (mA d σ) a b ∧ ¬ bt ((aS (mA d σ)).2.1 a.toNat) b.toNat = true ∧ kn (aS (mA d σ)).2.1 6 < 12)) → Mo_tell_post 67 a b σ (-1) σ1 := by
    rintro σ1 rfl h
    refine ⟨⟨hP.1, fun _ _ => rfl⟩, fun d => ?_⟩
    unfold s_tell
    rw [if_neg (h d)]
    exact ⟨rfl, rfl⟩
  refine ⟨⟨rfl, hn⟩, ?_⟩
  rintro r2 σ1 ⟨rfl, hr⟩
  refine ⟨fun h => no σ1 rfl (fun d z => ?_), fun h => ?_⟩
  · rcases hr with ⟨y, -⟩ | ⟨-, y⟩
    · omega
    · exact y z.1
  have h2 : twoM σ1 a b := by
    rcases hr with ⟨-, y⟩ | ⟨y, -⟩
    · exact y
    · exact absurd y h
  have hab := h2
  obtain ⟨⟨ha, hb⟩, hne⟩ := hab
  refine ⟨⟨rfl, ha.1, by omega, hb.1, by omega, hN⟩, ?_⟩
  rintro r4 σ3 ⟨rfl, rfl⟩
  refine ⟨fun h3 => no σ3 rfl (fun d z => z.2.1 (ite1 h3)), fun h3 => ⟨⟨rfl, hN⟩, ?_⟩⟩
  have h3' := ite0' h3
  rintro r6 σ5 ⟨rfl, rfl⟩
  refine ⟨fun h4 => no σ5 rfl (fun d z => ?_), fun h4 => ⟨⟨rfl, hP, h2⟩, ?_⟩⟩
  · have z3 : kn (nowM σ5).2.1 6 < 12 := z.2.2
    omega
  rintro r8 σ7 ⟨g1, g2⟩
  refine ⟨g1, fun d => ?_⟩
  have G := g2 d
  unfold xrn at G
  rw [xor_or (show ¬ ((nowM σ5).2.1 a.toNat).toNat.testBit b.toNat = true from h3')] at G
  unfold s_tell
  rw [if_pos (⟨h2, h3', by show kn (nowM σ5).2.1 6 < 12; omega⟩ : two (mA d σ5) a b ∧ ¬ bt ((aS (mA d σ5)).2.1 a.toNat) b.toNat = true ∧ kn (aS (mA d σ5)).2.1 6 < 12)]
  exact G
def Mo_tell_I : List AV → Hp → Nat → Nat → List AV → List AV → Hp → Prop := fun as σ0 pc n st ls σ => (match as with
    | [.inr (.inr (.inl (k, 0, 9))), .inl a1, .inl a2] => False
    | _ => False)
def Mo_tell_ct : Nat → Ct := fun n => match n with
  | 0 => Mo_areTwo_cs
  | 1 => Mo_isKnown_cs
  | 2 => Mo_allKnows_cs
  | 3 => Mo_turnKnows_cs
  | _ => Mo_tell_cs
set_option maxRecDepth 20000 in
set_option maxHeartbeats 4000000 in
theorem Mo_tell_met {l : Launch} {D : va_G} {ad : Nat → Nat} {ca : Nat → ClassId} {L : Nat} {fx : Nat → Int} : ax_MC l D ad ca L fx yX9_tell cX9_tell 3 (some .int) 6 Mo_tell_cs := by
  refine ax_met (oc := 9) (ct := Mo_tell_ct) (calls := Mo_tell_cl) (bs := Mo_tell_bk) (cut := fun pc => false) (f := 4) (I := Mo_tell_I) (by decide) rfl rfl Mo_tell_ck (List.forall_mem_cons.mpr ⟨ax_cwV Mo_areTwo_met (by decide) (by decide) rfl (by decide) rfl (ax_m7 134 (by decide +kernel) rfl) Mo_areTwo_w rfl Mo_areTwo_ds, List.forall_mem_cons.mpr ⟨ax_cwV Mo_isKnown_met (by decide) (by decide) rfl (by decide) rfl (ax_m7 138 (by decide +kernel) rfl) Mo_isKnown_w rfl Mo_isKnown_ds, List.forall_mem_cons.mpr ⟨ax_cwV Mo_allKnows_met (by decide) (by decide) rfl (by decide) rfl (ax_m7 142 (by decide +kernel) rfl) Mo_allKnows_w rfl Mo_allKnows_ds, List.forall_mem_cons.mpr ⟨ax_cwV Mo_turnKnows_met (by decide) (by decide) rfl (by decide) rfl (ax_m7 149 (by decide +kernel) rfl) Mo_turnKnows_w rfl Mo_turnKnows_ds, fun _ h => absurd h List.not_mem_nil⟩⟩⟩⟩) ?_ ?_
  · intro as σ0 hp hH
    match as, hp with
    | [.inr (.inr (.inl (k, 0, 9))), .inl a1, .inl a2], hp => exact ⟨rfl, Mo_tell_p k a1 a2 σ0 hH hp⟩
  · intro as σ0 hp n pc st ls σ hH hI
    match as, hp, hI with
    | [.inr (.inr (.inl (k, 0, 9))), .inl a1, .inl a2], hp, hI => exact False.elim hI
def Mo_forget_pre (k : Nat) (_a _b : Int) (σ : Hp) : Prop := k = 67 ∧ MP σ
def Mo_forget_post (_k : Nat) (a b : Int) (σ : Hp) (r : Int) (σ' : Hp) : Prop := MQo σ σ' ∧ ∀ d, s_forget (mA d σ) a b r (mA d σ')
def Mo_forget_bk : List (Nat × List Item) := [(0, [(.aload_n 0, 1, [], []), (.iload_n 1, 1, [], []), (.iload_n 2, 1, [], []), (.invokevirtual 419, 3, [0], []), (.ifCond .eq 21, 3, [27], []), (.aload_n 0, 1, [], []), (.iload_n 1, 1, [], []), (.iload_n 2, 1, [], []), (.invokevirtual 423, 3, [1], []), (.ifCond .eq 12, 3, [27], []), (.aload_n 0, 1, [], []), (.iload_n 1, 1, [], []), (.iload_n 2, 1, [], []), (.invokevirtual 429, 3, [2], []), (.goto 4, 3, [28], [])]),
  (27, [(.iconst (-1), 1, [], [])]),
  (28, [(.ireturn, 1, [], [])])]
def Mo_forget_cl : List (Instr × Nat) := [(.invokevirtual 419, 0), (.invokevirtual 423, 1), (.invokevirtual 429, 2)]
set_option maxRecDepth 20000 in
theorem Mo_forget_ck : Mo_forget_bk.all (fun b => ax_chB 9 3 cX9_forget Mo_forget_cl b.1 b.2) = true := by decide +kernel
def Mo_forget_cs : Ct := (3, 10, 1, (0, 0), fun as σ => (match as with
    | [.inr (.inr (.inl (k, 0, 9))), .inl a1, .inl a2] => Mo_forget_pre k a1 a2 σ
    | _ => False), fun as σ r σ' => (match as with
    | [.inr (.inr (.inl (k, 0, 9))), .inl a1, .inl a2] => Mo_forget_post k a1 a2 σ r σ'
    | _ => False))
theorem Mo_forget_w : ∀ w ∈ ([.instanceMethod yX9_forget, .selects yX9_forget.cls yX9_forget yX9_forget, .initialized yX9_forget.cls, .code yX9_forget cX9_forget 3 (some .int)] : List Cond), w ∈ ax_tb := ax_w4 (ax_m7 154 (by decide +kernel) rfl) (ax_m7 155 (by decide +kernel) rfl) (ax_m1 10 (by decide +kernel) rfl) (ax_m7 156 (by decide +kernel) rfl)
theorem Mo_forget_ds : yX9_forget.cls ≠ "java/lang/invoke/MethodHandle" ∧ yX9_forget.cls ≠ "java/lang/invoke/VarHandle" ∧ (parseMethodDescriptor yX9_forget.desc).map (fun d => d.parameters.length) = some 2 := by decide +kernel
def Mo_forget_vc : Prop := ∀ (k : Nat) (a1 : Int) (a2 : Int) (σ : Hp), ax_H σ → Mo_forget_pre k a1 a2 σ →
  Mo_areTwo_pre k a1 a2 σ ∧
  ∀ (r2 : Int) (σ1 : Hp), Mo_areTwo_post k a1 a2 σ r2 σ1 →
  (r2 = 0 →
    Mo_forget_post k a1 a2 σ (-1) σ1) ∧
  (¬ (r2 = 0) →
    Mo_isKnown_pre k a1 a2 σ1 ∧
    ∀ (r4 : Int) (σ3 : Hp), Mo_isKnown_post k a1 a2 σ1 r4 σ3 →
    (r4 = 0 →
      Mo_forget_post k a1 a2 σ (-1) σ3) ∧
    (¬ (r4 = 0) →
      Mo_turnKnows_pre k a1 a2 σ3 ∧
      ∀ (r6 : Int) (σ5 : Hp), Mo_turnKnows_post k a1 a2 σ3 r6 σ5 →
      Mo_forget_post k a1 a2 σ r6 σ5))
theorem Mo_forget_p : Mo_forget_vc := by
  intro k a b σ hH hp
  obtain ⟨rfl, hP⟩ := hp
  have hN := hP.np
  have hn := hP.n6
  have no : ∀ (σ1 : Hp), σ1 = σ → (∀ d, ¬ (two (mA d σ) a b ∧ bt ((aS (mA d σ)).2.1 a.toNat) b.toNat = true)) → Mo_forget_post 67 a b σ (-1) σ1 := by
    rintro σ1 rfl h
    refine ⟨⟨hP.1, fun _ _ => rfl⟩, fun d => ?_⟩
    unfold s_forget
    rw [if_neg (h d)]
    exact ⟨rfl, rfl⟩
  refine ⟨⟨rfl, hn⟩, ?_⟩
  rintro r2 σ1 ⟨rfl, hr⟩
  refine ⟨fun h => no σ1 rfl (fun d z => ?_), fun h => ?_⟩
  · rcases hr with ⟨y, -⟩ | ⟨-, y⟩
    · omega
    · exact y z.1
  have h2 : twoM σ1 a b := by
    rcases hr with ⟨-, y⟩ | ⟨y, -⟩
    · exact y
    · exact absurd y h
  have hab := h2
  obtain ⟨⟨ha, hb⟩, hne⟩ := hab
  refine ⟨⟨rfl, ha.1, by omega, hb.1, by omega, hN⟩, ?_⟩
  rintro r4 σ3 ⟨rfl, rfl⟩
  refine ⟨fun h3 => no σ3 rfl (fun d z => ite0 h3 z.2), fun h3 => ⟨⟨rfl, hP, h2⟩, ?_⟩⟩
  have h3' := ite1 h3
  rintro r8 σ7 ⟨g1, g2⟩
  refine ⟨g1, fun d => ?_⟩
  have G := g2 d
  unfold xrn at G
  rw [xor_nd (show ((nowM σ3).2.1 a.toNat).toNat.testBit b.toNat = true from h3')] at G
  unfold s_forget
  rw [if_pos (⟨h2, h3'⟩ : two (mA d σ3) a b ∧ bt ((aS (mA d σ3)).2.1 a.toNat) b.toNat = true)]
  exact G
def Mo_forget_I : List AV → Hp → Nat → Nat → List AV → List AV → Hp → Prop := fun as σ0 pc n st ls σ => (match as with
    | [.inr (.inr (.inl (k, 0, 9))), .inl a1, .inl a2] => False
    | _ => False)
def Mo_forget_ct : Nat → Ct := fun n => match n with
  | 0 => Mo_areTwo_cs
  | 1 => Mo_isKnown_cs
  | 2 => Mo_turnKnows_cs
  | _ => Mo_forget_cs
set_option maxRecDepth 20000 in
set_option maxHeartbeats 4000000 in
theorem Mo_forget_met {l : Launch} {D : va_G} {ad : Nat → Nat} {ca : Nat → ClassId} {L : Nat} {fx : Nat → Int} : ax_MC l D ad ca L fx yX9_forget cX9_forget 3 (some .int) 6 Mo_forget_cs := by
  refine ax_met (oc := 9) (ct := Mo_forget_ct) (calls := Mo_forget_cl) (bs := Mo_forget_bk) (cut := fun pc => false) (f := 4) (I := Mo_forget_I) (by decide) rfl rfl Mo_forget_ck (List.forall_mem_cons.mpr ⟨ax_cwV Mo_areTwo_met (by decide) (by decide) rfl (by decide) rfl (ax_m7 134 (by decide +kernel) rfl) Mo_areTwo_w rfl Mo_areTwo_ds, List.forall_mem_cons.mpr ⟨ax_cwV Mo_isKnown_met (by decide) (by decide) rfl (by decide) rfl (ax_m7 138 (by decide +kernel) rfl) Mo_isKnown_w rfl Mo_isKnown_ds, List.forall_mem_cons.mpr ⟨ax_cwV Mo_turnKnows_met (by decide) (by decide) rfl (by decide) rfl (ax_m7 149 (by decide +kernel) rfl) Mo_turnKnows_w rfl Mo_turnKnows_ds, fun _ h => absurd h List.not_mem_nil⟩⟩⟩) ?_ ?_
  · intro as σ0 hp hH
    match as, hp with
    | [.inr (.inr (.inl (k, 0, 9))), .inl a1, .inl a2], hp => exact ⟨rfl, Mo_forget_p k a1 a2 σ0 hH hp⟩
  · intro as σ0 hp n pc st ls σ hH hI
    match as, hp, hI with
    | [.inr (.inr (.inl (k, 0, 9))), .inl a1, .inl a2], hp, hI => exact False.elim hI
