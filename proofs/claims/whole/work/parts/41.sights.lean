-- THE SIGHTS
theorem FK_of {k : Nat} {cs : List Nat} {σ σ' : Hp} (hk : FO k) (hf : Fr cs σ σ') (hc : ∀ c ∈ cs, c < 35 ∨ 67 ≤ c ∨ c = k + 7 ∨ c = k + 10 ∨ c = k + 11 ∨ c = k + 14 ∨ c = k + 15) : FK k σ σ' := by
  have key : ∀ d, d ≤ 15 → d ≠ 7 → d ≠ 10 → d ≠ 11 → d ≠ 14 → d ≠ 15 → σ' (k + d) = σ (k + d) := by
    intro d h1 h2 h3 h4 h5 h6
    refine hf _ (fun z => ?_)
    have := hc _ z
    rcases hk with rfl | rfl <;> omega
  exact ⟨key 0 (by omega) (by omega) (by omega) (by omega) (by omega) (by omega), fun d h1 h2 => key d (by omega) (by omega) (by omega) (by omega) (by omega) (by omega), key 8 (by omega) (by omega) (by omega) (by omega) (by omega) (by omega), key 9 (by omega) (by omega) (by omega) (by omega) (by omega) (by omega), key 12 (by omega) (by omega) (by omega) (by omega) (by omega) (by omega), key 13 (by omega) (by omega) (by omega) (by omega) (by omega) (by omega)⟩
theorem mwr_R (F : Fam) (s : Sta) (out : Int) : ∀ i, -1 ≤ (mwr F s out i).1 ∧ (mwr F s out i).1 < (i : Int) := by
  intro i
  induction i with
  | zero => exact ⟨by show (-1 : Int) ≤ -1; omega, by show (-1 : Int) < 0; omega⟩
  | succ i ih =>
    rw [mwr_s]
    split
    · omega
    · split
      · exact ⟨by show (-1 : Int) ≤ (i : Int); omega, by show (i : Int) < _; omega⟩
      · omega
theorem goes_R (F : Fam) (s : Sta) (out : Int) : -1 ≤ goes F s out ∧ goes F s out < (fN F : Int) := mwr_R F s out (fN F)
theorem stp_hair {F : Fam} {s : Sta} {a : Int} (h : -1 ≤ s.2.2.1 ∧ s.2.2.1 < (fN F : Int)) : -1 ≤ (stp F a s).2.2.1 ∧ (stp F a s).2.2.1 < (fN F : Int) := by
  show -1 ≤ (if ¬ s.2.2.2.2.2 = 0 ∧ ¬ s.2.2.1 = -1 then s.2.2.1 else goes F _ (-1)) ∧ (if ¬ s.2.2.2.2.2 = 0 ∧ ¬ s.2.2.1 = -1 then s.2.2.1 else goes F _ (-1)) < (fN F : Int)
  split
  · exact h
  · exact goes_R _ _ _
theorem itr_hair {F : Fam} {s : Sta} {a : Int} (h : -1 ≤ s.2.2.1 ∧ s.2.2.1 < (fN F : Int)) : ∀ n, -1 ≤ (itr F a s n).2.2.1 ∧ (itr F a s n).2.2.1 < (fN F : Int) := by
  intro n
  induction n with
  | zero => exact h
  | succ n ih => rw [itr_s]; exact stp_hair ih
/-- on whom the hair was on a day, if the last one had this care at first -/
def wsn (F : Fam) (care d : Nat) : Int := (itr F 0 (bgn F ((fN F : Int) - 1) care) d).2.2.1
theorem wsn_R (F : Fam) (care d : Nat) : -1 ≤ wsn F care d ∧ wsn F care d < (fN F : Int) := itr_hair (goes_R _ _ _) d
theorem FS.bgn {σ : Hp} {f : Nat} (h : FS σ f) (one : Int) {care : Int} (c0 : 0 ≤ care) (c1 : care ≤ 99) : OKs 0 (bgn (famX σ f) one care) := by
  obtain ⟨h1, h2, h3, h4, -⟩ := h
  refine ⟨fun j => ?_, fun j => ?_, ⟨Int.le_refl 0, Int.le_refl 0⟩, ?_⟩
  · show 0 ≤ tr 6 (fun j => if (j : Int) = one then care else tr 6 (σ (f + 3)) j) j ∧ tr 6 (fun j => if (j : Int) = one then care else tr 6 (σ (f + 3)) j) j ≤ 99
    by_cases hj : j < 6
    · rw [tr_in hj]
      split
      · exact ⟨c0, c1⟩
      · rw [tr_in hj]; exact (h4 j hj).2.2.1
    · rw [tr_out (by omega)]; omega
  · show 0 ≤ tr 6 (σ (f + 4)) j ∧ tr 6 (σ (f + 4)) j < 64
    by_cases hj : j < 6
    · rw [tr_in hj]; exact (h4 j hj).2.2.2
    · rw [tr_out (by omega)]; omega
  · show 0 ≤ σ f 13 ∧ σ f 13 < 1000
    omega
theorem iB2 {v : Int} (h : -1 ≤ v) (h2 : v < 6) : iByte (iByte v) = v := by
  have e : ∀ n : Nat, n < 7 → iByte ((n : Int) - 1) = (n : Int) - 1 := by decide +kernel
  have := e (v + 1).toNat (by omega)
  rw [show (((v + 1).toNat : Nat) : Int) - 1 = v by omega] at this
  rw [this, this]
/-- the hairs are made -/
def HT (σ : Hp) (F : Fam) : Prop := ∀ c, c < 100 → ∀ d, d < 10 → σ 28 (c * 10 + d) = wsn F c d
def mh (f : Nat) : List Nat := 19 :: 28 :: sg f 25
theorem mh_c {f : Nat} : ∀ c ∈ mh f, c < 35 ∨ 67 ≤ c ∨ c = f + 7 ∨ c = f + 10 ∨ c = f + 11 ∨ c = f + 14 ∨ c = f + 15 := by
  intro c hc
  simp only [mh, sg, List.mem_cons, List.not_mem_nil, or_false] at hc
  omega
theorem mh_no {f c : Nat} (hk : FO f) (h : (20 ≤ c ∧ c ≤ 24) ∨ (29 ≤ c ∧ c < 35) ∨ c < 19) : c ∉ mh f := by
  intro z
  simp only [mh, sg, List.mem_cons, List.not_mem_nil, or_false] at z
  rcases hk with rfl | rfl <;> omega
def Si_makeHairs_pre (k f : Nat) (σ : Hp) : Prop := k = 19 ∧ FO f ∧ FS σ f ∧ 0 < fN (famX σ f) ∧ (¬ σ 19 10 = 0 → HT σ (famX σ f))
def Si_makeHairs_post (_k f : Nat) (σ σ' : Hp) : Prop := Fr (mh f) σ σ' ∧ HT σ' (famX σ f) ∧ σ' 19 9 = σ 19 9 ∧ ¬ σ' 19 10 = 0
def Si_makeHairs_I10 (_k f : Nat) (σ0 : Hp) (m : Nat) (v2 : Int) (σ : Hp) : Prop := ∃ c : Nat, v2 = c ∧ c ≤ 100 ∧ m = 100 * (100 - c) + 50 ∧ Fr (mh f) σ0 σ ∧ σ 19 = σ0 19 ∧ ∀ c', c' < c → ∀ d, d < 10 → σ 28 (c' * 10 + d) = wsn (famX σ0 f) c' d
def Si_makeHairs_I50 (_k f : Nat) (σ0 : Hp) (m : Nat) (v2 v3 : Int) (σ : Hp) : Prop := ∃ c d : Nat, v2 = c ∧ c < 100 ∧ v3 = (d + 1 : Nat) ∧ d < 10 ∧ m = 100 * (100 - c) + (20 - d) ∧ Fr (mh f) σ0 σ ∧ σ 19 = σ0 19 ∧ (∀ c', c' < c → ∀ d, d < 10 → σ 28 (c' * 10 + d) = wsn (famX σ0 f) c' d) ∧ (∀ d', d' ≤ d → σ 28 (c * 10 + d') = wsn (famX σ0 f) c d') ∧ stX σ 25 = itr (famX σ0 f) 0 (bgn (famX σ0 f) ((fN (famX σ0 f) : Int) - 1) c) d
def Si_makeHairs_bk : List (Nat × List Item) := [(0, [(.aload_n 0, 1, [], []), (.getfield 49, 3, [6, 10, 1, 0, 0, 0], []), (.ifCond .eq 4, 3, [8], []), (.return_, 1, [], [])]),
  (8, [(.iconst 0, 1, [], []), (.istore_n 2, 1, [], [])]),
  (10, [(.iload_n 2, 1, [], []), (.bipush 100, 2, [], []), (.if_icmp .ge 83, 3, [96], []), (.aload_n 1, 1, [], []), (.aload_n 0, 1, [], []), (.getfield 31, 3, [6, 5, 4, 6, 0, 7], []), (.aload_n 1, 1, [], []), (.getfield 53, 3, [1, 9, 0, 0, 0, 0], []), (.iconst 1, 1, [], []), (.isub, 1, [], []), (.iload_n 2, 1, [], []), (.invokevirtual 57, 3, [0], []), (.aload_n 0, 1, [], []), (.getfield 35, 3, [6, 6, 4, 9, 2, 1000], []), (.iload_n 2, 1, [], []), (.bipush 10, 2, [], []), (.imul, 1, [], []), (.aload_n 0, 1, [], []), (.getfield 31, 3, [6, 5, 4, 6, 0, 7], []), (.getfield 61, 3, [7, 2, 0, 0, 0, 0], []), (.i2b, 1, [], []), (.bastore, 1, [], []), (.iconst 1, 1, [], []), (.istore_n 3, 1, [], [])]),
  (50, [(.iload_n 3, 1, [], []), (.bipush 10, 2, [], []), (.if_icmp .ge 37, 3, [90], []), (.aload_n 1, 1, [], []), (.aload_n 0, 1, [], []), (.getfield 31, 3, [6, 5, 4, 6, 0, 7], []), (.iconst 0, 1, [], []), (.invokevirtual 64, 3, [1], []), (.aload_n 0, 1, [], []), (.getfield 35, 3, [6, 6, 4, 9, 2, 1000], []), (.iload_n 2, 1, [], []), (.bipush 10, 2, [], []), (.imul, 1, [], []), (.iload_n 3, 1, [], []), (.iadd, 1, [], []), (.aload_n 0, 1, [], []), (.getfield 31, 3, [6, 5, 4, 6, 0, 7], []), (.getfield 61, 3, [7, 2, 0, 0, 0, 0], []), (.i2b, 1, [], []), (.bastore, 1, [], []), (.iinc 3 1, 3, [], []), (.goto (-37), 3, [50], [])]),
  (90, [(.iinc 2 1, 3, [], []), (.goto (-83), 3, [10], [])]),
  (96, [(.aload_n 0, 1, [], []), (.iconst 1, 1, [], []), (.putfield 49, 3, [6, 10, 1, 0, 0, 0], []), (.return_, 1, [], [])])]
def Si_makeHairs_cl : List (Instr × Nat) := [(.invokevirtual 57, 0), (.invokevirtual 64, 1)]
set_option maxRecDepth 20000 in
theorem Si_makeHairs_ck : Si_makeHairs_bk.all (fun b => ax_chB 6 4 cX6_makeHairs Si_makeHairs_cl b.1 b.2) = true := by decide +kernel
def Si_makeHairs_cs : Ct := (2, 7, 0, (0, 0), fun as σ => (match as with
    | [.inr (.inr (.inl (k, 0, 6))), .inr (.inr (.inl (q1, 0, 1)))] => Si_makeHairs_pre k q1 σ
    | _ => False), fun as σ r σ' => (match as with
    | [.inr (.inr (.inl (k, 0, 6))), .inr (.inr (.inl (q1, 0, 1)))] => Si_makeHairs_post k q1 σ σ'
    | _ => False))
theorem Si_makeHairs_w : ∀ w ∈ ([.instanceMethod yX6_makeHairs, .selects yX6_makeHairs.cls yX6_makeHairs yX6_makeHairs, .initialized yX6_makeHairs.cls, .code yX6_makeHairs cX6_makeHairs 4 none] : List Cond), w ∈ ax_tb := ax_w4 (ax_m5 83 (by decide +kernel) rfl) (ax_m5 84 (by decide +kernel) rfl) (ax_m1 7 (by decide +kernel) rfl) (ax_m5 85 (by decide +kernel) rfl)
theorem Si_makeHairs_ds : yX6_makeHairs.cls ≠ "java/lang/invoke/MethodHandle" ∧ yX6_makeHairs.cls ≠ "java/lang/invoke/VarHandle" ∧ (parseMethodDescriptor yX6_makeHairs.desc).map (fun d => d.parameters.length) = some 1 := by decide +kernel
def Si_makeHairs_vc : Prop := ∀ (k : Nat) (q1 : Nat) (σ : Hp), ax_H σ → Si_makeHairs_pre k q1 σ →
  (σ k 10 = 0 →
    ∃ n' : Nat, k = k ∧ q1 = q1 ∧ Si_makeHairs_I10 k q1 σ n' 0 σ) ∧
  (¬ (σ k 10 = 0) →
    Si_makeHairs_post k q1 σ σ)
def Si_makeHairs_vc10 : Prop := ∀ (k : Nat) (q1 : Nat) (σ0 : Hp), Si_makeHairs_pre k q1 σ0 → ∀ (n : Nat) (v2 : Int) (σ : Hp), ax_H σ → Si_makeHairs_I10 k q1 σ0 n v2 σ →
  (100 ≤ v2 →
    ((1 : Int) = 0 ∨ (1 : Int) = 1) ∧
    ∀ σ1 : Hp, σ1 = hp σ k 10 1 →
    Si_makeHairs_post k q1 σ0 σ1) ∧
  (¬ (100 ≤ v2) →
    Fa_begin_pre q1 (k + 6) (wr ((σ q1 9) - 1)) v2 σ ∧
    ∀ σ2 : Hp, Fa_begin_post q1 (k + 6) (wr ((σ q1 9) - 1)) v2 σ σ2 →
    (0 ≤ wr (v2 * 10) ∧ wr (v2 * 10) < 1000) ∧
    ∀ σ3 : Hp, σ3 = hp σ2 (k + 9) (wr (v2 * 10)).toNat (iByte (iByte (σ2 (k + 6) 2))) →
    ∃ n' : Nat, n' < n ∧ k = k ∧ q1 = q1 ∧ Si_makeHairs_I50 k q1 σ0 n' v2 1 σ3)
def Si_makeHairs_vc50 : Prop := ∀ (k : Nat) (q1 : Nat) (σ0 : Hp), Si_makeHairs_pre k q1 σ0 → ∀ (n : Nat) (v2 : Int) (v3 : Int) (σ : Hp), ax_H σ → Si_makeHairs_I50 k q1 σ0 n v2 v3 σ →
  (10 ≤ v3 →
    ∃ n' : Nat, n' < n ∧ k = k ∧ q1 = q1 ∧ Si_makeHairs_I10 k q1 σ0 n' (wr (v2 + 1)) σ) ∧
  (¬ (10 ≤ v3) →
    Fa_pass_pre q1 (k + 6) 0 σ ∧
    ∀ σ1 : Hp, Fa_pass_post q1 (k + 6) 0 σ σ1 →
    (0 ≤ wr ((wr (v2 * 10)) + v3) ∧ wr ((wr (v2 * 10)) + v3) < 1000) ∧
    ∀ σ2 : Hp, σ2 = hp σ1 (k + 9) (wr ((wr (v2 * 10)) + v3)).toNat (iByte (iByte (σ1 (k + 6) 2))) →
    ∃ n' : Nat, n' < n ∧ k = k ∧ q1 = q1 ∧ Si_makeHairs_I50 k q1 σ0 n' v2 (wr (v3 + 1)) σ2)
theorem sg_mh {f : Nat} : ∀ c ∈ sg f 25, c ∈ mh f := fun _ hc => List.mem_cons_of_mem _ (List.mem_cons_of_mem _ hc)
theorem sg25_no {f c : Nat} (hk : FO f) (h : c = 19 ∨ c = 28) : c ∉ sg f 25 := by
  intro z
  simp only [sg, List.mem_cons, List.not_mem_nil, or_false] at z
  rcases hk with rfl | rfl <;> omega
theorem Si_makeHairs_p : Si_makeHairs_vc := by
  intro k f σ hH hp
  obtain ⟨rfl, hk, hF, hn, hT⟩ := hp
  refine ⟨fun h => ⟨10050, rfl, rfl, 0, rfl, by omega, rfl, Fr.rf, rfl, fun c hc => absurd hc (Nat.not_lt_zero c)⟩, fun h => ⟨Fr.rf, hT h, rfl, h⟩⟩
theorem Si_makeHairs_p10 : Si_makeHairs_vc10 := by
  intro k f σ0 hp m v2 σ hH hI
  obtain ⟨rfl, hk, hF, hn, hT⟩ := hp
  obtain ⟨c, rfl, hc, rfl, hf, h19, hr⟩ := hI
  have hK := FK_of hk hf mh_c
  have hn6 := hF.n6
  have hF1 := hK.fs hF
  refine ⟨fun h => ⟨Or.inr rfl, ?_⟩, fun h => ⟨⟨hk, Or.inr (Or.inl rfl), hF1, by omega, by omega⟩, ?_⟩⟩
  · rintro σ1 rfl
    have e : c = 100 := by omega
    subst e
    exact ⟨Fr.hp hf (by simp [mh]), fun c' hc' d hd => by rw [hp_ne (by decide)]; exact hr c' hc' d hd, by rw [hp_r2 (by omega), h19], by rw [hp_r1]; decide⟩
  · rintro σ2 ⟨g1, g2⟩
    rw [hF1.e9, hK.fam, wr_id (by omega) (by omega)] at g2
    have e10 : wr ((c : Int) * 10) = ((c * 10 : Nat) : Int) := by rw [wr_id (by omega) (by omega)]; simp
    rw [e10, Int.toNat_natCast]
    refine ⟨⟨by omega, by omega⟩, ?_⟩
    rintro σ3 rfl
    have hw := wsn_R (famX σ0 f) c 0
    have eh : σ2 (19 + 6) 2 = wsn (famX σ0 f) c 0 := by
      have : σ2 25 2 = (bgn (famX σ0 f) ((fN (famX σ0 f) : Int) - 1) c).2.2.1 := by rw [← g2]; rfl
      exact this
    rw [eh, iB2 hw.1 (by omega)]
    refine ⟨100 * (100 - c) + 20, by omega, rfl, rfl, c, 0, rfl, by omega, rfl, by omega, rfl, Fr.hp (hf.tr (g1.mono sg_mh)) (by simp [mh]), ?_, fun c' hc' d hd => ?_, fun d' hd' => ?_, ?_⟩
    · rw [hp_ne (show (19 : Nat) ≠ 19 + 9 by decide), g1 19 (sg25_no hk (by omega))]; exact h19
    · rw [hp_r2 (by omega), g1 28 (sg25_no hk (by omega))]; exact hr c' hc' d hd
    · have : d' = 0 := by omega
      subst this
      exact hp_r1
    · rw [stX_eq (σ := σ2) (fun d hd => hp_ne (by omega))]
      exact g2
theorem Si_makeHairs_p50 : Si_makeHairs_vc50 := by
  intro k f σ0 hp m v2 v3 σ hH hI
  obtain ⟨rfl, hk, hF, hn, hT⟩ := hp
  obtain ⟨c, d, rfl, hc, rfl, hd, rfl, hf, h19, hr, hrd, hs⟩ := hI
  have hK := FK_of hk hf mh_c
  have hn6 := hF.n6
  have hF1 := hK.fs hF
  refine ⟨fun h => ⟨100 * (100 - (c + 1)) + 50, by omega, rfl, rfl, c + 1, by rw [wr1 (by omega) (by omega)]; simp, by omega, rfl, hf, h19, fun c' hc' d' hd' => ?_⟩, fun h => ?_⟩
  · by_cases e : c' = c
    · subst e; exact hrd d' (by omega)
    · exact hr c' (by omega) d' hd'
  · have hok := (hF.bgn ((fN (famX σ0 f) : Int) - 1) (care := (c : Int)) (by omega) (by omega)).itr hn6 z64 d
    rw [← hs] at hok
    refine ⟨⟨hk, Or.inr (Or.inl rfl), hF1, hok.ss, hok.sd (by omega), z64⟩, ?_⟩
    rintro σ1 ⟨g1, g2⟩
    have g2' : stX σ1 25 = itr (famX σ0 f) 0 (bgn (famX σ0 f) ((fN (famX σ0 f) : Int) - 1) c) (d + 1) := by
      have : stX σ1 25 = stp (famX σ f) 0 (stX σ 25) := g2
      rw [this, hK.fam, hs, itr_s]
    have e10 : wr (wr ((c : Int) * 10) + ((d + 1 : Nat) : Int)) = ((c * 10 + (d + 1) : Nat) : Int) := by rw [wr_id (x := (c : Int) * 10) (by omega) (by omega), wr_id (by omega) (by omega)]; simp
    rw [e10, Int.toNat_natCast]
    refine ⟨⟨by omega, by omega⟩, ?_⟩
    rintro σ2 rfl
    have hw := wsn_R (famX σ0 f) c (d + 1)
    have eh : σ1 (19 + 6) 2 = wsn (famX σ0 f) c (d + 1) := by
      have : σ1 25 2 = (itr (famX σ0 f) 0 (bgn (famX σ0 f) ((fN (famX σ0 f) : Int) - 1) c) (d + 1)).2.2.1 := by rw [← g2']; rfl
      exact this
    rw [eh, iB2 hw.1 (by omega)]
    refine ⟨100 * (100 - c) + (20 - (d + 1)), by omega, rfl, rfl, c, d + 1, rfl, hc, by rw [wr1 (by omega) (by omega)]; simp, by omega, rfl, Fr.hp (hf.tr (g1.mono sg_mh)) (by simp [mh]), ?_, fun c' hc' d' hd' => ?_, fun d' hd' => ?_, ?_⟩
    · rw [hp_ne (show (19 : Nat) ≠ 19 + 9 by decide), g1 19 (sg25_no hk (by omega))]; exact h19
    · rw [hp_r2 (by omega), g1 28 (sg25_no hk (by omega))]; exact hr c' hc' d' hd'
    · by_cases e : d' = d + 1
      · subst e; exact hp_r1
      · rw [hp_r2 (by omega), g1 28 (sg25_no hk (by omega))]; exact hrd d' (by omega)
    · rw [stX_eq (σ := σ1) (fun d hd => hp_ne (by omega))]
      exact g2'
def Si_makeHairs_I : List AV → Hp → Nat → Nat → List AV → List AV → Hp → Prop := fun as σ0 pc n st ls σ => (match as with
    | [.inr (.inr (.inl (k, 0, 6))), .inr (.inr (.inl (q1, 0, 1)))] => (bif Nat.beq pc 10 then (match st, ls with
      | [], [.inr (.inr (.inl (k', 0, 6))), .inr (.inr (.inl (q1', 0, 1))), .inl v2, _] => k = k' ∧ q1 = q1' ∧ Si_makeHairs_I10 k q1 σ0 n v2 σ
      | _, _ => False) else (bif Nat.beq pc 50 then (match st, ls with
      | [], [.inr (.inr (.inl (k', 0, 6))), .inr (.inr (.inl (q1', 0, 1))), .inl v2, .inl v3] => k = k' ∧ q1 = q1' ∧ Si_makeHairs_I50 k q1 σ0 n v2 v3 σ
      | _, _ => False) else False))
    | _ => False)
def Si_makeHairs_ct : Nat → Ct := fun n => match n with
  | 0 => Fa_begin_cs
  | 1 => Fa_pass_cs
  | _ => Si_makeHairs_cs
set_option maxRecDepth 20000 in
set_option maxHeartbeats 4000000 in
theorem Si_makeHairs_met {l : Launch} {D : va_G} {ad : Nat → Nat} {ca : Nat → ClassId} {L : Nat} {fx : Nat → Int} : ax_MC l D ad ca L fx yX6_makeHairs cX6_makeHairs 4 none 6 Si_makeHairs_cs := by
  refine ax_met (oc := 6) (ct := Si_makeHairs_ct) (calls := Si_makeHairs_cl) (bs := Si_makeHairs_bk) (cut := fun pc => Nat.beq pc 10 || Nat.beq pc 50) (f := 7) (I := Si_makeHairs_I) (by decide) rfl rfl Si_makeHairs_ck (List.forall_mem_cons.mpr ⟨ax_cwV Fa_begin_met (by decide) (by decide) rfl (by decide) rfl (ax_m5 86 (by decide +kernel) rfl) Fa_begin_w rfl Fa_begin_ds, List.forall_mem_cons.mpr ⟨ax_cwV Fa_pass_met (by decide) (by decide) rfl (by decide) rfl (ax_m5 87 (by decide +kernel) rfl) Fa_pass_w rfl Fa_pass_ds, fun _ h => absurd h List.not_mem_nil⟩⟩) ?_ ?_
  · intro as σ0 hp hH
    match as, hp with
    | [.inr (.inr (.inl (k, 0, 6))), .inr (.inr (.inl (q1, 0, 1)))], hp => exact ⟨rfl, Si_makeHairs_p k q1 σ0 hH hp⟩
  · intro as σ0 hp n pc st ls σ hH hI
    match as, hp, hI with
    | [.inr (.inr (.inl (k, 0, 6))), .inr (.inr (.inl (q1, 0, 1)))], hp, hI =>
      rcases ax_bifE hI with ⟨hpc, hI⟩ | ⟨-, hI⟩
      · have := Nat.eq_of_beq_eq_true hpc
        subst this
        match st, ls, hI with
        | [], [.inr (.inr (.inl (k', 0, 6))), .inr (.inr (.inl (q1', 0, 1))), .inl v2, _], hI =>
          obtain ⟨rfl, rfl, hI⟩ := hI
          exact Si_makeHairs_p10 k q1 σ0 hp n v2 σ hH hI
      rcases ax_bifE hI with ⟨hpc, hI⟩ | ⟨-, hI⟩
      · have := Nat.eq_of_beq_eq_true hpc
        subst this
        match st, ls, hI with
        | [], [.inr (.inr (.inl (k', 0, 6))), .inr (.inr (.inl (q1', 0, 1))), .inl v2, .inl v3], hI =>
          obtain ⟨rfl, rfl, hI⟩ := hI
          exact Si_makeHairs_p50 k q1 σ0 hp n v2 v3 σ hH hI
      exact False.elim hI
def Si_clear_pre (k : Nat) (_σ : Hp) : Prop := k = 19
def Si_clear_post (_k : Nat) (σ σ' : Hp) : Prop := Fr [19] σ σ' ∧ σ' 19 9 = 0 ∧ σ' 19 10 = 0
def Si_clear_bk : List (Nat × List Item) := [(0, [(.aload_n 0, 1, [], []), (.iconst 0, 1, [], []), (.putfield 45, 3, [6, 9, 0, 0, 0, 0], []), (.aload_n 0, 1, [], []), (.iconst 0, 1, [], []), (.putfield 49, 3, [6, 10, 1, 0, 0, 0], []), (.return_, 1, [], [])])]
def Si_clear_cl : List (Instr × Nat) := []
set_option maxRecDepth 20000 in
theorem Si_clear_ck : Si_clear_bk.all (fun b => ax_chB 6 1 cX6_clear Si_clear_cl b.1 b.2) = true := by decide +kernel
def Si_clear_cs : Ct := (1, 7, 0, (0, 0), fun as σ => (match as with
    | [.inr (.inr (.inl (k, 0, 6)))] => Si_clear_pre k σ
    | _ => False), fun as σ r σ' => (match as with
    | [.inr (.inr (.inl (k, 0, 6)))] => Si_clear_post k σ σ'
    | _ => False))
theorem Si_clear_w : ∀ w ∈ ([.instanceMethod yX6_clear, .selects yX6_clear.cls yX6_clear yX6_clear, .initialized yX6_clear.cls, .code yX6_clear cX6_clear 1 none] : List Cond), w ∈ ax_tb := ax_w4 (ax_m3 177 (by decide +kernel) rfl) (ax_m3 178 (by decide +kernel) rfl) (ax_m1 7 (by decide +kernel) rfl) (ax_m3 179 (by decide +kernel) rfl)
theorem Si_clear_ds : yX6_clear.cls ≠ "java/lang/invoke/MethodHandle" ∧ yX6_clear.cls ≠ "java/lang/invoke/VarHandle" ∧ (parseMethodDescriptor yX6_clear.desc).map (fun d => d.parameters.length) = some 0 := by decide +kernel
def Si_clear_vc : Prop := ∀ (k : Nat) (σ : Hp), ax_H σ → Si_clear_pre k σ →
  ∀ σ1 : Hp, σ1 = hp σ k 9 0 →
  ((0 : Int) = 0 ∨ (0 : Int) = 1) ∧
  ∀ σ2 : Hp, σ2 = hp σ1 k 10 0 →
  Si_clear_post k σ σ2
theorem Si_clear_p : Si_clear_vc := by
  intro k σ hH hp
  obtain ⟨rfl⟩ := hp
  rintro σ1 rfl
  refine ⟨Or.inl rfl, ?_⟩
  rintro σ2 rfl
  exact ⟨Fr.hp (Fr.hp Fr.rf (by simp)) (by simp), by simp [hp_rd], by simp [hp_rd]⟩
def Si_clear_I : List AV → Hp → Nat → Nat → List AV → List AV → Hp → Prop := fun as σ0 pc n st ls σ => (match as with
    | [.inr (.inr (.inl (k, 0, 6)))] => False
    | _ => False)
def Si_clear_ct : Nat → Ct := fun n => match n with
  | _ => Si_clear_cs
set_option maxRecDepth 20000 in
set_option maxHeartbeats 4000000 in
theorem Si_clear_met {l : Launch} {D : va_G} {ad : Nat → Nat} {ca : Nat → ClassId} {L : Nat} {fx : Nat → Int} : ax_MC l D ad ca L fx yX6_clear cX6_clear 1 none 1 Si_clear_cs := by
  refine ax_met (oc := 6) (ct := Si_clear_ct) (calls := Si_clear_cl) (bs := Si_clear_bk) (cut := fun pc => false) (f := 2) (I := Si_clear_I) (by decide) rfl rfl Si_clear_ck (fun _ h => absurd h List.not_mem_nil) ?_ ?_
  · intro as σ0 hp hH
    match as, hp with
    | [.inr (.inr (.inl (k, 0, 6)))], hp => exact ⟨rfl, Si_clear_p k σ0 hH hp⟩
  · intro as σ0 hp n pc st ls σ hH hI
    match as, hp, hI with
    | [.inr (.inr (.inl (k, 0, 6)))], hp, hI => exact False.elim hI
def sgc : List Nat := [19, 20, 21, 22, 23, 24]
def Si_add_pre (k : Nat) (_a _b c _d : Int) (σ : Hp) : Prop := k = 19 ∧ (0 ≤ σ 19 9 ∧ σ 19 9 ≤ 30) ∧ (c = 0 ∨ c = 1)
def Si_add_post (_k : Nat) (a b c d : Int) (σ : Hp) (r : Int) (σ' : Hp) : Prop := if 0 ≤ a ∧ a < 10 ∧ σ 19 9 < 30 then r = σ 19 9 ∧ Fr sgc σ σ' ∧ σ' 19 9 = σ 19 9 + 1 ∧ σ' 19 10 = σ 19 10 ∧ (σ' 20 (σ 19 9).toNat = a ∧ σ' 21 (σ 19 9).toNat = b ∧ σ' 22 (σ 19 9).toNat = c ∧ σ' 23 (σ 19 9).toNat = d ∧ σ' 24 (σ 19 9).toNat = -1) ∧ ∀ q, 20 ≤ q → q ≤ 24 → ∀ i, ¬ i = (σ 19 9).toNat → σ' q i = σ q i else r = -1 ∧ σ' = σ
def Si_add_bk : List (Nat × List Item) := [(0, [(.iload_n 1, 1, [], []), (.ifCond .lt 18, 3, [19], []), (.iload_n 1, 1, [], []), (.bipush 10, 2, [], []), (.if_icmp .ge 12, 3, [19], []), (.aload_n 0, 1, [], []), (.getfield 45, 3, [6, 9, 0, 0, 0, 0], []), (.bipush 30, 2, [], []), (.if_icmp .lt 5, 3, [21], [])]),
  (19, [(.iconst (-1), 1, [], []), (.ireturn, 1, [], [])]),
  (21, [(.aload_n 0, 1, [], []), (.getfield 11, 3, [6, 0, 4, 1, 1, 30], []), (.aload_n 0, 1, [], []), (.getfield 45, 3, [6, 9, 0, 0, 0, 0], []), (.iload_n 1, 1, [], []), (.iastore, 1, [], []), (.aload_n 0, 1, [], []), (.getfield 15, 3, [6, 1, 4, 2, 1, 30], []), (.aload_n 0, 1, [], []), (.getfield 45, 3, [6, 9, 0, 0, 0, 0], []), (.iload_n 2, 1, [], []), (.iastore, 1, [], []), (.aload_n 0, 1, [], []), (.getfield 18, 3, [6, 2, 4, 3, 3, 30], []), (.aload_n 0, 1, [], []), (.getfield 45, 3, [6, 9, 0, 0, 0, 0], []), (.iload_n 3, 1, [], []), (.bastore, 1, [], []), (.aload_n 0, 1, [], []), (.getfield 22, 3, [6, 3, 4, 4, 1, 30], []), (.aload_n 0, 1, [], []), (.getfield 45, 3, [6, 9, 0, 0, 0, 0], []), (.iload 4, 2, [], []), (.iastore, 1, [], []), (.aload_n 0, 1, [], []), (.getfield 25, 3, [6, 4, 4, 5, 1, 30], []), (.aload_n 0, 1, [], []), (.getfield 45, 3, [6, 9, 0, 0, 0, 0], []), (.iconst (-1), 1, [], []), (.iastore, 1, [], []), (.aload_n 0, 1, [], []), (.dup, 1, [], []), (.getfield 45, 3, [6, 9, 0, 0, 0, 0], []), (.iconst 1, 1, [], []), (.iadd, 1, [], []), (.putfield 45, 3, [6, 9, 0, 0, 0, 0], []), (.aload_n 0, 1, [], []), (.getfield 45, 3, [6, 9, 0, 0, 0, 0], []), (.iconst 1, 1, [], []), (.isub, 1, [], []), (.ireturn, 1, [], [])])]
def Si_add_cl : List (Instr × Nat) := []
set_option maxRecDepth 20000 in
theorem Si_add_ck : Si_add_bk.all (fun b => ax_chB 6 5 cX6_add Si_add_cl b.1 b.2) = true := by decide +kernel
def Si_add_cs : Ct := (5, 7, 1, (0, 0), fun as σ => (match as with
    | [.inr (.inr (.inl (k, 0, 6))), .inl a1, .inl a2, .inl a3, .inl a4] => Si_add_pre k a1 a2 a3 a4 σ
    | _ => False), fun as σ r σ' => (match as with
    | [.inr (.inr (.inl (k, 0, 6))), .inl a1, .inl a2, .inl a3, .inl a4] => Si_add_post k a1 a2 a3 a4 σ r σ'
    | _ => False))
theorem Si_add_w : ∀ w ∈ ([.instanceMethod yX6_add, .selects yX6_add.cls yX6_add yX6_add, .initialized yX6_add.cls, .code yX6_add cX6_add 5 (some .int)] : List Cond), w ∈ ax_tb := ax_w4 (ax_m5 58 (by decide +kernel) rfl) (ax_m5 59 (by decide +kernel) rfl) (ax_m1 7 (by decide +kernel) rfl) (ax_m5 60 (by decide +kernel) rfl)
theorem Si_add_ds : yX6_add.cls ≠ "java/lang/invoke/MethodHandle" ∧ yX6_add.cls ≠ "java/lang/invoke/VarHandle" ∧ (parseMethodDescriptor yX6_add.desc).map (fun d => d.parameters.length) = some 4 := by decide +kernel
def Si_add_vc : Prop := ∀ (k : Nat) (a1 : Int) (a2 : Int) (a3 : Int) (a4 : Int) (σ : Hp), ax_H σ → Si_add_pre k a1 a2 a3 a4 σ →
  (a1 < 0 →
    Si_add_post k a1 a2 a3 a4 σ (-1) σ) ∧
  (¬ (a1 < 0) →
    (10 ≤ a1 →
      Si_add_post k a1 a2 a3 a4 σ (-1) σ) ∧
    (¬ (10 ≤ a1) →
      (σ k 9 < 30 →
        (0 ≤ σ k 9 ∧ σ k 9 < 30) ∧
        ∀ σ1 : Hp, σ1 = hp σ (k + 1) (σ k 9).toNat a1 →
        (0 ≤ σ1 k 9 ∧ σ1 k 9 < 30) ∧
        ∀ σ2 : Hp, σ2 = hp σ1 (k + 2) (σ1 k 9).toNat a2 →
        (0 ≤ σ2 k 9 ∧ σ2 k 9 < 30) ∧
        (a3 = 0 ∨ a3 = 1) ∧ ∀ σ3 : Hp, σ3 = hp σ2 (k + 3) (σ2 k 9).toNat a3 →
        (0 ≤ σ3 k 9 ∧ σ3 k 9 < 30) ∧
        ∀ σ4 : Hp, σ4 = hp σ3 (k + 4) (σ3 k 9).toNat a4 →
        (0 ≤ σ4 k 9 ∧ σ4 k 9 < 30) ∧
        ∀ σ5 : Hp, σ5 = hp σ4 (k + 5) (σ4 k 9).toNat (-1) →
        ∀ σ6 : Hp, σ6 = hp σ5 k 9 (wr ((σ5 k 9) + 1)) →
        Si_add_post k a1 a2 a3 a4 σ (wr ((σ6 k 9) - 1)) σ6) ∧
      (¬ (σ k 9 < 30) →
        Si_add_post k a1 a2 a3 a4 σ (-1) σ)))
theorem Si_add_p : Si_add_vc := by
  intro k a b c d σ hH hp
  obtain ⟨rfl, hc, hb⟩ := hp
  have no : ¬ (0 ≤ a ∧ a < 10 ∧ σ 19 9 < 30) → Si_add_post 19 a b c d σ (-1) σ := by
    intro h; unfold Si_add_post; rw [if_neg h]; exact ⟨rfl, rfl⟩
  refine ⟨fun h => no (by omega), fun h => ⟨fun h2 => no (by omega), fun h2 => ⟨fun h3 => ⟨⟨by omega, by omega⟩, ?_⟩, fun h3 => no (by omega)⟩⟩⟩
  rintro σ1 rfl
  rw [hp_ne (show (19 : Nat) ≠ 19 + 1 by decide)]
  refine ⟨⟨by omega, by omega⟩, ?_⟩
  rintro σ2 rfl
  rw [hp_ne (show (19 : Nat) ≠ 19 + 2 by decide), hp_ne (show (19 : Nat) ≠ 19 + 1 by decide)]
  refine ⟨⟨by omega, by omega⟩, hb, ?_⟩
  rintro σ3 rfl
  rw [hp_ne (show (19 : Nat) ≠ 19 + 3 by decide), hp_ne (show (19 : Nat) ≠ 19 + 2 by decide), hp_ne (show (19 : Nat) ≠ 19 + 1 by decide)]
  refine ⟨⟨by omega, by omega⟩, ?_⟩
  rintro σ4 rfl
  rw [hp_ne (show (19 : Nat) ≠ 19 + 4 by decide), hp_ne (show (19 : Nat) ≠ 19 + 3 by decide), hp_ne (show (19 : Nat) ≠ 19 + 2 by decide), hp_ne (show (19 : Nat) ≠ 19 + 1 by decide)]
  refine ⟨⟨by omega, by omega⟩, ?_⟩
  rintro σ5 rfl
  rw [hp_ne (show (19 : Nat) ≠ 19 + 5 by decide), hp_ne (show (19 : Nat) ≠ 19 + 4 by decide), hp_ne (show (19 : Nat) ≠ 19 + 3 by decide), hp_ne (show (19 : Nat) ≠ 19 + 2 by decide), hp_ne (show (19 : Nat) ≠ 19 + 1 by decide)]
  rintro σ6 rfl
  rw [hp_r1, wr1 (by omega) (by omega), wr_id (by omega) (by omega)]
  unfold Si_add_post
  rw [if_pos ⟨by omega, by omega, h3⟩]
  refine ⟨by omega, Fr.hp (Fr.hp (Fr.hp (Fr.hp (Fr.hp (Fr.hp Fr.rf (by simp [sgc])) (by simp [sgc])) (by simp [sgc])) (by simp [sgc])) (by simp [sgc])) (by simp [sgc]), hp_r1, by simp [hp_rd], ⟨by simp [hp_rd], by simp [hp_rd], by simp [hp_rd], by simp [hp_rd], by simp [hp_rd]⟩, fun q q1 q2 i hi => ?_⟩
  rw [hp_r2 (by omega), hp_r2 (by omega), hp_r2 (by omega), hp_r2 (by omega), hp_r2 (by omega), hp_r2 (by omega)]
def Si_add_I : List AV → Hp → Nat → Nat → List AV → List AV → Hp → Prop := fun as σ0 pc n st ls σ => (match as with
    | [.inr (.inr (.inl (k, 0, 6))), .inl a1, .inl a2, .inl a3, .inl a4] => False
    | _ => False)
def Si_add_ct : Nat → Ct := fun n => match n with
  | _ => Si_add_cs
set_option maxRecDepth 20000 in
set_option maxHeartbeats 4000000 in
theorem Si_add_met {l : Launch} {D : va_G} {ad : Nat → Nat} {ca : Nat → ClassId} {L : Nat} {fx : Nat → Int} : ax_MC l D ad ca L fx yX6_add cX6_add 5 (some .int) 1 Si_add_cs := by
  refine ax_met (oc := 6) (ct := Si_add_ct) (calls := Si_add_cl) (bs := Si_add_bk) (cut := fun pc => false) (f := 4) (I := Si_add_I) (by decide) rfl rfl Si_add_ck (fun _ h => absurd h List.not_mem_nil) ?_ ?_
  · intro as σ0 hp hH
    match as, hp with
    | [.inr (.inr (.inl (k, 0, 6))), .inl a1, .inl a2, .inl a3, .inl a4], hp => exact ⟨rfl, Si_add_p k a1 a2 a3 a4 σ0 hH hp⟩
  · intro as σ0 hp n pc st ls σ hH hI
    match as, hp, hI with
    | [.inr (.inr (.inl (k, 0, 6))), .inl a1, .inl a2, .inl a3, .inl a4], hp, hI => exact False.elim hI
def Si_takeBack_pre (k : Nat) (_a _b : Int) (σ : Hp) : Prop := k = 19 ∧ (0 ≤ σ 19 9 ∧ σ 19 9 ≤ 30)
def Si_takeBack_post (_k : Nat) (a b : Int) (σ : Hp) (r : Int) (σ' : Hp) : Prop := if 0 ≤ a ∧ a < σ 19 9 ∧ σ 24 a.toNat = -1 then r = 1 ∧ σ' = hp σ 24 a.toNat b else r = 0 ∧ σ' = σ
def Si_takeBack_bk : List (Nat × List Item) := [(0, [(.iload_n 1, 1, [], []), (.ifCond .lt 21, 3, [22], []), (.iload_n 1, 1, [], []), (.aload_n 0, 1, [], []), (.getfield 45, 3, [6, 9, 0, 0, 0, 0], []), (.if_icmp .ge 13, 3, [22], []), (.aload_n 0, 1, [], []), (.getfield 25, 3, [6, 4, 4, 5, 1, 30], []), (.iload_n 1, 1, [], []), (.iaload, 1, [], []), (.iconst (-1), 1, [], []), (.if_icmp .eq 5, 3, [24], [])]),
  (22, [(.iconst 0, 1, [], []), (.ireturn, 1, [], [])]),
  (24, [(.aload_n 0, 1, [], []), (.getfield 25, 3, [6, 4, 4, 5, 1, 30], []), (.iload_n 1, 1, [], []), (.iload_n 2, 1, [], []), (.iastore, 1, [], []), (.iconst 1, 1, [], []), (.ireturn, 1, [], [])])]
def Si_takeBack_cl : List (Instr × Nat) := []
set_option maxRecDepth 20000 in
theorem Si_takeBack_ck : Si_takeBack_bk.all (fun b => ax_chB 6 3 cX6_takeBack Si_takeBack_cl b.1 b.2) = true := by decide +kernel
def Si_takeBack_cs : Ct := (3, 7, 2, (0, 0), fun as σ => (match as with
    | [.inr (.inr (.inl (k, 0, 6))), .inl a1, .inl a2] => Si_takeBack_pre k a1 a2 σ
    | _ => False), fun as σ r σ' => (match as with
    | [.inr (.inr (.inl (k, 0, 6))), .inl a1, .inl a2] => Si_takeBack_post k a1 a2 σ r σ'
    | _ => False))
theorem Si_takeBack_w : ∀ w ∈ ([.instanceMethod yX6_takeBack, .selects yX6_takeBack.cls yX6_takeBack yX6_takeBack, .initialized yX6_takeBack.cls, .code yX6_takeBack cX6_takeBack 3 (some .boolean)] : List Cond), w ∈ ax_tb := ax_w4 (ax_m5 66 (by decide +kernel) rfl) (ax_m5 67 (by decide +kernel) rfl) (ax_m1 7 (by decide +kernel) rfl) (ax_m5 68 (by decide +kernel) rfl)
theorem Si_takeBack_ds : yX6_takeBack.cls ≠ "java/lang/invoke/MethodHandle" ∧ yX6_takeBack.cls ≠ "java/lang/invoke/VarHandle" ∧ (parseMethodDescriptor yX6_takeBack.desc).map (fun d => d.parameters.length) = some 2 := by decide +kernel
def Si_takeBack_vc : Prop := ∀ (k : Nat) (a1 : Int) (a2 : Int) (σ : Hp), ax_H σ → Si_takeBack_pre k a1 a2 σ →
  (a1 < 0 →
    ((0 : Int) = 0 ∨ (0 : Int) = 1) ∧ Si_takeBack_post k a1 a2 σ 0 σ) ∧
  (¬ (a1 < 0) →
    (σ k 9 ≤ a1 →
      ((0 : Int) = 0 ∨ (0 : Int) = 1) ∧ Si_takeBack_post k a1 a2 σ 0 σ) ∧
    (¬ (σ k 9 ≤ a1) →
      (0 ≤ a1 ∧ a1 < 30) ∧
      (σ (k + 5) a1.toNat = (-1) →
        (0 ≤ a1 ∧ a1 < 30) ∧
        ∀ σ1 : Hp, σ1 = hp σ (k + 5) a1.toNat a2 →
        ((1 : Int) = 0 ∨ (1 : Int) = 1) ∧ Si_takeBack_post k a1 a2 σ 1 σ1) ∧
      (¬ (σ (k + 5) a1.toNat = (-1)) →
        ((0 : Int) = 0 ∨ (0 : Int) = 1) ∧ Si_takeBack_post k a1 a2 σ 0 σ)))
theorem Si_takeBack_p : Si_takeBack_vc := by
  intro k a b σ hH hp
  obtain ⟨rfl, hc⟩ := hp
  have no : ¬ (0 ≤ a ∧ a < σ 19 9 ∧ σ 24 a.toNat = -1) → Si_takeBack_post 19 a b σ 0 σ := by
    intro h; unfold Si_takeBack_post; rw [if_neg h]; exact ⟨rfl, rfl⟩
  refine ⟨fun h => ⟨Or.inl rfl, no (by omega)⟩, fun h => ⟨fun h2 => ⟨Or.inl rfl, no (by omega)⟩, fun h2 => ⟨⟨by omega, by omega⟩, fun h3 => ⟨⟨by omega, by omega⟩, ?_⟩, fun h3 => ⟨Or.inl rfl, no (fun z => h3 z.2.2)⟩⟩⟩⟩
  rintro σ1 rfl
  refine ⟨Or.inr rfl, ?_⟩
  unfold Si_takeBack_post
  rw [if_pos ⟨by omega, by omega, h3⟩]
  exact ⟨rfl, rfl⟩
def Si_takeBack_I : List AV → Hp → Nat → Nat → List AV → List AV → Hp → Prop := fun as σ0 pc n st ls σ => (match as with
    | [.inr (.inr (.inl (k, 0, 6))), .inl a1, .inl a2] => False
    | _ => False)
def Si_takeBack_ct : Nat → Ct := fun n => match n with
  | _ => Si_takeBack_cs
set_option maxRecDepth 20000 in
set_option maxHeartbeats 4000000 in
theorem Si_takeBack_met {l : Launch} {D : va_G} {ad : Nat → Nat} {ca : Nat → ClassId} {L : Nat} {fx : Nat → Int} : ax_MC l D ad ca L fx yX6_takeBack cX6_takeBack 3 (some .boolean) 1 Si_takeBack_cs := by
  refine ax_met (oc := 6) (ct := Si_takeBack_ct) (calls := Si_takeBack_cl) (bs := Si_takeBack_bk) (cut := fun pc => false) (f := 4) (I := Si_takeBack_I) (by decide) rfl rfl Si_takeBack_ck (fun _ h => absurd h List.not_mem_nil) ?_ ?_
  · intro as σ0 hp hH
    match as, hp with
    | [.inr (.inr (.inl (k, 0, 6))), .inl a1, .inl a2], hp => exact ⟨rfl, Si_takeBack_p k a1 a2 σ0 hH hp⟩
  · intro as σ0 hp n pc st ls σ hH hI
    match as, hp, hI with
    | [.inr (.inr (.inl (k, 0, 6))), .inl a1, .inl a2], hp, hI => exact False.elim hI
