-- THE FAMILY: growth of all, news, a day, the beginning
def sg (k q : Nat) : List Nat := [k + 7, k + 10, k + 11, k + 14, k + 15, q, q + 1, q + 2]
theorem sc_sg {k q : Nat} {σ σ' : Hp} (h : Fr (sc k) σ σ') : Fr (sg k q) σ σ' := h.mono (by simp [sc, sg])
theorem FK_sg {k q : Nat} {σ σ' : Hp} (hk : FO k) (hq : SO q) (hf : Fr (sg k q) σ σ') : FK k σ σ' := FK.of hk hf (by simp [sc, sg]) hq
def SD (σ : Hp) (q : Nat) : Prop := 0 ≤ σ q 3 ∧ σ q 3 < 1000000 ∧ 0 ≤ σ q 4 ∧ σ q 4 < 1000
theorem kq_ne {k q : Nat} (hk : FO k) (hq : SO q) : ∀ d e, d < 16 → e < 3 → k + d ≠ q + e := by
  intro d e hd he
  rcases hk with rfl | rfl <;> rcases hq with rfl | rfl | rfl <;> omega
def Fa_grow_pre (k q : Nat) (σ : Hp) : Prop := FO k ∧ SO q ∧ FS σ k ∧ SS σ q
def Fa_grow_post (k q : Nat) (σ : Hp) (σ' : Hp) : Prop := Fr [k + 7, k + 10, k + 11, k + 14, k + 15, q + 1] σ σ' ∧ ∀ j, j < 6 → σ' (q + 1) j = grA (famX σ k) (stX σ q) j
def Fa_grow_I13 (k q : Nat) (σ0 : Hp) (n : Nat) (v2 : Int) (σ : Hp) : Prop := ∃ i : Nat, v2 = i ∧ i ≤ fN (famX σ0 k) ∧ n = 20 - i ∧ Fr ((k + 7) :: sc k) σ0 σ ∧ ¬ σ0 (k + 12) 5 = 0 ∧ ∀ j, j < i → σ (k + 7) j = grA (famX σ0 k) (stX σ0 q) j
def Fa_grow_I53 (k q : Nat) (σ0 : Hp) (n : Nat) (v2 : Int) (σ : Hp) : Prop := ∃ i : Nat, v2 = i ∧ i ≤ fN (famX σ0 k) ∧ n = 6 - i ∧ Fr [k + 7, k + 10, k + 11, k + 14, k + 15, q + 1] σ0 σ ∧ (∀ j, j < fN (famX σ0 k) → σ (k + 7) j = grA (famX σ0 k) (stX σ0 q) j) ∧ ∀ j, j < 6 → σ (q + 1) j = if j < i then grA (famX σ0 k) (stX σ0 q) j else σ0 (q + 1) j
def Fa_grow_bk : List (Nat × List Item) := [(0, [(.aload_n 0, 1, [], []), (.getfield 41, 3, [1, 8, 4, 12, 0, 2], []), (.getfield 101, 3, [2, 5, 1, 0, 0, 0], []), (.ifCond .ne 4, 3, [11], []), (.return_, 1, [], [])]),
  (11, [(.iconst 0, 1, [], []), (.istore_n 2, 1, [], [])]),
  (13, [(.iload_n 2, 1, [], []), (.aload_n 0, 1, [], []), (.getfield 51, 3, [1, 9, 0, 0, 0, 0], []), (.if_icmp .ge 33, 3, [51], []), (.iload_n 2, 1, [], []), (.bipush 6, 2, [], []), (.if_icmp .ge 27, 3, [51], []), (.aload_n 0, 1, [], []), (.getfield 31, 3, [1, 6, 4, 7, 1, 6], []), (.iload_n 2, 1, [], []), (.aload_n 0, 1, [], []), (.aload_n 1, 1, [], []), (.iload_n 2, 1, [], []), (.aload_n 1, 1, [], []), (.getfield 78, 3, [7, 1, 4, 2, 1, 6], []), (.iload_n 2, 1, [], []), (.iaload, 1, [], []), (.invokevirtual 115, 3, [0], []), (.iastore, 1, [], []), (.iinc 2 1, 3, [], []), (.goto (-35), 3, [13], [])]),
  (51, [(.iconst 0, 1, [], []), (.istore_n 2, 1, [], [])]),
  (53, [(.iload_n 2, 1, [], []), (.aload_n 0, 1, [], []), (.getfield 51, 3, [1, 9, 0, 0, 0, 0], []), (.if_icmp .ge 27, 3, [85], []), (.iload_n 2, 1, [], []), (.bipush 6, 2, [], []), (.if_icmp .ge 21, 3, [85], []), (.aload_n 1, 1, [], []), (.getfield 73, 3, [7, 0, 4, 1, 1, 6], []), (.iload_n 2, 1, [], []), (.aload_n 0, 1, [], []), (.getfield 31, 3, [1, 6, 4, 7, 1, 6], []), (.iload_n 2, 1, [], []), (.iaload, 1, [], []), (.iastore, 1, [], []), (.iinc 2 1, 3, [], []), (.goto (-29), 3, [53], [])]),
  (85, [(.return_, 1, [], [])])]
def Fa_grow_cl : List (Instr × Nat) := [(.invokevirtual 115, 0)]
set_option maxRecDepth 20000 in
theorem Fa_grow_ck : Fa_grow_bk.all (fun b => ax_chB 1 3 cX1_grow Fa_grow_cl b.1 b.2) = true := by decide +kernel
def Fa_grow_cs : Ct := (2, 2, 0, (0, 0), fun as σ => (match as with
    | [.inr (.inr (.inl (k, 0, 1))), .inr (.inr (.inl (q1, 0, 7)))] => Fa_grow_pre k q1 σ
    | _ => False), fun as σ r σ' => (match as with
    | [.inr (.inr (.inl (k, 0, 1))), .inr (.inr (.inl (q1, 0, 7)))] => Fa_grow_post k q1 σ σ'
    | _ => False))
theorem Fa_grow_w : ∀ w ∈ ([.instanceMethod yX1_grow, .selects yX1_grow.cls yX1_grow yX1_grow, .initialized yX1_grow.cls, .code yX1_grow cX1_grow 3 none] : List Cond), w ∈ ax_tb := ax_w4 (ax_m3 226 (by decide +kernel) rfl) (ax_m3 227 (by decide +kernel) rfl) (ax_m1 8 (by decide +kernel) rfl) (ax_m3 228 (by decide +kernel) rfl)
theorem Fa_grow_ds : yX1_grow.cls ≠ "java/lang/invoke/MethodHandle" ∧ yX1_grow.cls ≠ "java/lang/invoke/VarHandle" ∧ (parseMethodDescriptor yX1_grow.desc).map (fun d => d.parameters.length) = some 1 := by decide +kernel
def Fa_grow_vc : Prop := ∀ (k : Nat) (q1 : Nat) (σ : Hp), ax_H σ → Fa_grow_pre k q1 σ →
  (¬ σ (k + 12) 5 = 0 →
    ∃ n' : Nat, k = k ∧ q1 = q1 ∧ Fa_grow_I13 k q1 σ n' 0 σ) ∧
  (¬ (¬ σ (k + 12) 5 = 0) →
    Fa_grow_post k q1 σ σ)
def Fa_grow_vc13 : Prop := ∀ (k : Nat) (q1 : Nat) (σ0 : Hp), Fa_grow_pre k q1 σ0 → ∀ (n : Nat) (v2 : Int) (σ : Hp), ax_H σ → Fa_grow_I13 k q1 σ0 n v2 σ →
  (σ k 9 ≤ v2 →
    ∃ n' : Nat, n' < n ∧ k = k ∧ q1 = q1 ∧ Fa_grow_I53 k q1 σ0 n' 0 σ) ∧
  (¬ (σ k 9 ≤ v2) →
    (6 ≤ v2 →
      ∃ n' : Nat, n' < n ∧ k = k ∧ q1 = q1 ∧ Fa_grow_I53 k q1 σ0 n' 0 σ) ∧
    (¬ (6 ≤ v2) →
      (0 ≤ v2 ∧ v2 < 6) ∧
      Fa_grownCare_pre k q1 v2 (σ (q1 + 2) v2.toNat) σ ∧
      ∀ (r2 : Int) (σ1 : Hp), Fa_grownCare_post k q1 v2 (σ (q1 + 2) v2.toNat) σ r2 σ1 →
      (0 ≤ v2 ∧ v2 < 6) ∧
      ∀ σ3 : Hp, σ3 = hp σ1 (k + 7) v2.toNat r2 →
      ∃ n' : Nat, n' < n ∧ k = k ∧ q1 = q1 ∧ Fa_grow_I13 k q1 σ0 n' (wr (v2 + 1)) σ3))
def Fa_grow_vc53 : Prop := ∀ (k : Nat) (q1 : Nat) (σ0 : Hp), Fa_grow_pre k q1 σ0 → ∀ (n : Nat) (v2 : Int) (σ : Hp), ax_H σ → Fa_grow_I53 k q1 σ0 n v2 σ →
  (σ k 9 ≤ v2 →
    Fa_grow_post k q1 σ0 σ) ∧
  (¬ (σ k 9 ≤ v2) →
    (6 ≤ v2 →
      Fa_grow_post k q1 σ0 σ) ∧
    (¬ (6 ≤ v2) →
      (0 ≤ v2 ∧ v2 < 6) ∧
      (0 ≤ v2 ∧ v2 < 6) ∧
      ∀ σ1 : Hp, σ1 = hp σ (q1 + 1) v2.toNat (σ (k + 7) v2.toNat) →
      ∃ n' : Nat, n' < n ∧ k = k ∧ q1 = q1 ∧ Fa_grow_I53 k q1 σ0 n' (wr (v2 + 1)) σ1))
theorem Fa_grow_p : Fa_grow_vc := by
  intro k q σ hH hp
  obtain ⟨hk, hq, hF, hS⟩ := hp
  refine ⟨fun h => ⟨20, rfl, rfl, 0, rfl, Nat.zero_le _, rfl, Fr.rf, h, fun j hj => absurd hj (Nat.not_lt_zero j)⟩, fun h => ⟨Fr.rf, fun j hj => ?_⟩⟩
  unfold grA grc
  rw [if_neg (show ¬ ¬ (fGro (famX σ k)).1 = 0 from h)]
  show _ = if _ then tr 6 (σ (q + 1)) j else tr 6 (σ (q + 1)) j
  rw [tr_in hj]; simp
theorem Fa_grow_p13 : Fa_grow_vc13 := by
  intro k q σ0 hp n v2 σ hH hI
  obtain ⟨hk, hq, hF, hS⟩ := hp
  obtain ⟨i, rfl, hi, rfl, hf, ht, hg⟩ := hI
  have hK : FK k σ0 σ := FK.of hk hf (by simp [sc]) hq
  have hne := kq_ne hk hq
  have hst : ∀ d, d < 3 → σ (q + d) = σ0 (q + d) := fun d hd => hf _ (by
    have h1 := hne 7 d (by omega) hd
    have h2 := hne 10 d (by omega) hd
    have h3 := hne 11 d (by omega) hd
    have h4 := hne 14 d (by omega) hd
    have h5 := hne 15 d (by omega) hd
    simp only [sc, List.mem_cons, List.not_mem_nil, or_false]; omega)
  have e9 : σ k 9 = (fN (famX σ0 k) : Int) := by
    rw [hK.1]; show _ = ((σ0 k 9).toNat : Int); have := hF.1; omega
  have hN : fN (famX σ0 k) ≤ 6 := by show (σ0 k 9).toNat ≤ 6; have := hF.1; omega
  rw [e9]
  have fin : (fN (famX σ0 k) : Int) ≤ (i : Int) → ∃ n' : Nat, n' < 20 - i ∧ k = k ∧ q = q ∧ Fa_grow_I53 k q σ0 n' 0 σ := by
    intro h
    have : i = fN (famX σ0 k) := by omega
    subst this
    exact ⟨6, by omega, rfl, rfl, 0, rfl, Nat.zero_le _, rfl, hf.mono (by simp [sc]), hg, fun j hj => by rw [if_neg (Nat.not_lt_zero j), hst 1 (by omega)]⟩
  refine ⟨fin, fun h => ⟨fun h2 => absurd h2 (by omega), fun h2 => ⟨⟨by omega, by omega⟩, ?_⟩⟩⟩
  have hs := (hS i (by omega)).2
  rw [hst 2 (by omega), Int.toNat_natCast]
  refine ⟨⟨hk, hq, by omega, by omega, hs.1, hs.2, hK.fs hF, SS_eq hst hS⟩, ?_⟩
  rintro r σ1 ⟨hf1, rfl⟩
  refine ⟨⟨by omega, by omega⟩, ?_⟩
  rintro σ3 rfl
  rw [hK.fam, stX_eq hst, Int.toNat_natCast, wr1 (by omega) (by omega)]
  refine ⟨20 - (i + 1), by omega, rfl, rfl, i + 1, by simp, by omega, rfl, Fr.hp (hf.tr (hf1.mono (by simp [sc]))) (by simp [sc]), ht, ?_⟩
  intro j hj
  have e7 : ∀ j, j < i → σ1 (k + 7) j = grA (famX σ0 k) (stX σ0 q) j := fun j hj => by
    rw [hf1 (k + 7) (by simp [sc])]; exact hg j hj
  rw [hp_rd]
  by_cases hji : j = i
  · subst hji
    rw [if_pos ⟨rfl, rfl⟩]
    unfold grA
    rw [if_pos (by omega)]
    show _ = grc _ _ _ (tr 6 (σ0 (q + 2)) j)
    rw [tr_in (by omega)]
  · rw [if_neg (by omega)]; exact e7 j (by omega)
theorem Fa_grow_p53 : Fa_grow_vc53 := by
  intro k q σ0 hp n v2 σ hH hI
  obtain ⟨hk, hq, hF, hS⟩ := hp
  obtain ⟨i, rfl, hi, rfl, hf, hg, hr⟩ := hI
  have hK := FK_sg hk hq (hf.mono (by simp [sg]))
  have hne := kq_ne hk hq
  have e9 : σ k 9 = (fN (famX σ0 k) : Int) := by
    rw [hK.1]; show _ = ((σ0 k 9).toNat : Int); have := hF.1; omega
  have hN : fN (famX σ0 k) ≤ 6 := by show (σ0 k 9).toNat ≤ 6; have := hF.1; omega
  rw [e9]
  have fin : (fN (famX σ0 k) : Int) ≤ (i : Int) → Fa_grow_post k q σ0 σ := by
    intro h
    have : i = fN (famX σ0 k) := by omega
    subst this
    refine ⟨hf, fun j hj => ?_⟩
    rw [hr j hj]
    by_cases hjn : j < fN (famX σ0 k)
    · rw [if_pos hjn]
    · rw [if_neg hjn]
      unfold grA
      rw [if_neg hjn]
      exact (tr_in hj).symm
  refine ⟨fin, fun h => ⟨fun h2 => absurd h2 (by omega), fun h2 => ⟨⟨by omega, by omega⟩, ⟨by omega, by omega⟩, ?_⟩⟩⟩
  rintro σ1 rfl
  rw [wr1 (by omega) (by omega), Int.toNat_natCast]
  have h71 := hne 7 1 (by omega) (by omega)
  refine ⟨6 - (i + 1), by omega, rfl, rfl, i + 1, by simp, by omega, rfl, Fr.hp hf (by simp), fun j hj => by rw [hp_ne h71]; exact hg j hj, ?_⟩
  intro j hj
  rw [hp_rd]
  by_cases hji : j = i
  · subst hji
    rw [if_pos ⟨rfl, rfl⟩, if_pos (by omega), hg j (by omega)]
  · rw [if_neg (by omega), hr j hj]
    by_cases hlt : j < i
    · rw [if_pos hlt, if_pos (by omega)]
    · rw [if_neg hlt, if_neg (by omega)]
def Fa_grow_I : List AV → Hp → Nat → Nat → List AV → List AV → Hp → Prop := fun as σ0 pc n st ls σ => (match as with
    | [.inr (.inr (.inl (k, 0, 1))), .inr (.inr (.inl (q1, 0, 7)))] => (bif Nat.beq pc 13 then (match st, ls with
      | [], [.inr (.inr (.inl (k', 0, 1))), .inr (.inr (.inl (q1', 0, 7))), .inl v2] => k = k' ∧ q1 = q1' ∧ Fa_grow_I13 k q1 σ0 n v2 σ
      | _, _ => False) else (bif Nat.beq pc 53 then (match st, ls with
      | [], [.inr (.inr (.inl (k', 0, 1))), .inr (.inr (.inl (q1', 0, 7))), .inl v2] => k = k' ∧ q1 = q1' ∧ Fa_grow_I53 k q1 σ0 n v2 σ
      | _, _ => False) else False))
    | _ => False)
def Fa_grow_ct : Nat → Ct := fun n => match n with
  | 0 => Fa_grownCare_cs
  | _ => Fa_grow_cs
set_option maxRecDepth 20000 in
set_option maxHeartbeats 4000000 in
theorem Fa_grow_met {l : Launch} {D : va_G} {ad : Nat → Nat} {ca : Nat → ClassId} {L : Nat} {fx : Nat → Int} : ax_MC l D ad ca L fx yX1_grow cX1_grow 3 none 4 Fa_grow_cs := by
  refine ax_met (oc := 1) (ct := Fa_grow_ct) (calls := Fa_grow_cl) (bs := Fa_grow_bk) (cut := fun pc => Nat.beq pc 13 || Nat.beq pc 53) (f := 7) (I := Fa_grow_I) (by decide) rfl rfl Fa_grow_ck (List.forall_mem_cons.mpr ⟨ax_cwV Fa_grownCare_met (by decide) (by decide) rfl (by decide) rfl (ax_m3 229 (by decide +kernel) rfl) Fa_grownCare_w rfl Fa_grownCare_ds, fun _ h => absurd h List.not_mem_nil⟩) ?_ ?_
  · intro as σ0 hp hH
    match as, hp with
    | [.inr (.inr (.inl (k, 0, 1))), .inr (.inr (.inl (q1, 0, 7)))], hp => exact ⟨rfl, Fa_grow_p k q1 σ0 hH hp⟩
  · intro as σ0 hp n pc st ls σ hH hI
    match as, hp, hI with
    | [.inr (.inr (.inl (k, 0, 1))), .inr (.inr (.inl (q1, 0, 7)))], hp, hI =>
      rcases ax_bifE hI with ⟨hpc, hI⟩ | ⟨-, hI⟩
      · have := Nat.eq_of_beq_eq_true hpc
        subst this
        match st, ls, hI with
        | [], [.inr (.inr (.inl (k', 0, 1))), .inr (.inr (.inl (q1', 0, 7))), .inl v2], hI =>
          obtain ⟨rfl, rfl, hI⟩ := hI
          exact Fa_grow_p13 k q1 σ0 hp n v2 σ hH hI
      rcases ax_bifE hI with ⟨hpc, hI⟩ | ⟨-, hI⟩
      · have := Nat.eq_of_beq_eq_true hpc
        subst this
        match st, ls, hI with
        | [], [.inr (.inr (.inl (k', 0, 1))), .inr (.inr (.inl (q1', 0, 7))), .inl v2], hI =>
          obtain ⟨rfl, rfl, hI⟩ := hI
          exact Fa_grow_p53 k q1 σ0 hp n v2 σ hH hI
      exact False.elim hI

theorem hp_self (σ : Hp) (k j : Nat) : hp σ k j (σ k j) = σ := by
  funext k' j'
  rw [hp_rd]
  split
  · rename_i h; rw [h.1, h.2]
  · rfl
theorem hp_hp (σ : Hp) (k j : Nat) (a b : Int) : hp (hp σ k j a) k j b = hp σ k j b := by
  funext k' j'
  simp only [hp_rd]
  split <;> rfl
theorem dn_R {F : Fam} {seed : Int} (h : 0 ≤ seed ∧ seed < 1000) (i : Nat) : (dn F seed i).1 < 2 ^ i ∧ 0 ≤ (dn F seed i).2 ∧ (dn F seed i).2 < 1000 := by
  induction i with
  | zero => exact ⟨by simp [dn], h.1, h.2⟩
  | succ i ih =>
    have h2 : 2 ^ i < 2 ^ (i + 1) := Nat.pow_lt_pow_right (by decide) (by omega)
    unfold dn
    split
    · exact ⟨by omega, ih.2⟩
    · refine ⟨?_, by simp only; omega, by simp only; omega⟩
      simp only
      split
      · exact Nat.or_lt_two_pow (by omega) h2
      · omega
theorem dn_s (F : Fam) (seed : Int) (i : Nat) : dn F seed (i + 1) = if fAmt F i ≤ 0 then dn F seed i else
    ((if ((dn F seed i).2 * 137 + 71) % 1000 % 100 < fOdd F i then (dn F seed i).1 ||| 2 ^ i else (dn F seed i).1), ((dn F seed i).2 * 137 + 71) % 1000) := rfl
def Fa_drawNews_pre (k q : Nat) (σ : Hp) : Prop := FO k ∧ SO q ∧ FS σ k ∧ SD σ q
def Fa_drawNews_post (k q : Nat) (σ : Hp) (r : Int) (σ' : Hp) : Prop := σ' = hp σ q 4 (dn (famX σ k) (σ q 4) (fN (famX σ k))).2 ∧ r = ((dn (famX σ k) (σ q 4) (fN (famX σ k))).1 : Nat)
def Fa_drawNews_I4 (k q : Nat) (σ0 : Hp) (n : Nat) (v2 v3 : Int) (σ : Hp) : Prop := ∃ i : Nat, v3 = i ∧ i ≤ fN (famX σ0 k) ∧ n = 6 - i ∧ σ = hp σ0 q 4 (dn (famX σ0 k) (σ0 q 4) i).2 ∧ v2 = ((dn (famX σ0 k) (σ0 q 4) i).1 : Nat)
def Fa_drawNews_bk : List (Nat × List Item) := [(0, [(.iconst 0, 1, [], []), (.istore_n 2, 1, [], []), (.iconst 0, 1, [], []), (.istore_n 3, 1, [], [])]),
  (4, [(.iload_n 3, 1, [], []), (.aload_n 0, 1, [], []), (.getfield 51, 3, [1, 9, 0, 0, 0, 0], []), (.if_icmp .ge 67, 3, [76], []), (.iload_n 3, 1, [], []), (.bipush 6, 2, [], []), (.if_icmp .ge 61, 3, [76], []), (.aload_n 0, 1, [], []), (.iload_n 3, 1, [], []), (.invokevirtual 119, 3, [0], []), (.ifCond .ne 6, 3, [29], []), (.goto 44, 3, [70], [])]),
  (29, [(.aload_n 1, 1, [], []), (.aload_n 1, 1, [], []), (.getfield 84, 3, [7, 4, 0, 0, 0, 0], []), (.sipush 137, 3, [], []), (.imul, 1, [], []), (.bipush 71, 2, [], []), (.iadd, 1, [], []), (.sipush 1000, 3, [], []), (.irem, 1, [], []), (.putfield 84, 3, [7, 4, 0, 0, 0, 0], []), (.aload_n 1, 1, [], []), (.getfield 84, 3, [7, 4, 0, 0, 0, 0], []), (.bipush 100, 2, [], []), (.irem, 1, [], []), (.aload_n 0, 1, [], []), (.getfield 25, 3, [1, 4, 4, 5, 1, 6], []), (.iload_n 3, 1, [], []), (.iaload, 1, [], []), (.if_icmp .ge 9, 3, [70], []), (.iload_n 2, 1, [], []), (.iconst 1, 1, [], []), (.iload_n 3, 1, [], []), (.ishl, 1, [], []), (.ior, 1, [], []), (.istore_n 2, 1, [], [])]),
  (70, [(.iinc 3 1, 3, [], []), (.goto (-69), 3, [4], [])]),
  (76, [(.iload_n 2, 1, [], []), (.ireturn, 1, [], [])])]
def Fa_drawNews_cl : List (Instr × Nat) := [(.invokevirtual 119, 0)]
set_option maxRecDepth 20000 in
theorem Fa_drawNews_ck : Fa_drawNews_bk.all (fun b => ax_chB 1 4 cX1_drawNews Fa_drawNews_cl b.1 b.2) = true := by decide +kernel
def Fa_drawNews_cs : Ct := (2, 2, 1, (0, 0), fun as σ => (match as with
    | [.inr (.inr (.inl (k, 0, 1))), .inr (.inr (.inl (q1, 0, 7)))] => Fa_drawNews_pre k q1 σ
    | _ => False), fun as σ r σ' => (match as with
    | [.inr (.inr (.inl (k, 0, 1))), .inr (.inr (.inl (q1, 0, 7)))] => Fa_drawNews_post k q1 σ r σ'
    | _ => False))
theorem Fa_drawNews_w : ∀ w ∈ ([.instanceMethod yX1_drawNews, .selects yX1_drawNews.cls yX1_drawNews yX1_drawNews, .initialized yX1_drawNews.cls, .code yX1_drawNews cX1_drawNews 4 (some .int)] : List Cond), w ∈ ax_tb := ax_w4 (ax_m3 234 (by decide +kernel) rfl) (ax_m3 235 (by decide +kernel) rfl) (ax_m1 8 (by decide +kernel) rfl) (ax_m3 236 (by decide +kernel) rfl)
theorem Fa_drawNews_ds : yX1_drawNews.cls ≠ "java/lang/invoke/MethodHandle" ∧ yX1_drawNews.cls ≠ "java/lang/invoke/VarHandle" ∧ (parseMethodDescriptor yX1_drawNews.desc).map (fun d => d.parameters.length) = some 1 := by decide +kernel
def Fa_drawNews_vc : Prop := ∀ (k : Nat) (q1 : Nat) (σ : Hp), ax_H σ → Fa_drawNews_pre k q1 σ →
  ∃ n' : Nat, k = k ∧ q1 = q1 ∧ Fa_drawNews_I4 k q1 σ n' 0 0 σ
def Fa_drawNews_vc4 : Prop := ∀ (k : Nat) (q1 : Nat) (σ0 : Hp), Fa_drawNews_pre k q1 σ0 → ∀ (n : Nat) (v2 : Int) (v3 : Int) (σ : Hp), ax_H σ → Fa_drawNews_I4 k q1 σ0 n v2 v3 σ →
  (σ k 9 ≤ v3 →
    Fa_drawNews_post k q1 σ0 v2 σ) ∧
  (¬ (σ k 9 ≤ v3) →
    (6 ≤ v3 →
      Fa_drawNews_post k q1 σ0 v2 σ) ∧
    (¬ (6 ≤ v3) →
      Fa_hearsNews_pre k v3 σ ∧
      ∀ (r2 : Int) (σ1 : Hp), Fa_hearsNews_post k v3 σ r2 σ1 →
      (¬ r2 = 0 →
        ¬ (1000 : Int) = 0 ∧
        ∀ σ3 : Hp, σ3 = hp σ1 q1 4 (iRem (wr ((wr ((σ1 q1 4) * 137)) + 71)) 1000) →
        ¬ (100 : Int) = 0 ∧
        (0 ≤ v3 ∧ v3 < 6) ∧
        (σ3 (k + 5) v3.toNat ≤ iRem (σ3 q1 4) 100 →
          ∃ n' : Nat, n' < n ∧ k = k ∧ q1 = q1 ∧ Fa_drawNews_I4 k q1 σ0 n' v2 (wr (v3 + 1)) σ3) ∧
        (¬ (σ3 (k + 5) v3.toNat ≤ iRem (σ3 q1 4) 100) →
          ∃ n' : Nat, n' < n ∧ k = k ∧ q1 = q1 ∧ Fa_drawNews_I4 k q1 σ0 n' (iOr v2 (iShl 1 v3)) (wr (v3 + 1)) σ3)) ∧
      (¬ (¬ r2 = 0) →
        ∃ n' : Nat, n' < n ∧ k = k ∧ q1 = q1 ∧ Fa_drawNews_I4 k q1 σ0 n' v2 (wr (v3 + 1)) σ1)))
theorem Fa_drawNews_p : Fa_drawNews_vc := by
  intro k q σ hH hp
  exact ⟨6, rfl, rfl, 0, rfl, Nat.zero_le _, rfl, (hp_self σ q 4).symm, rfl⟩
theorem Fa_drawNews_p4 : Fa_drawNews_vc4 := by
  intro k q σ0 hp n v2 v3 σ hH hI
  obtain ⟨hk, hq, hF, hD⟩ := hp
  obtain ⟨i, rfl, hi, rfl, rfl, rfl⟩ := hI
  have hne := kq_ne hk hq
  have hkq : k ≠ q := hne 0 0 (by omega) (by omega)
  have h5q : k + 5 ≠ q := hne 5 0 (by omega) (by omega)
  have h6q : k + 6 ≠ q := hne 6 0 (by omega) (by omega)
  have hR := dn_R (F := famX σ0 k) (seed := σ0 q 4) ⟨hD.2.2.1, hD.2.2.2⟩ i
  have e9 : σ0 k 9 = (fN (famX σ0 k) : Int) := by
    show _ = ((σ0 k 9).toNat : Int); have := hF.1; omega
  have hN : fN (famX σ0 k) ≤ 6 := by show (σ0 k 9).toNat ≤ 6; have := hF.1; omega
  rw [hp_ne hkq, e9]
  have fin : (fN (famX σ0 k) : Int) ≤ (i : Int) → Fa_drawNews_post k q σ0 ((dn (famX σ0 k) (σ0 q 4) i).1 : Nat) (hp σ0 q 4 (dn (famX σ0 k) (σ0 q 4) i).2) := by
    intro h
    have : i = fN (famX σ0 k) := by omega
    rw [this]
    exact ⟨rfl, rfl⟩
  refine ⟨fin, fun h => ⟨fun h2 => absurd h2 (by omega), fun h2 => ⟨⟨by omega, by omega⟩, ?_⟩⟩⟩
  have eA : fAmt (famX σ0 k) i = σ0 (k + 6) i := tr_in (by omega)
  have eO : fOdd (famX σ0 k) i = σ0 (k + 5) i := tr_in (by omega)
  rintro r σ1 ⟨rfl, rfl⟩
  rw [hp_ne h6q, Int.toNat_natCast, wr1 (by omega) (by omega)]
  have hds := dn_s (famX σ0 k) (σ0 q 4) i
  rw [eA, eO] at hds
  generalize hd : dn (famX σ0 k) (σ0 q 4) i = dd at *
  refine ⟨fun h4 => ⟨by decide, ?_⟩, fun h4 => ⟨6 - (i + 1), by omega, rfl, rfl, i + 1, by simp, by omega, rfl, ?_, ?_⟩⟩
  · have h40 : ¬ σ0 (k + 6) i ≤ 0 := fun z => h4 (by rw [if_pos z])
    rintro σ3 rfl
    rw [hp_r1, hp_hp]
    have e1 : iRem (wr (wr (dd.2 * 137) + 71)) 1000 = (dd.2 * 137 + 71) % 1000 := by
      rw [show wr (dd.2 * 137) = dd.2 * 137 by unfold wr; omega, show wr (dd.2 * 137 + 71) = dd.2 * 137 + 71 by unfold wr; omega]
      exact iRem_p (b := 1000) (by omega) (by omega) (by omega) (by omega)
    have e2 : iRem ((dd.2 * 137 + 71) % 1000) 100 = (dd.2 * 137 + 71) % 1000 % 100 := iRem_p (b := 100) (by omega) (by omega) (by omega) (by omega)
    rw [e1, hp_r1, hp_ne h5q, e2]
    rw [if_neg h40] at hds
    refine ⟨by decide, ⟨by omega, by omega⟩, fun h5 => ⟨6 - (i + 1), by omega, rfl, rfl, i + 1, by simp, by omega, rfl, ?_, ?_⟩, fun h5 => ⟨6 - (i + 1), by omega, rfl, rfl, i + 1, by simp, by omega, rfl, ?_, ?_⟩⟩
    · rw [hds]
    · rw [hds, if_neg (by omega)]
    · rw [hds]
    · rw [hds, if_pos (by omega)]
      have h6 : 2 ^ i ≤ 2 ^ 6 := Nat.pow_le_pow_right (by decide) (by omega)
      have hs : iShl 1 (i : Int) = ((2 ^ i : Nat) : Int) := shl_1 (j := (i : Int)) (by omega) (by omega)
      rw [hs, iOr_n (by omega) (by omega)]
  · have h40 : σ0 (k + 6) i ≤ 0 := by
      by_cases z : σ0 (k + 6) i ≤ 0
      · exact z
      · exact absurd (by rw [if_neg z]; decide) h4
    rw [hds, if_pos h40]
  · have h40 : σ0 (k + 6) i ≤ 0 := by
      by_cases z : σ0 (k + 6) i ≤ 0
      · exact z
      · exact absurd (by rw [if_neg z]; decide) h4
    rw [hds, if_pos h40]
def Fa_drawNews_I : List AV → Hp → Nat → Nat → List AV → List AV → Hp → Prop := fun as σ0 pc n st ls σ => (match as with
    | [.inr (.inr (.inl (k, 0, 1))), .inr (.inr (.inl (q1, 0, 7)))] => (bif Nat.beq pc 4 then (match st, ls with
      | [], [.inr (.inr (.inl (k', 0, 1))), .inr (.inr (.inl (q1', 0, 7))), .inl v2, .inl v3] => k = k' ∧ q1 = q1' ∧ Fa_drawNews_I4 k q1 σ0 n v2 v3 σ
      | _, _ => False) else False)
    | _ => False)
def Fa_drawNews_ct : Nat → Ct := fun n => match n with
  | 0 => Fa_hearsNews_cs
  | _ => Fa_drawNews_cs
set_option maxRecDepth 20000 in
set_option maxHeartbeats 4000000 in
theorem Fa_drawNews_met {l : Launch} {D : va_G} {ad : Nat → Nat} {ca : Nat → ClassId} {L : Nat} {fx : Nat → Int} : ax_MC l D ad ca L fx yX1_drawNews cX1_drawNews 4 (some .int) 2 Fa_drawNews_cs := by
  refine ax_met (oc := 1) (ct := Fa_drawNews_ct) (calls := Fa_drawNews_cl) (bs := Fa_drawNews_bk) (cut := fun pc => Nat.beq pc 4) (f := 6) (I := Fa_drawNews_I) (by decide) rfl rfl Fa_drawNews_ck (List.forall_mem_cons.mpr ⟨ax_cwV Fa_hearsNews_met (by decide) (by decide) rfl (by decide) rfl (ax_m3 237 (by decide +kernel) rfl) Fa_hearsNews_w rfl Fa_hearsNews_ds, fun _ h => absurd h List.not_mem_nil⟩) ?_ ?_
  · intro as σ0 hp hH
    match as, hp with
    | [.inr (.inr (.inl (k, 0, 1))), .inr (.inr (.inl (q1, 0, 7)))], hp => exact ⟨rfl, Fa_drawNews_p k q1 σ0 hH hp⟩
  · intro as σ0 hp n pc st ls σ hH hI
    match as, hp, hI with
    | [.inr (.inr (.inl (k, 0, 1))), .inr (.inr (.inl (q1, 0, 7)))], hp, hI =>
      rcases ax_bifE hI with ⟨hpc, hI⟩ | ⟨-, hI⟩
      · have := Nat.eq_of_beq_eq_true hpc
        subst this
        match st, ls, hI with
        | [], [.inr (.inr (.inl (k', 0, 1))), .inr (.inr (.inl (q1', 0, 7))), .inl v2, .inl v3], hI =>
          obtain ⟨rfl, rfl, hI⟩ := hI
          exact Fa_drawNews_p4 k q1 σ0 hp n v2 v3 σ hH hI
      exact False.elim hI
theorem grA_R {F : Fam} {s : Sta} (h : ∀ j, 0 ≤ s.1 j ∧ s.1 j ≤ 99) (j : Nat) : 0 ≤ grA F s j ∧ grA F s j ≤ 99 := by
  unfold grA
  split
  · unfold grc
    split
    · exact wth_R _ 99 (by decide)
    · exact h j
  · exact h j
theorem SS_c {σ : Hp} {q : Nat} (h : SS σ q) (j : Nat) : 0 ≤ (stX σ q).1 j ∧ (stX σ q).1 j ≤ 99 := by
  show 0 ≤ tr 6 (σ (q + 1)) j ∧ tr 6 (σ (q + 1)) j ≤ 99
  by_cases hj : j < 6
  · rw [tr_in hj]; exact (h j hj).1
  · rw [tr_out (by omega)]; decide
theorem pssC_R {F : Fam} {s : Sta} {x : Int} (h : ∀ j, 0 ≤ s.1 j ∧ s.1 j ≤ 99) (j : Nat) : 0 ≤ pssC F s x j ∧ pssC F s x j ≤ 99 := by
  unfold pssC
  split
  · exact wth_R _ 99 (by decide)
  · exact grA_R h j
theorem pssC_out {σ : Hp} {k q : Nat} {x : Int} (hN : fN (famX σ k) ≤ 6) {j : Nat} (hj : 6 ≤ j) : pssC (famX σ k) (stX σ q) x j = 0 := by
  unfold pssC grA
  rw [if_neg (by omega), if_neg (by omega)]
  exact tr_out hj
/-- what news a day's argument means, and the seed behind it -/
def nws (F : Fam) (s : Sta) (a : Int) : Int := if a = -1 then ((dn F s.2.2.2.2.1 (fN F)).1 : Nat) else a
def nwd (F : Fam) (s : Sta) (a : Int) : Int := if a = -1 then (dn F s.2.2.2.2.1 (fN F)).2 else s.2.2.2.2.1
def Fa_pass_pre (k q : Nat) (a : Int) (σ : Hp) : Prop := FO k ∧ SO q ∧ FS σ k ∧ SS σ q ∧ SD σ q ∧ (a = -1 ∨ (0 ≤ a ∧ a < 64))
def Fa_pass_post (k q : Nat) (a : Int) (σ : Hp) (σ' : Hp) : Prop := Fr (sg k q) σ σ' ∧ stX σ' q = pss (famX σ k) (stX σ q) (nws (famX σ k) (stX σ q) a) (nwd (famX σ k) (stX σ q) a)
def Fa_pass_I23 (k q : Nat) (a : Int) (σ0 : Hp) (n : Nat) (v3 v4 : Int) (σ : Hp) : Prop :=
  ∃ i : Nat, v4 = i ∧ i ≤ fN (famX σ0 k) ∧ n = 6 - i ∧ Fr (sg k q) σ0 σ ∧ v3 = nws (famX σ0 k) (stX σ0 q) a ∧ σ q 4 = nwd (famX σ0 k) (stX σ0 q) a ∧ (∀ j, j ≠ 4 → σ q j = σ0 q j) ∧ σ (q + 2) = σ0 (q + 2) ∧
    ∀ j, j < 6 → σ (q + 1) j = if j < i then pssC (famX σ0 k) (stX σ0 q) (nws (famX σ0 k) (stX σ0 q) a) j else grA (famX σ0 k) (stX σ0 q) j
def Fa_pass_bk : List (Nat × List Item) := [(0, [(.aload_n 0, 1, [], []), (.aload_n 1, 1, [], []), (.invokevirtual 123, 3, [0], []), (.iload_n 2, 1, [], []), (.iconst (-1), 1, [], []), (.if_icmp .ne 11, 3, [18], []), (.aload_n 0, 1, [], []), (.aload_n 1, 1, [], []), (.invokevirtual 127, 3, [1], []), (.goto 4, 3, [19], [])]),
  (18, [(.iload_n 2, 1, [], [])]),
  (19, [(.istore_n 3, 1, [], []), (.iconst 0, 1, [], []), (.istore 4, 2, [], [])]),
  (23, [(.iload 4, 2, [], []), (.aload_n 0, 1, [], []), (.getfield 51, 3, [1, 9, 0, 0, 0, 0], []), (.if_icmp .ge 40, 3, [69], []), (.iload 4, 2, [], []), (.bipush 6, 2, [], []), (.if_icmp .ge 33, 3, [69], []), (.iload_n 3, 1, [], []), (.iload 4, 2, [], []), (.ishr, 1, [], []), (.iconst 1, 1, [], []), (.iand, 1, [], []), (.iconst 1, 1, [], []), (.if_icmp .ne 17, 3, [63], []), (.aload_n 1, 1, [], []), (.iload 4, 2, [], []), (.aload_n 0, 1, [], []), (.getfield 28, 3, [1, 5, 4, 6, 1, 6], []), (.iload 4, 2, [], []), (.iaload, 1, [], []), (.invokevirtual 131, 3, [2], []), (.pop, 1, [], [])]),
  (63, [(.iinc 4 1, 3, [], []), (.goto (-43), 3, [23], [])]),
  (69, [(.aload_n 1, 1, [], []), (.dup, 1, [], []), (.getfield 81, 3, [7, 3, 0, 0, 0, 0], []), (.iconst 1, 1, [], []), (.iadd, 1, [], []), (.putfield 81, 3, [7, 3, 0, 0, 0, 0], []), (.aload_n 1, 1, [], []), (.invokevirtual 134, 3, [3], []), (.ifCond .ne 13, 3, [96], []), (.aload_n 1, 1, [], []), (.aload_n 0, 1, [], []), (.aload_n 1, 1, [], []), (.iconst (-1), 1, [], []), (.invokevirtual 93, 3, [4], []), (.putfield 90, 3, [7, 2, 0, 0, 0, 0], [])]),
  (96, [(.aload_n 1, 1, [], []), (.iconst 0, 1, [], []), (.putfield 87, 3, [7, 5, 1, 0, 0, 0], []), (.return_, 1, [], [])])]
def Fa_pass_cl : List (Instr × Nat) := [(.invokevirtual 123, 0), (.invokevirtual 127, 1), (.invokevirtual 131, 2), (.invokevirtual 134, 3), (.invokevirtual 93, 4)]
set_option maxRecDepth 20000 in
theorem Fa_pass_ck : Fa_pass_bk.all (fun b => ax_chB 1 5 cX1_pass Fa_pass_cl b.1 b.2) = true := by decide +kernel
def Fa_pass_cs : Ct := (3, 2, 0, (0, 0), fun as σ => (match as with
    | [.inr (.inr (.inl (k, 0, 1))), .inr (.inr (.inl (q1, 0, 7))), .inl a2] => Fa_pass_pre k q1 a2 σ
    | _ => False), fun as σ r σ' => (match as with
    | [.inr (.inr (.inl (k, 0, 1))), .inr (.inr (.inl (q1, 0, 7))), .inl a2] => Fa_pass_post k q1 a2 σ σ'
    | _ => False))
theorem Fa_pass_w : ∀ w ∈ ([.instanceMethod yX1_pass, .selects yX1_pass.cls yX1_pass yX1_pass, .initialized yX1_pass.cls, .code yX1_pass cX1_pass 5 none] : List Cond), w ∈ ax_tb := ax_w4 (ax_m3 222 (by decide +kernel) rfl) (ax_m3 223 (by decide +kernel) rfl) (ax_m1 8 (by decide +kernel) rfl) (ax_m3 224 (by decide +kernel) rfl)
theorem Fa_pass_ds : yX1_pass.cls ≠ "java/lang/invoke/MethodHandle" ∧ yX1_pass.cls ≠ "java/lang/invoke/VarHandle" ∧ (parseMethodDescriptor yX1_pass.desc).map (fun d => d.parameters.length) = some 2 := by decide +kernel
def Fa_pass_vc : Prop := ∀ (k : Nat) (q1 : Nat) (a2 : Int) (σ : Hp), ax_H σ → Fa_pass_pre k q1 a2 σ →
  Fa_grow_pre k q1 σ ∧
  ∀ σ1 : Hp, Fa_grow_post k q1 σ σ1 →
  (¬ a2 = (-1) →
    ∃ n' : Nat, k = k ∧ q1 = q1 ∧ a2 = a2 ∧ Fa_pass_I23 k q1 a2 σ n' a2 0 σ1) ∧
  (¬ (¬ a2 = (-1)) →
    Fa_drawNews_pre k q1 σ1 ∧
    ∀ (r3 : Int) (σ2 : Hp), Fa_drawNews_post k q1 σ1 r3 σ2 →
    ∃ n' : Nat, k = k ∧ q1 = q1 ∧ a2 = a2 ∧ Fa_pass_I23 k q1 a2 σ n' r3 0 σ2)
def Fa_pass_vc23 : Prop := ∀ (k : Nat) (q1 : Nat) (a2 : Int) (σ0 : Hp), Fa_pass_pre k q1 a2 σ0 → ∀ (n : Nat) (v3 : Int) (v4 : Int) (σ : Hp), ax_H σ → Fa_pass_I23 k q1 a2 σ0 n v3 v4 σ →
  (σ k 9 ≤ v4 →
    ∀ σ1 : Hp, σ1 = hp σ q1 3 (wr ((σ q1 3) + 1)) →
    St_holdsFast_pre q1 σ1 ∧
    ∀ (r3 : Int) (σ2 : Hp), St_holdsFast_post q1 σ1 r3 σ2 →
    (¬ r3 = 0 →
      ((0 : Int) = 0 ∨ (0 : Int) = 1) ∧
      ∀ σ4 : Hp, σ4 = hp σ2 q1 5 0 →
      Fa_pass_post k q1 a2 σ0 σ4) ∧
    (¬ (¬ r3 = 0) →
      Fa_mostWorried_pre k q1 (-1) σ2 ∧
      ∀ (r6 : Int) (σ5 : Hp), Fa_mostWorried_post k q1 (-1) σ2 r6 σ5 →
      ∀ σ7 : Hp, σ7 = hp σ5 q1 2 r6 →
      ((0 : Int) = 0 ∨ (0 : Int) = 1) ∧
      ∀ σ8 : Hp, σ8 = hp σ7 q1 5 0 →
      Fa_pass_post k q1 a2 σ0 σ8)) ∧
  (¬ (σ k 9 ≤ v4) →
    (6 ≤ v4 →
      ∀ σ9 : Hp, σ9 = hp σ q1 3 (wr ((σ q1 3) + 1)) →
      St_holdsFast_pre q1 σ9 ∧
      ∀ (r11 : Int) (σ10 : Hp), St_holdsFast_post q1 σ9 r11 σ10 →
      (¬ r11 = 0 →
        ((0 : Int) = 0 ∨ (0 : Int) = 1) ∧
        ∀ σ12 : Hp, σ12 = hp σ10 q1 5 0 →
        Fa_pass_post k q1 a2 σ0 σ12) ∧
      (¬ (¬ r11 = 0) →
        Fa_mostWorried_pre k q1 (-1) σ10 ∧
        ∀ (r14 : Int) (σ13 : Hp), Fa_mostWorried_post k q1 (-1) σ10 r14 σ13 →
        ∀ σ15 : Hp, σ15 = hp σ13 q1 2 r14 →
        ((0 : Int) = 0 ∨ (0 : Int) = 1) ∧
        ∀ σ16 : Hp, σ16 = hp σ15 q1 5 0 →
        Fa_pass_post k q1 a2 σ0 σ16)) ∧
    (¬ (6 ≤ v4) →
      (¬ iAnd (iShr v3 v4) 1 = 1 →
        ∃ n' : Nat, n' < n ∧ k = k ∧ q1 = q1 ∧ a2 = a2 ∧ Fa_pass_I23 k q1 a2 σ0 n' v3 (wr (v4 + 1)) σ) ∧
      (¬ (¬ iAnd (iShr v3 v4) 1 = 1) →
        (0 ≤ v4 ∧ v4 < 6) ∧
        St_change_pre q1 v4 (σ (k + 6) v4.toNat) σ ∧
        ∀ (r18 : Int) (σ17 : Hp), St_change_post q1 v4 (σ (k + 6) v4.toNat) σ r18 σ17 →
        ∃ n' : Nat, n' < n ∧ k = k ∧ q1 = q1 ∧ a2 = a2 ∧ Fa_pass_I23 k q1 a2 σ0 n' v3 (wr (v4 + 1)) σ17)))
theorem Fa_pass_p : Fa_pass_vc := by
  intro k q a σ hH hp
  obtain ⟨hk, hq, hF, hS, hD, ha⟩ := hp
  have hne := kq_ne hk hq
  refine ⟨⟨hk, hq, hF, hS⟩, ?_⟩
  rintro σ1 ⟨hf, hg⟩
  have hf' : Fr (sg k q) σ σ1 := hf.mono (by simp [sg])
  have hq0 : σ1 q = σ q := hf q (by
    have h1 := hne 7 0 (by omega) (by omega)
    have h2 := hne 10 0 (by omega) (by omega)
    have h3 := hne 11 0 (by omega) (by omega)
    have h4 := hne 14 0 (by omega) (by omega)
    have h5 := hne 15 0 (by omega) (by omega)
    simp only [List.mem_cons, List.not_mem_nil, or_false]; omega)
  have hq2 : σ1 (q + 2) = σ (q + 2) := hf (q + 2) (by
    have h1 := hne 7 2 (by omega) (by omega)
    have h2 := hne 10 2 (by omega) (by omega)
    have h3 := hne 11 2 (by omega) (by omega)
    have h4 := hne 14 2 (by omega) (by omega)
    have h5 := hne 15 2 (by omega) (by omega)
    simp only [List.mem_cons, List.not_mem_nil, or_false]; omega)
  have hK := FK_sg hk hq hf'
  refine ⟨fun h => ⟨6, rfl, rfl, rfl, 0, rfl, Nat.zero_le _, rfl, hf', ?_, ?_, fun j _ => by rw [hq0], hq2, fun j hj => by rw [if_neg (Nat.not_lt_zero j)]; exact hg j hj⟩, fun h => ⟨⟨hk, hq, hK.fs hF, by unfold SD; rw [hq0]; exact hD⟩, ?_⟩⟩
  · unfold nws; rw [if_neg h]
  · unfold nwd; rw [if_neg h, hq0]; rfl
  · have h1 : a = -1 := Classical.not_not.mp h
    rintro r σ2 ⟨rfl, rfl⟩
    rw [hK.fam, hq0]
    refine ⟨6, rfl, rfl, rfl, 0, rfl, Nat.zero_le _, rfl, Fr.hp hf' (by simp [sg]), ?_, ?_, fun j hj => by rw [hp_r2 (by omega), hq0], by rw [hp_ne (by omega)]; exact hq2, fun j hj => by rw [if_neg (Nat.not_lt_zero j), hp_ne (by omega)]; exact hg j hj⟩
    · unfold nws; rw [if_pos h1]; rfl
    · unfold nwd; rw [if_pos h1, hp_r1]; rfl
theorem nws_R {F : Fam} {s : Sta} {a : Int} (hN : fN F ≤ 6) (hs : 0 ≤ s.2.2.2.2.1 ∧ s.2.2.2.2.1 < 1000) (ha : a = -1 ∨ (0 ≤ a ∧ a < 64)) : 0 ≤ nws F s a ∧ nws F s a < 64 ∧ 0 ≤ nwd F s a ∧ nwd F s a < 1000 := by
  have hR := dn_R (F := F) hs (fN F)
  have h6 : 2 ^ fN F ≤ 2 ^ 6 := Nat.pow_le_pow_right (by decide) hN
  unfold nws nwd
  by_cases h : a = -1
  · rw [if_pos h, if_pos h]; omega
  · rw [if_neg h, if_neg h]; omega
theorem Fa_pass_p23 : Fa_pass_vc23 := by
  intro k q a σ0 hp n v3 v4 σ hH hI
  obtain ⟨hk, hq, hF, hS, hD, ha⟩ := hp
  obtain ⟨i, rfl, hi, rfl, hf, rfl, h4, hj4, hq2, hr⟩ := hI
  have hne := kq_ne hk hq
  have hK := FK_sg hk hq hf
  have e9 : σ k 9 = (fN (famX σ0 k) : Int) := by
    rw [hK.1]; show _ = ((σ0 k 9).toNat : Int); have := hF.1; omega
  have hN : fN (famX σ0 k) ≤ 6 := by show (σ0 k 9).toNat ≤ 6; have := hF.1; omega
  have hnw := nws_R (F := famX σ0 k) (s := stX σ0 q) hN ⟨hD.2.2.1, hD.2.2.2⟩ ha
  have hcR := SS_c hS
  have hSS : SS σ q := by
    intro j hj
    refine ⟨?_, by rw [hq2]; exact (hS j hj).2⟩
    rw [hr j hj]
    split
    · exact pssC_R hcR j
    · exact grA_R hcR j
  generalize hset : nws (famX σ0 k) (stX σ0 q) a = set at *
  rw [e9]
  have fin : (fN (famX σ0 k) : Int) ≤ (i : Int) → ∀ σ1 : Hp, σ1 = hp σ q 3 (wr ((σ q 3) + 1)) → St_holdsFast_pre q σ1 ∧ ∀ (r3 : Int) (σ2 : Hp), St_holdsFast_post q σ1 r3 σ2 →
      (¬ r3 = 0 → ((0 : Int) = 0 ∨ (0 : Int) = 1) ∧ ∀ σ4 : Hp, σ4 = hp σ2 q 5 0 → Fa_pass_post k q a σ0 σ4) ∧
      (¬ (¬ r3 = 0) → Fa_mostWorried_pre k q (-1) σ2 ∧ ∀ (r6 : Int) (σ5 : Hp), Fa_mostWorried_post k q (-1) σ2 r6 σ5 → ∀ σ7 : Hp, σ7 = hp σ5 q 2 r6 → ((0 : Int) = 0 ∨ (0 : Int) = 1) ∧ ∀ σ8 : Hp, σ8 = hp σ7 q 5 0 → Fa_pass_post k q a σ0 σ8) := by
    intro h
    have hin : i = fN (famX σ0 k) := by omega
    subst hin
    rintro σ1 rfl
    refine ⟨trivial, ?_⟩
    rintro r3 σ2 ⟨rfl, rfl⟩
    have hday : σ q 3 = σ0 q 3 := hj4 3 (by decide)
    have hd1 := hD.1
    have hd2 := hD.2.1
    have hcar : tr 6 (σ (q + 1)) = pssC (famX σ0 k) (stX σ0 q) set := by
      funext j
      by_cases hj : j < 6
      · rw [tr_in hj, hr j hj]
        by_cases hjn : j < fN (famX σ0 k)
        · rw [if_pos hjn]
        · rw [if_neg hjn]; unfold pssC; rw [if_neg (by omega)]
      · rw [tr_out (by omega), pssC_out hN (by omega)]
    rw [hday, wr1 hd1 (by omega)]
    have est : stX (hp σ q 3 (σ0 q 3 + 1)) q = (pssC (famX σ0 k) (stX σ0 q) set, (stX σ0 q).2.1, σ0 q 2, σ0 q 3 + 1, nwd (famX σ0 k) (stX σ0 q) a, σ0 q 5) := by
      unfold stX
      rw [hp_ne (show q + 1 ≠ q by omega), hp_ne (show q + 2 ≠ q by omega), hq2]
      refine Prod.ext hcar (Prod.ext rfl ?_)
      simp only [hp_rd]
      simp [h4, hj4 2 (by decide), hj4 5 (by decide)]
      rfl
    have hf1 : Fr (sg k q) σ0 (hp σ q 3 (σ0 q 3 + 1)) := Fr.hp hf (by simp [sg])
    have hK1 := FK_sg hk hq hf1
    have e5 : hp σ q 3 (σ0 q 3 + 1) q 5 = σ0 q 5 := by rw [hp_r2 (by omega), hj4 5 (by decide)]
    have e2 : hp σ q 3 (σ0 q 3 + 1) q 2 = σ0 q 2 := by rw [hp_r2 (by omega), hj4 2 (by decide)]
    have hSS1 : SS (hp σ q 3 (σ0 q 3 + 1)) q := by
      intro j hj
      rw [hp_ne (show q + 1 ≠ q by omega), hp_ne (show q + 2 ≠ q by omega)]
      exact hSS j hj
    rw [e5, e2]
    generalize hp σ q 3 (σ0 q 3 + 1) = τ at *
    refine ⟨fun hh => ⟨Or.inl rfl, ?_⟩, fun hh => ⟨⟨hk, hq, hK1.fs hF, hSS1⟩, ?_⟩⟩
    · have hc : ¬ σ0 q 5 = 0 ∧ ¬ σ0 q 2 = -1 := by
        by_cases z : ¬ σ0 q 5 = 0 ∧ ¬ σ0 q 2 = -1
        · exact z
        · exact absurd (by rw [if_neg z]) hh
      rintro σ4 rfl
      refine ⟨Fr.hp hf1 (by simp [sg]), ?_⟩
      have : stX (hp τ q 5 0) q = ((stX τ q).1, (stX τ q).2.1, (stX τ q).2.2.1, (stX τ q).2.2.2.1, (stX τ q).2.2.2.2.1, 0) := by
        unfold stX
        rw [hp_ne (show q + 1 ≠ q by omega), hp_ne (show q + 2 ≠ q by omega)]
        simp [hp_rd]
      rw [this, est]
      unfold pss
      rw [if_pos (show ¬ (stX σ0 q).2.2.2.2.2 = 0 ∧ ¬ (stX σ0 q).2.2.1 = -1 from hc), hset]
      rfl
    · have hc : ¬ (¬ σ0 q 5 = 0 ∧ ¬ σ0 q 2 = -1) := by
        intro z
        exact hh (by rw [if_pos z]; decide)
      rintro r6 σ5 ⟨hf5, rfl⟩
      rintro σ7 rfl
      refine ⟨Or.inl rfl, ?_⟩
      rintro σ8 rfl
      refine ⟨Fr.hp (Fr.hp (hf1.tr (sc_sg hf5)) (by simp [sg])) (by simp [sg]), ?_⟩
      have hst := sc_st hk hq hf5
      have : ∀ v, stX (hp (hp σ5 q 2 v) q 5 0) q = ((stX τ q).1, (stX τ q).2.1, v, (stX τ q).2.2.2.1, (stX τ q).2.2.2.2.1, 0) := by
        intro v
        rw [← stX_eq hst]
        unfold stX
        rw [hp_ne (show q + 1 ≠ q by omega), hp_ne (show q + 1 ≠ q by omega), hp_ne (show q + 2 ≠ q by omega), hp_ne (show q + 2 ≠ q by omega)]
        simp [hp_rd]
      rw [this, hK1.fam, est]
      unfold pss
      rw [if_neg (show ¬ (¬ (stX σ0 q).2.2.2.2.2 = 0 ∧ ¬ (stX σ0 q).2.2.1 = -1) from hc), hset]
      rfl
  refine ⟨fin, fun h => ⟨fun h2 => absurd h2 (by omega), fun h2 => ?_⟩⟩
  have hb := bit_01 (x := set) (j := (i : Int)) hnw.1 (by omega) (by omega) (by omega)
  rw [Int.toNat_natCast] at hb
  rw [wr1 (by omega) (by omega), Int.toNat_natCast]
  have hk6 : σ (k + 6) i = σ0 (k + 6) i := by rw [hK.2.1 6 (by omega) (by omega)]
  have hA := hF.2.2.2.1 i (by omega)
  refine ⟨fun h3 => ?_, fun h3 => ⟨⟨by omega, by omega⟩, ⟨by omega, by omega, by omega, by omega, hSS⟩, ?_⟩⟩
  · have hbf : ¬ bt set i = true := fun z => h3 (hb.mpr z)
    refine ⟨6 - (i + 1), by omega, rfl, rfl, rfl, i + 1, by simp, by omega, rfl, hf, hset.symm, h4, hj4, hq2, ?_⟩
    rw [hset]
    intro j hj
    rw [hr j hj]
    by_cases hji : j = i
    · subst hji
      rw [if_neg (by omega), if_pos (by omega)]
      unfold pssC
      rw [if_neg (fun z => hbf z.2)]
    · by_cases hlt : j < i
      · rw [if_pos hlt, if_pos (by omega)]
      · rw [if_neg hlt, if_neg (by omega)]
  · have hbt : bt set i = true := hb.mp (Classical.not_not.mp h3)
    rintro r σ1 ⟨rfl, rfl⟩
    rw [Int.toNat_natCast, hk6, hr i (by omega), if_neg (by omega)]
    refine ⟨6 - (i + 1), by omega, rfl, rfl, rfl, i + 1, by simp, by omega, rfl, Fr.hp hf (by simp [sg]), hset.symm, by rw [hp_ne (by omega)]; exact h4, fun j hj => by rw [hp_ne (by omega)]; exact hj4 j hj, by rw [hp_ne (by omega)]; exact hq2, ?_⟩
    rw [hset]
    intro j hj
    rw [hp_rd]
    by_cases hji : j = i
    · subst hji
      rw [if_pos ⟨rfl, rfl⟩, if_pos (by omega)]
      unfold pssC
      rw [if_pos ⟨by omega, hbt⟩]
      show _ = wth (_ + tr 6 (σ0 (k + 6)) j) 99
      rw [tr_in hj]
    · rw [if_neg (by omega), hr j hj]
      by_cases hlt : j < i
      · rw [if_pos hlt, if_pos (by omega)]
      · rw [if_neg hlt, if_neg (by omega)]
def Fa_pass_I : List AV → Hp → Nat → Nat → List AV → List AV → Hp → Prop := fun as σ0 pc n st ls σ => (match as with
    | [.inr (.inr (.inl (k, 0, 1))), .inr (.inr (.inl (q1, 0, 7))), .inl a2] => (bif Nat.beq pc 23 then (match st, ls with
      | [], [.inr (.inr (.inl (k', 0, 1))), .inr (.inr (.inl (q1', 0, 7))), .inl a2', .inl v3, .inl v4] => k = k' ∧ q1 = q1' ∧ a2 = a2' ∧ Fa_pass_I23 k q1 a2 σ0 n v3 v4 σ
      | _, _ => False) else False)
    | _ => False)
def Fa_pass_ct : Nat → Ct := fun n => match n with
  | 0 => Fa_grow_cs
  | 1 => Fa_drawNews_cs
  | 2 => St_change_cs
  | 3 => St_holdsFast_cs
  | 4 => Fa_mostWorried_cs
  | _ => Fa_pass_cs
set_option maxRecDepth 20000 in
set_option maxHeartbeats 4000000 in
theorem Fa_pass_met {l : Launch} {D : va_G} {ad : Nat → Nat} {ca : Nat → ClassId} {L : Nat} {fx : Nat → Int} : ax_MC l D ad ca L fx yX1_pass cX1_pass 5 none 5 Fa_pass_cs := by
  refine ax_met (oc := 1) (ct := Fa_pass_ct) (calls := Fa_pass_cl) (bs := Fa_pass_bk) (cut := fun pc => Nat.beq pc 23) (f := 8) (I := Fa_pass_I) (by decide) rfl rfl Fa_pass_ck (List.forall_mem_cons.mpr ⟨ax_cwV Fa_grow_met (by decide) (by decide) rfl (by decide) rfl (ax_m3 225 (by decide +kernel) rfl) Fa_grow_w rfl Fa_grow_ds, List.forall_mem_cons.mpr ⟨ax_cwV Fa_drawNews_met (by decide) (by decide) rfl (by decide) rfl (ax_m3 233 (by decide +kernel) rfl) Fa_drawNews_w rfl Fa_drawNews_ds, List.forall_mem_cons.mpr ⟨ax_cwV St_change_met (by decide) (by decide) rfl (by decide) rfl (ax_m4 1 (by decide +kernel) rfl) St_change_w rfl St_change_ds, List.forall_mem_cons.mpr ⟨ax_cwV St_holdsFast_met (by decide) (by decide) rfl (by decide) rfl (ax_m4 6 (by decide +kernel) rfl) St_holdsFast_w rfl St_holdsFast_ds, List.forall_mem_cons.mpr ⟨ax_cwV Fa_mostWorried_met (by decide) (by decide) rfl (by decide) rfl (ax_m3 144 (by decide +kernel) rfl) Fa_mostWorried_w rfl Fa_mostWorried_ds, fun _ h => absurd h List.not_mem_nil⟩⟩⟩⟩⟩) ?_ ?_
  · intro as σ0 hp hH
    match as, hp with
    | [.inr (.inr (.inl (k, 0, 1))), .inr (.inr (.inl (q1, 0, 7))), .inl a2], hp => exact ⟨rfl, Fa_pass_p k q1 a2 σ0 hH hp⟩
  · intro as σ0 hp n pc st ls σ hH hI
    match as, hp, hI with
    | [.inr (.inr (.inl (k, 0, 1))), .inr (.inr (.inl (q1, 0, 7))), .inl a2], hp, hI =>
      rcases ax_bifE hI with ⟨hpc, hI⟩ | ⟨-, hI⟩
      · have := Nat.eq_of_beq_eq_true hpc
        subst this
        match st, ls, hI with
        | [], [.inr (.inr (.inl (k', 0, 1))), .inr (.inr (.inl (q1', 0, 7))), .inl a2', .inl v3, .inl v4], hI =>
          obtain ⟨rfl, rfl, rfl, hI⟩ := hI
          exact Fa_pass_p23 k q1 a2 σ0 hp n v3 v4 σ hH hI
      exact False.elim hI
def Fa_begin_pre (k q : Nat) (_ b : Int) (σ : Hp) : Prop := FO k ∧ SO q ∧ FS σ k ∧ 0 ≤ b ∧ b ≤ 99
def Fa_begin_post (k q : Nat) (a b : Int) (σ : Hp) (σ' : Hp) : Prop := Fr (sg k q) σ σ' ∧ stX σ' q = bgn (famX σ k) a b
def Fa_begin_I3 (k q : Nat) (a b : Int) (σ0 : Hp) (n : Nat) (v4 : Int) (σ : Hp) : Prop := ∃ i : Nat, v4 = i ∧ i ≤ 6 ∧ n = 6 - i ∧ Fr [q + 1, q + 2] σ0 σ ∧ ∀ j, j < i → σ (q + 1) j = (if (j : Int) = a then b else σ0 (k + 3) j) ∧ σ (q + 2) j = σ0 (k + 4) j
def Fa_begin_bk : List (Nat × List Item) := [(0, [(.iconst 0, 1, [], []), (.istore 4, 2, [], [])]),
  (3, [(.iload 4, 2, [], []), (.bipush 6, 2, [], []), (.if_icmp .ge 47, 3, [54], []), (.aload_n 1, 1, [], []), (.getfield 73, 3, [7, 0, 4, 1, 1, 6], []), (.iload 4, 2, [], []), (.iload 4, 2, [], []), (.iload_n 2, 1, [], []), (.if_icmp .ne 7, 3, [26], []), (.iload_n 3, 1, [], []), (.goto 10, 3, [33], [])]),
  (26, [(.aload_n 0, 1, [], []), (.getfield 19, 3, [1, 2, 4, 3, 1, 6], []), (.iload 4, 2, [], []), (.iaload, 1, [], [])]),
  (33, [(.iastore, 1, [], []), (.aload_n 1, 1, [], []), (.getfield 78, 3, [7, 1, 4, 2, 1, 6], []), (.iload 4, 2, [], []), (.aload_n 0, 1, [], []), (.getfield 22, 3, [1, 3, 4, 4, 1, 6], []), (.iload 4, 2, [], []), (.iaload, 1, [], []), (.iastore, 1, [], []), (.iinc 4 1, 3, [], []), (.goto (-48), 3, [3], [])]),
  (54, [(.aload_n 1, 1, [], []), (.iconst 0, 1, [], []), (.putfield 81, 3, [7, 3, 0, 0, 0, 0], []), (.aload_n 1, 1, [], []), (.aload_n 0, 1, [], []), (.getfield 60, 3, [1, 13, 0, 0, 0, 0], []), (.putfield 84, 3, [7, 4, 0, 0, 0, 0], []), (.aload_n 1, 1, [], []), (.iconst 0, 1, [], []), (.putfield 87, 3, [7, 5, 1, 0, 0, 0], []), (.aload_n 1, 1, [], []), (.iconst (-1), 1, [], []), (.putfield 90, 3, [7, 2, 0, 0, 0, 0], []), (.aload_n 1, 1, [], []), (.aload_n 0, 1, [], []), (.aload_n 1, 1, [], []), (.iconst (-1), 1, [], []), (.invokevirtual 93, 3, [0], []), (.putfield 90, 3, [7, 2, 0, 0, 0, 0], []), (.return_, 1, [], [])])]
def Fa_begin_cl : List (Instr × Nat) := [(.invokevirtual 93, 0)]
set_option maxRecDepth 20000 in
theorem Fa_begin_ck : Fa_begin_bk.all (fun b => ax_chB 1 5 cX1_begin Fa_begin_cl b.1 b.2) = true := by decide +kernel
def Fa_begin_cs : Ct := (4, 2, 0, (0, 0), fun as σ => (match as with
    | [.inr (.inr (.inl (k, 0, 1))), .inr (.inr (.inl (q1, 0, 7))), .inl a2, .inl a3] => Fa_begin_pre k q1 a2 a3 σ
    | _ => False), fun as σ r σ' => (match as with
    | [.inr (.inr (.inl (k, 0, 1))), .inr (.inr (.inl (q1, 0, 7))), .inl a2, .inl a3] => Fa_begin_post k q1 a2 a3 σ σ'
    | _ => False))
theorem Fa_begin_w : ∀ w ∈ ([.instanceMethod yX1_begin, .selects yX1_begin.cls yX1_begin yX1_begin, .initialized yX1_begin.cls, .code yX1_begin cX1_begin 5 none] : List Cond), w ∈ ax_tb := ax_w4 (ax_m3 141 (by decide +kernel) rfl) (ax_m3 142 (by decide +kernel) rfl) (ax_m1 8 (by decide +kernel) rfl) (ax_m3 143 (by decide +kernel) rfl)
theorem Fa_begin_ds : yX1_begin.cls ≠ "java/lang/invoke/MethodHandle" ∧ yX1_begin.cls ≠ "java/lang/invoke/VarHandle" ∧ (parseMethodDescriptor yX1_begin.desc).map (fun d => d.parameters.length) = some 3 := by decide +kernel
def Fa_begin_vc : Prop := ∀ (k : Nat) (q1 : Nat) (a2 : Int) (a3 : Int) (σ : Hp), ax_H σ → Fa_begin_pre k q1 a2 a3 σ →
  ∃ n' : Nat, k = k ∧ q1 = q1 ∧ a2 = a2 ∧ a3 = a3 ∧ Fa_begin_I3 k q1 a2 a3 σ n' 0 σ
def Fa_begin_vc3 : Prop := ∀ (k : Nat) (q1 : Nat) (a2 : Int) (a3 : Int) (σ0 : Hp), Fa_begin_pre k q1 a2 a3 σ0 → ∀ (n : Nat) (v4 : Int) (σ : Hp), ax_H σ → Fa_begin_I3 k q1 a2 a3 σ0 n v4 σ →
  (6 ≤ v4 →
    ∀ σ1 : Hp, σ1 = hp σ q1 3 0 →
    ∀ σ2 : Hp, σ2 = hp σ1 q1 4 (σ1 k 13) →
    ((0 : Int) = 0 ∨ (0 : Int) = 1) ∧
    ∀ σ3 : Hp, σ3 = hp σ2 q1 5 0 →
    ∀ σ4 : Hp, σ4 = hp σ3 q1 2 (-1) →
    Fa_mostWorried_pre k q1 (-1) σ4 ∧
    ∀ (r6 : Int) (σ5 : Hp), Fa_mostWorried_post k q1 (-1) σ4 r6 σ5 →
    ∀ σ7 : Hp, σ7 = hp σ5 q1 2 r6 →
    Fa_begin_post k q1 a2 a3 σ0 σ7) ∧
  (¬ (6 ≤ v4) →
    (¬ v4 = a2 →
      (0 ≤ v4 ∧ v4 < 6) ∧
      (0 ≤ v4 ∧ v4 < 6) ∧
      ∀ σ8 : Hp, σ8 = hp σ (q1 + 1) v4.toNat (σ (k + 3) v4.toNat) →
      (0 ≤ v4 ∧ v4 < 6) ∧
      (0 ≤ v4 ∧ v4 < 6) ∧
      ∀ σ9 : Hp, σ9 = hp σ8 (q1 + 2) v4.toNat (σ8 (k + 4) v4.toNat) →
      ∃ n' : Nat, n' < n ∧ k = k ∧ q1 = q1 ∧ a2 = a2 ∧ a3 = a3 ∧ Fa_begin_I3 k q1 a2 a3 σ0 n' (wr (v4 + 1)) σ9) ∧
    (¬ (¬ v4 = a2) →
      (0 ≤ v4 ∧ v4 < 6) ∧
      ∀ σ10 : Hp, σ10 = hp σ (q1 + 1) v4.toNat a3 →
      (0 ≤ v4 ∧ v4 < 6) ∧
      (0 ≤ v4 ∧ v4 < 6) ∧
      ∀ σ11 : Hp, σ11 = hp σ10 (q1 + 2) v4.toNat (σ10 (k + 4) v4.toNat) →
      ∃ n' : Nat, n' < n ∧ k = k ∧ q1 = q1 ∧ a2 = a2 ∧ a3 = a3 ∧ Fa_begin_I3 k q1 a2 a3 σ0 n' (wr (v4 + 1)) σ11))
theorem Fa_begin_p : Fa_begin_vc := by
  intro k q a b σ hH hp
  exact ⟨6, rfl, rfl, rfl, rfl, 0, rfl, by omega, rfl, Fr.rf, fun j hj => absurd hj (Nat.not_lt_zero j)⟩
theorem Fa_begin_p3 : Fa_begin_vc3 := by
  intro k q a b σ0 hp n v4 σ hH hI
  obtain ⟨hk, hq, hF, hb0, hb9⟩ := hp
  obtain ⟨i, rfl, hi, rfl, hf, hr⟩ := hI
  have hne := kq_ne hk hq
  have hkd : ∀ d, d < 16 → σ (k + d) = σ0 (k + d) := fun d hd => hf _ (by
    have h1 := hne d 1 hd (by omega)
    have h2 := hne d 2 hd (by omega)
    simp only [List.mem_cons, List.not_mem_nil, or_false]; omega)
  have hk0 : σ k = σ0 k := hkd 0 (by omega)
  refine ⟨fun h => ?_, fun h => ⟨fun h2 => ?_, fun h2 => ?_⟩⟩
  · have hi6 : i = 6 := by omega
    subst hi6
    have hkq : k ≠ q := hne 0 0 (by omega) (by omega)
    rintro σ1 rfl σ2 rfl
    refine ⟨Or.inl rfl, ?_⟩
    rintro σ3 rfl σ4 rfl
    rw [hp_ne hkq, hk0]
    have est : stX (hp (hp (hp (hp σ q 3 0) q 4 (σ0 k 13)) q 5 0) q 2 (-1)) q = bgn0 (famX σ0 k) a b := by
      unfold stX
      rw [hp_ne (show q + 1 ≠ q by omega), hp_ne (show q + 1 ≠ q by omega), hp_ne (show q + 1 ≠ q by omega), hp_ne (show q + 1 ≠ q by omega), hp_ne (show q + 2 ≠ q by omega), hp_ne (show q + 2 ≠ q by omega), hp_ne (show q + 2 ≠ q by omega), hp_ne (show q + 2 ≠ q by omega)]
      refine Prod.ext (tr_ext fun j hj => ?_) (Prod.ext (tr_ext fun j hj => (hr j hj).2) ?_)
      · rw [(hr j hj).1]
        show _ = if (j : Int) = a then b else tr 6 (σ0 (k + 3)) j
        rw [tr_in hj]
      · simp only [hp_rd]
        simp
        rfl
    have hf4 : Fr (sg k q) σ0 (hp (hp (hp (hp σ q 3 0) q 4 (σ0 k 13)) q 5 0) q 2 (-1)) := Fr.hp (Fr.hp (Fr.hp (Fr.hp (hf.mono (by simp [sg])) (by simp [sg])) (by simp [sg])) (by simp [sg])) (by simp [sg])
    have hK := FK_sg hk hq hf4
    have hSS : SS (hp (hp (hp (hp σ q 3 0) q 4 (σ0 k 13)) q 5 0) q 2 (-1)) q := by
      intro j hj
      have hFj := hF.2.2.2.1 j hj
      rw [hp_ne (show q + 1 ≠ q by omega), hp_ne (show q + 1 ≠ q by omega), hp_ne (show q + 1 ≠ q by omega), hp_ne (show q + 1 ≠ q by omega), hp_ne (show q + 2 ≠ q by omega), hp_ne (show q + 2 ≠ q by omega), hp_ne (show q + 2 ≠ q by omega), hp_ne (show q + 2 ≠ q by omega)]
      rw [(hr j hj).1, (hr j hj).2]
      refine ⟨?_, hFj.2.2.2⟩
      split
      · exact ⟨hb0, hb9⟩
      · exact hFj.2.2.1
    generalize hp (hp (hp (hp σ q 3 0) q 4 (σ0 k 13)) q 5 0) q 2 (-1) = τ at *
    refine ⟨⟨hk, hq, hK.fs hF, hSS⟩, ?_⟩
    rintro r6 σ5 ⟨hf5, rfl⟩
    rintro σ7 rfl
    refine ⟨Fr.hp (hf4.tr (sc_sg hf5)) (by simp [sg]), ?_⟩
    have hst := sc_st hk hq hf5
    have : ∀ v, stX (hp σ5 q 2 v) q = ((stX τ q).1, (stX τ q).2.1, v, (stX τ q).2.2.2.1, (stX τ q).2.2.2.2.1, (stX τ q).2.2.2.2.2) := by
      intro v
      rw [← stX_eq hst]
      unfold stX
      rw [hp_ne (show q + 1 ≠ q by omega), hp_ne (show q + 2 ≠ q by omega)]
      simp [hp_rd]
    rw [this, hK.fam, est]
    rfl
  · refine ⟨⟨by omega, by omega⟩, ⟨by omega, by omega⟩, ?_⟩
    rintro σ8 rfl
    refine ⟨⟨by omega, by omega⟩, ⟨by omega, by omega⟩, ?_⟩
    rintro σ9 rfl
    rw [wr1 (by omega) (by omega), hp_ne (k' := k + 4) (hne 4 1 (by omega) (by omega)), hkd 3 (by omega), hkd 4 (by omega), Int.toNat_natCast]
    refine ⟨6 - (i + 1), by omega, rfl, rfl, rfl, rfl, i + 1, by simp, by omega, rfl, Fr.hp (Fr.hp hf (by simp)) (by simp), ?_⟩
    intro j hj
    refine ⟨?_, ?_⟩
    · rw [hp_ne (show q + 1 ≠ q + 2 by omega), hp_rd]
      by_cases hji : j = i
      · rw [if_pos ⟨rfl, hji⟩, hji, if_neg h2]
      · rw [if_neg (fun z => hji z.2)]; exact (hr j (by omega)).1
    · rw [hp_rd]
      by_cases hji : j = i
      · rw [if_pos ⟨rfl, hji⟩, hji]
      · rw [if_neg (fun z => hji z.2), hp_ne (show q + 2 ≠ q + 1 by omega)]; exact (hr j (by omega)).2
  · refine ⟨⟨by omega, by omega⟩, ?_⟩
    rintro σ8 rfl
    refine ⟨⟨by omega, by omega⟩, ⟨by omega, by omega⟩, ?_⟩
    rintro σ9 rfl
    rw [wr1 (by omega) (by omega), hp_ne (k' := k + 4) (hne 4 1 (by omega) (by omega)), hkd 4 (by omega), Int.toNat_natCast]
    refine ⟨6 - (i + 1), by omega, rfl, rfl, rfl, rfl, i + 1, by simp, by omega, rfl, Fr.hp (Fr.hp hf (by simp)) (by simp), ?_⟩
    intro j hj
    refine ⟨?_, ?_⟩
    · rw [hp_ne (show q + 1 ≠ q + 2 by omega), hp_rd]
      by_cases hji : j = i
      · rw [if_pos ⟨rfl, hji⟩, hji, if_pos (Classical.not_not.mp h2)]
      · rw [if_neg (fun z => hji z.2)]; exact (hr j (by omega)).1
    · rw [hp_rd]
      by_cases hji : j = i
      · rw [if_pos ⟨rfl, hji⟩, hji]
      · rw [if_neg (fun z => hji z.2), hp_ne (show q + 2 ≠ q + 1 by omega)]; exact (hr j (by omega)).2
def Fa_begin_I : List AV → Hp → Nat → Nat → List AV → List AV → Hp → Prop := fun as σ0 pc n st ls σ => (match as with
    | [.inr (.inr (.inl (k, 0, 1))), .inr (.inr (.inl (q1, 0, 7))), .inl a2, .inl a3] => (bif Nat.beq pc 3 then (match st, ls with
      | [], [.inr (.inr (.inl (k', 0, 1))), .inr (.inr (.inl (q1', 0, 7))), .inl a2', .inl a3', .inl v4] => k = k' ∧ q1 = q1' ∧ a2 = a2' ∧ a3 = a3' ∧ Fa_begin_I3 k q1 a2 a3 σ0 n v4 σ
      | _, _ => False) else False)
    | _ => False)
def Fa_begin_ct : Nat → Ct := fun n => match n with
  | 0 => Fa_mostWorried_cs
  | _ => Fa_begin_cs
set_option maxRecDepth 20000 in
set_option maxHeartbeats 4000000 in
theorem Fa_begin_met {l : Launch} {D : va_G} {ad : Nat → Nat} {ca : Nat → ClassId} {L : Nat} {fx : Nat → Int} : ax_MC l D ad ca L fx yX1_begin cX1_begin 5 none 5 Fa_begin_cs := by
  refine ax_met (oc := 1) (ct := Fa_begin_ct) (calls := Fa_begin_cl) (bs := Fa_begin_bk) (cut := fun pc => Nat.beq pc 3) (f := 6) (I := Fa_begin_I) (by decide) rfl rfl Fa_begin_ck (List.forall_mem_cons.mpr ⟨ax_cwV Fa_mostWorried_met (by decide) (by decide) rfl (by decide) rfl (ax_m3 144 (by decide +kernel) rfl) Fa_mostWorried_w rfl Fa_mostWorried_ds, fun _ h => absurd h List.not_mem_nil⟩) ?_ ?_
  · intro as σ0 hp hH
    match as, hp with
    | [.inr (.inr (.inl (k, 0, 1))), .inr (.inr (.inl (q1, 0, 7))), .inl a2, .inl a3], hp => exact ⟨rfl, Fa_begin_p k q1 a2 a3 σ0 hH hp⟩
  · intro as σ0 hp n pc st ls σ hH hI
    match as, hp, hI with
    | [.inr (.inr (.inl (k, 0, 1))), .inr (.inr (.inl (q1, 0, 7))), .inl a2, .inl a3], hp, hI =>
      rcases ax_bifE hI with ⟨hpc, hI⟩ | ⟨-, hI⟩
      · have := Nat.eq_of_beq_eq_true hpc
        subst this
        match st, ls, hI with
        | [], [.inr (.inr (.inl (k', 0, 1))), .inr (.inr (.inl (q1', 0, 7))), .inl a2', .inl a3', .inl v4], hI =>
          obtain ⟨rfl, rfl, rfl, rfl, hI⟩ := hI
          exact Fa_begin_p3 k q1 a2 a3 σ0 hp n v4 σ hH hI
      exact False.elim hI
