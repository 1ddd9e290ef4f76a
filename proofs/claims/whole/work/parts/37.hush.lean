-- THE OUTLOOK: hush
theorem pcn_s (x n : Nat) : pcn x (n + 1) = pcn x n + (if x.testBit n then 1 else 0) := rfl
theorem kn_s (w : Nat → Int) (n : Nat) : kn w (n + 1) = kn w n + pcn (w n).toNat 12 := rfl
theorem pcn_mono (x : Nat) {a b : Nat} (h : a ≤ b) : pcn x a ≤ pcn x b := by
  induction b with
  | zero => have : a = 0 := by omega
            subst this; exact Nat.le_refl _
  | succ b ih =>
    by_cases e : a = b + 1
    · subst e; exact Nat.le_refl _
    · have := ih (by omega)
      rw [pcn_s]; omega
theorem kn_mono (w : Nat → Int) {a b : Nat} (h : a ≤ b) : kn w a ≤ kn w b := by
  induction b with
  | zero => have : a = 0 := by omega
            subst this; exact Nat.le_refl _
  | succ b ih =>
    by_cases e : a = b + 1
    · subst e; exact Nat.le_refl _
    · have := ih (by omega)
      rw [kn_s]; omega
theorem pcn_top {x m : Nat} (h : x < 2 ^ m) : ∀ d, pcn x (m + d) = pcn x m := by
  intro d
  induction d with
  | zero => rfl
  | succ d ih =>
    rw [show m + (d + 1) = (m + d) + 1 from rfl, pcn_s, ih, Nat.testBit_lt_two_pow (Nat.lt_of_lt_of_le h (Nat.pow_le_pow_right (by decide) (by omega)))]
    simp
/-- the place of a knows in their row -/
def ix (w : Nat → Int) (p o : Nat) : Nat := kn w p + pcn (w p).toNat o
theorem ix_0 (w : Nat → Int) (p : Nat) : ix w p 0 = kn w p := rfl
theorem ix_6 {w : Nat → Int} {p : Nat} (h : 0 ≤ w p ∧ w p < 64) : ix w p 6 = kn w (p + 1) := by
  unfold ix
  rw [kn_s, show (12 : Nat) = 6 + 6 from rfl, pcn_top (x := (w p).toNat) (m := 6) (by omega) 6]
theorem ix_s (w : Nat → Int) (p o : Nat) : ix w p (o + 1) = ix w p o + (if bt (w p) o then 1 else 0) := by
  unfold ix
  rw [pcn_s, Nat.add_assoc]
  rfl
theorem ix_lt {w : Nat → Int} {p o : Nat} (hp : p < 6) (ho : o < 12) (h : bt (w p) o = true) : ix w p o < kn w 6 := by
  have h1 := ix_s w p o
  rw [h, if_pos rfl] at h1
  have h2 : ix w p (o + 1) ≤ kn w (p + 1) := by
    unfold ix
    rw [kn_s]
    have := pcn_mono (w p).toNat (show o + 1 ≤ 12 by omega)
    omega
  have h3 := kn_mono w (show p + 1 ≤ 6 by omega)
  omega
theorem ix_row {w : Nat → Int} {p q o r : Nat} (hpq : p < q) (ho : o < 12) (h : bt (w p) o = true) : ix w p o < ix w q r := by
  have h1 := ix_s w p o
  rw [h, if_pos rfl] at h1
  have h2 : ix w p (o + 1) ≤ kn w (p + 1) := by
    unfold ix
    rw [kn_s]
    have := pcn_mono (w p).toNat (show o + 1 ≤ 12 by omega)
    omega
  have h3 := kn_mono w (show p + 1 ≤ q by omega)
  have h4 : kn w q ≤ ix w q r := by unfold ix; omega
  omega
theorem ix_col {w : Nat → Int} {p o r : Nat} (hor : o < r) (h : bt (w p) o = true) : ix w p o < ix w p r := by
  have h1 := ix_s w p o
  rw [h, if_pos rfl] at h1
  have h2 : ix w p (o + 1) ≤ ix w p r := by
    unfold ix
    have := pcn_mono (w p).toNat (show o + 1 ≤ r by omega)
    omega
  omega
theorem ix_inj {w : Nat → Int} {p q o r : Nat} (ho : o < 12) (hr : r < 12) (h : bt (w p) o = true) (g : bt (w q) r = true) (e : ix w p o = ix w q r) : p = q ∧ o = r := by
  rcases Nat.lt_trichotomy p q with z | z | z
  · have := ix_row (r := r) z ho h; omega
  · subst z
    rcases Nat.lt_trichotomy o r with y | y | y
    · have := ix_col y h; omega
    · exact ⟨rfl, y⟩
    · have := ix_col y g; omega
  · have := ix_row (r := o) z hr g; omega
/-- the knows lie in the rows -/
def LK (σ : Hp) (w : Nat → Int) : Prop := σ 3 8 = (kn w 6 : Nat) ∧ ∀ i, i < kn w 6 → ∃ p o : Nat, p < 6 ∧ o < 6 ∧ σ 7 i = p ∧ σ 8 i = o ∧ bt (w p) o = true ∧ ix w p o = i
def Ou_listKnows_pre (k q : Nat) (σ : Hp) : Prop := k = 3 ∧ q = 31 ∧ SS σ 31 ∧ kn (stX σ 31).2.1 6 ≤ 12
def Ou_listKnows_post (_k _q : Nat) (σ σ' : Hp) : Prop := Fr [3, 7, 8] σ σ' ∧ LK σ' (stX σ 31).2.1
def Ou_listKnows_I7 (_k _q : Nat) (σ0 : Hp) (m : Nat) (v2 : Int) (σ : Hp) : Prop := ∃ p : Nat, v2 = p ∧ p ≤ 6 ∧ m = 100 * (6 - p) + 50 ∧ Fr [3, 7, 8] σ0 σ ∧ σ 3 8 = (kn (stX σ0 31).2.1 p : Nat) ∧ ∀ i, i < kn (stX σ0 31).2.1 p → ∃ p o : Nat, p < 6 ∧ o < 6 ∧ σ 7 i = p ∧ σ 8 i = o ∧ bt ((stX σ0 31).2.1 p) o = true ∧ ix (stX σ0 31).2.1 p o = i
def Ou_listKnows_I15 (_k _q : Nat) (σ0 : Hp) (m : Nat) (v2 v3 : Int) (σ : Hp) : Prop := ∃ p o : Nat, v2 = p ∧ p < 6 ∧ v3 = o ∧ o ≤ 6 ∧ m = 100 * (6 - p) + (6 - o) ∧ Fr [3, 7, 8] σ0 σ ∧ σ 3 8 = (ix (stX σ0 31).2.1 p o : Nat) ∧ ∀ i, i < ix (stX σ0 31).2.1 p o → ∃ p o : Nat, p < 6 ∧ o < 6 ∧ σ 7 i = p ∧ σ 8 i = o ∧ bt ((stX σ0 31).2.1 p) o = true ∧ ix (stX σ0 31).2.1 p o = i
def Ou_listKnows_bk : List (Nat × List Item) := [(0, [(.aload_n 0, 1, [], []), (.iconst 0, 1, [], []), (.putfield 86, 3, [4, 8, 0, 0, 0, 0], []), (.iconst 0, 1, [], []), (.istore_n 2, 1, [], [])]),
  (7, [(.iload_n 2, 1, [], []), (.bipush 6, 2, [], []), (.if_icmp .ge 71, 3, [81], []), (.iconst 0, 1, [], []), (.istore_n 3, 1, [], [])]),
  (15, [(.iload_n 3, 1, [], []), (.bipush 6, 2, [], []), (.if_icmp .ge 57, 3, [75], []), (.aload_n 1, 1, [], []), (.iload_n 2, 1, [], []), (.iload_n 3, 1, [], []), (.invokevirtual 93, 3, [0], []), (.ifCond .eq 42, 3, [69], []), (.aload_n 0, 1, [], []), (.getfield 86, 3, [4, 8, 0, 0, 0, 0], []), (.bipush 12, 2, [], []), (.if_icmp .ge 33, 3, [69], []), (.aload_n 0, 1, [], []), (.getfield 18, 3, [4, 1, 4, 4, 1, 12], []), (.aload_n 0, 1, [], []), (.getfield 86, 3, [4, 8, 0, 0, 0, 0], []), (.iload_n 2, 1, [], []), (.iastore, 1, [], []), (.aload_n 0, 1, [], []), (.getfield 22, 3, [4, 2, 4, 5, 1, 12], []), (.aload_n 0, 1, [], []), (.getfield 86, 3, [4, 8, 0, 0, 0, 0], []), (.iload_n 3, 1, [], []), (.iastore, 1, [], []), (.aload_n 0, 1, [], []), (.dup, 1, [], []), (.getfield 86, 3, [4, 8, 0, 0, 0, 0], []), (.iconst 1, 1, [], []), (.iadd, 1, [], []), (.putfield 86, 3, [4, 8, 0, 0, 0, 0], [])]),
  (69, [(.iinc 3 1, 3, [], []), (.goto (-57), 3, [15], [])]),
  (75, [(.iinc 2 1, 3, [], []), (.goto (-71), 3, [7], [])]),
  (81, [(.return_, 1, [], [])])]
def Ou_listKnows_cl : List (Instr × Nat) := [(.invokevirtual 93, 0)]
set_option maxRecDepth 20000 in
theorem Ou_listKnows_ck : Ou_listKnows_bk.all (fun b => ax_chB 4 4 cX4_listKnows Ou_listKnows_cl b.1 b.2) = true := by decide +kernel
def Ou_listKnows_cs : Ct := (2, 5, 0, (0, 0), fun as σ => (match as with
    | [.inr (.inr (.inl (k, 0, 4))), .inr (.inr (.inl (q1, 0, 7)))] => Ou_listKnows_pre k q1 σ
    | _ => False), fun as σ r σ' => (match as with
    | [.inr (.inr (.inl (k, 0, 4))), .inr (.inr (.inl (q1, 0, 7)))] => Ou_listKnows_post k q1 σ σ'
    | _ => False))
theorem Ou_listKnows_w : ∀ w ∈ ([.instanceMethod yX4_listKnows, .selects yX4_listKnows.cls yX4_listKnows yX4_listKnows, .initialized yX4_listKnows.cls, .code yX4_listKnows cX4_listKnows 4 none] : List Cond), w ∈ ax_tb := ax_w4 (ax_m4 132 (by decide +kernel) rfl) (ax_m4 133 (by decide +kernel) rfl) (ax_m1 3 (by decide +kernel) rfl) (ax_m4 134 (by decide +kernel) rfl)
theorem Ou_listKnows_ds : yX4_listKnows.cls ≠ "java/lang/invoke/MethodHandle" ∧ yX4_listKnows.cls ≠ "java/lang/invoke/VarHandle" ∧ (parseMethodDescriptor yX4_listKnows.desc).map (fun d => d.parameters.length) = some 1 := by decide +kernel
def Ou_listKnows_vc : Prop := ∀ (k : Nat) (q1 : Nat) (σ : Hp), ax_H σ → Ou_listKnows_pre k q1 σ →
  ∀ σ1 : Hp, σ1 = hp σ k 8 0 →
  ∃ n' : Nat, k = k ∧ q1 = q1 ∧ Ou_listKnows_I7 k q1 σ n' 0 σ1
def Ou_listKnows_vc7 : Prop := ∀ (k : Nat) (q1 : Nat) (σ0 : Hp), Ou_listKnows_pre k q1 σ0 → ∀ (n : Nat) (v2 : Int) (σ : Hp), ax_H σ → Ou_listKnows_I7 k q1 σ0 n v2 σ →
  (6 ≤ v2 →
    Ou_listKnows_post k q1 σ0 σ) ∧
  (¬ (6 ≤ v2) →
    ∃ n' : Nat, n' < n ∧ k = k ∧ q1 = q1 ∧ Ou_listKnows_I15 k q1 σ0 n' v2 0 σ)
def Ou_listKnows_vc15 : Prop := ∀ (k : Nat) (q1 : Nat) (σ0 : Hp), Ou_listKnows_pre k q1 σ0 → ∀ (n : Nat) (v2 : Int) (v3 : Int) (σ : Hp), ax_H σ → Ou_listKnows_I15 k q1 σ0 n v2 v3 σ →
  (6 ≤ v3 →
    ∃ n' : Nat, n' < n ∧ k = k ∧ q1 = q1 ∧ Ou_listKnows_I7 k q1 σ0 n' (wr (v2 + 1)) σ) ∧
  (¬ (6 ≤ v3) →
    St_isKnown_pre q1 v2 v3 σ ∧
    ∀ (r2 : Int) (σ1 : Hp), St_isKnown_post q1 v2 v3 σ r2 σ1 →
    (r2 = 0 →
      ∃ n' : Nat, n' < n ∧ k = k ∧ q1 = q1 ∧ Ou_listKnows_I15 k q1 σ0 n' v2 (wr (v3 + 1)) σ1) ∧
    (¬ (r2 = 0) →
      (12 ≤ σ1 k 8 →
        ∃ n' : Nat, n' < n ∧ k = k ∧ q1 = q1 ∧ Ou_listKnows_I15 k q1 σ0 n' v2 (wr (v3 + 1)) σ1) ∧
      (¬ (12 ≤ σ1 k 8) →
        (0 ≤ σ1 k 8 ∧ σ1 k 8 < 12) ∧
        ∀ σ3 : Hp, σ3 = hp σ1 (k + 4) (σ1 k 8).toNat v2 →
        (0 ≤ σ3 k 8 ∧ σ3 k 8 < 12) ∧
        ∀ σ4 : Hp, σ4 = hp σ3 (k + 5) (σ3 k 8).toNat v3 →
        ∀ σ5 : Hp, σ5 = hp σ4 k 8 (wr ((σ4 k 8) + 1)) →
        ∃ n' : Nat, n' < n ∧ k = k ∧ q1 = q1 ∧ Ou_listKnows_I15 k q1 σ0 n' v2 (wr (v3 + 1)) σ5)))
theorem Ou_listKnows_p : Ou_listKnows_vc := by
  intro k q σ hH hp
  obtain ⟨rfl, rfl, hS, h12⟩ := hp
  rintro σ1 rfl
  exact ⟨650, rfl, rfl, 0, rfl, by omega, rfl, Fr.hp Fr.rf (by simp), hp_r1, fun i hi => absurd hi (Nat.not_lt_zero i)⟩
theorem Ou_listKnows_p7 : Ou_listKnows_vc7 := by
  intro k q σ0 hp m v2 σ hH hI
  obtain ⟨rfl, rfl, hS, h12⟩ := hp
  obtain ⟨p, rfl, hp6, rfl, hf, h8, hr⟩ := hI
  refine ⟨fun h => ?_, fun h => ⟨100 * (6 - p) + 6, by omega, rfl, rfl, p, 0, rfl, by omega, rfl, by omega, rfl, hf, h8, hr⟩⟩
  have e : p = 6 := by omega
  subst e
  exact ⟨hf, h8, hr⟩
theorem Ou_listKnows_p15 : Ou_listKnows_vc15 := by
  intro k q σ0 hp m v2 v3 σ hH hI
  obtain ⟨rfl, rfl, hS, h12⟩ := hp
  obtain ⟨p, o, rfl, hp6, rfl, ho6, rfl, hf, h8, hr⟩ := hI
  have e33 : σ 33 = σ0 33 := hf 33 (by decide)
  have e32 : σ 32 = σ0 32 := hf 32 (by decide)
  have hkR := (hS p hp6).2
  have ew : (stX σ0 31).2.1 p = σ0 33 p := tr_in hp6
  refine ⟨fun h => ?_, fun h => ⟨⟨by omega, by omega, by omega, by omega, ?_⟩, ?_⟩⟩
  · have e : o = 6 := by omega
    subst e
    rw [ix_6 (by rw [ew]; exact hkR)] at h8 hr
    exact ⟨100 * (6 - (p + 1)) + 50, by omega, rfl, rfl, p + 1, by rw [wr1 (by omega) (by omega)]; simp, by omega, rfl, hf, h8, hr⟩
  · intro j hj
    show (0 ≤ σ 32 j ∧ σ 32 j ≤ 99) ∧ (0 ≤ σ 33 j ∧ σ 33 j < 64)
    rw [e32, e33]; exact hS j hj
  · rintro r2 σ1 ⟨rfl, rfl⟩
    have eb : σ1 (31 + 2) (p : Int).toNat = (stX σ0 31).2.1 p := by rw [ew, Int.toNat_natCast]; exact congrFun e33 p
    rw [eb, Int.toNat_natCast, wr1 (by omega) (by omega)]
    have hs := ix_s (stX σ0 31).2.1 p o
    refine ⟨fun h2 => ?_, fun h2 => ?_⟩
    · have hb : ¬ bt ((stX σ0 31).2.1 p) o = true := fun z => by rw [if_pos z] at h2; omega
      rw [if_neg hb, Nat.add_zero] at hs
      exact ⟨100 * (6 - p) + (6 - (o + 1)), by omega, rfl, rfl, p, o + 1, rfl, hp6, by simp, by omega, rfl, hf, by rw [hs]; exact h8, by rw [hs]; exact hr⟩
    · have hb : bt ((stX σ0 31).2.1 p) o = true := by
        cases hq : bt ((stX σ0 31).2.1 p) o with
        | true => rfl
        | false => rw [hq] at h2; exact absurd rfl h2
      rw [if_pos hb] at hs
      have hlt := ix_lt hp6 (show o < 12 by omega) hb
      rw [h8]
      refine ⟨fun h3 => absurd h3 (by omega), fun h3 => ⟨⟨by omega, by omega⟩, ?_⟩⟩
      rintro σ3 rfl
      rw [Int.toNat_natCast, hp_ne (show (3 : Nat) ≠ 3 + 4 by decide), h8]
      refine ⟨⟨by omega, by omega⟩, ?_⟩
      rintro σ4 rfl
      rw [Int.toNat_natCast, hp_ne (show (3 : Nat) ≠ 3 + 5 by decide), hp_ne (show (3 : Nat) ≠ 3 + 4 by decide), h8]
      rintro σ5 rfl
      refine ⟨100 * (6 - p) + (6 - (o + 1)), by omega, rfl, rfl, p, o + 1, rfl, hp6, by simp, by omega, rfl, Fr.hp (Fr.hp (Fr.hp hf (by simp)) (by simp)) (by simp), ?_, fun i hi => ?_⟩
      · rw [hp_r1, hs, wr1 (by omega) (by omega)]; simp
      · rw [hs] at hi
        rw [hp_ne (show (7 : Nat) ≠ 3 by decide), hp_ne (show (8 : Nat) ≠ 3 by decide), hp_ne (show (7 : Nat) ≠ 3 + 5 by decide), hp_rd, hp_rd]
        by_cases e : i = ix (stX σ0 31).2.1 p o
        · exact ⟨p, o, hp6, by omega, by rw [if_pos ⟨rfl, e⟩], by rw [if_pos ⟨rfl, e⟩], hb, e.symm⟩
        · obtain ⟨p', o', q1, q2, q3, q4, q5⟩ := hr i (by omega)
          exact ⟨p', o', q1, q2, by rw [if_neg (fun z => e z.2)]; exact q3, by rw [if_neg (fun z => e z.2), hp_ne (show (8 : Nat) ≠ 3 + 4 by decide)]; exact q4, q5⟩
def Ou_listKnows_I : List AV → Hp → Nat → Nat → List AV → List AV → Hp → Prop := fun as σ0 pc n st ls σ => (match as with
    | [.inr (.inr (.inl (k, 0, 4))), .inr (.inr (.inl (q1, 0, 7)))] => (bif Nat.beq pc 7 then (match st, ls with
      | [], [.inr (.inr (.inl (k', 0, 4))), .inr (.inr (.inl (q1', 0, 7))), .inl v2, _] => k = k' ∧ q1 = q1' ∧ Ou_listKnows_I7 k q1 σ0 n v2 σ
      | _, _ => False) else (bif Nat.beq pc 15 then (match st, ls with
      | [], [.inr (.inr (.inl (k', 0, 4))), .inr (.inr (.inl (q1', 0, 7))), .inl v2, .inl v3] => k = k' ∧ q1 = q1' ∧ Ou_listKnows_I15 k q1 σ0 n v2 v3 σ
      | _, _ => False) else False))
    | _ => False)
def Ou_listKnows_ct : Nat → Ct := fun n => match n with
  | 0 => St_isKnown_cs
  | _ => Ou_listKnows_cs
set_option maxRecDepth 20000 in
set_option maxHeartbeats 4000000 in
theorem Ou_listKnows_met {l : Launch} {D : va_G} {ad : Nat → Nat} {ca : Nat → ClassId} {L : Nat} {fx : Nat → Int} : ax_MC l D ad ca L fx yX4_listKnows cX4_listKnows 4 none 2 Ou_listKnows_cs := by
  refine ax_met (oc := 4) (ct := Ou_listKnows_ct) (calls := Ou_listKnows_cl) (bs := Ou_listKnows_bk) (cut := fun pc => Nat.beq pc 7 || Nat.beq pc 15) (f := 7) (I := Ou_listKnows_I) (by decide) rfl rfl Ou_listKnows_ck (List.forall_mem_cons.mpr ⟨ax_cwV St_isKnown_met (by decide) (by decide) rfl (by decide) rfl (ax_m4 135 (by decide +kernel) rfl) St_isKnown_w rfl St_isKnown_ds, fun _ h => absurd h List.not_mem_nil⟩) ?_ ?_
  · intro as σ0 hp hH
    match as, hp with
    | [.inr (.inr (.inl (k, 0, 4))), .inr (.inr (.inl (q1, 0, 7)))], hp => exact ⟨rfl, Ou_listKnows_p k q1 σ0 hH hp⟩
  · intro as σ0 hp n pc st ls σ hH hI
    match as, hp, hI with
    | [.inr (.inr (.inl (k, 0, 4))), .inr (.inr (.inl (q1, 0, 7)))], hp, hI =>
      rcases ax_bifE hI with ⟨hpc, hI⟩ | ⟨-, hI⟩
      · have := Nat.eq_of_beq_eq_true hpc
        subst this
        match st, ls, hI with
        | [], [.inr (.inr (.inl (k', 0, 4))), .inr (.inr (.inl (q1', 0, 7))), .inl v2, _], hI =>
          obtain ⟨rfl, rfl, hI⟩ := hI
          exact Ou_listKnows_p7 k q1 σ0 hp n v2 σ hH hI
      rcases ax_bifE hI with ⟨hpc, hI⟩ | ⟨-, hI⟩
      · have := Nat.eq_of_beq_eq_true hpc
        subst this
        match st, ls, hI with
        | [], [.inr (.inr (.inl (k', 0, 4))), .inr (.inr (.inl (q1', 0, 7))), .inl v2, .inl v3], hI =>
          obtain ⟨rfl, rfl, hI⟩ := hI
          exact Ou_listKnows_p15 k q1 σ0 hp n v2 v3 σ hH hI
      exact False.elim hI
/-- the cares as they would grow, by whom one knows of -/
def TB (σ : Hp) (F : Fam) (s : Sta) (n : Nat) : Prop := ∀ p, p < n → ∀ x, x < 64 → ndf x (s.2.1 p).toNat = 0 → σ 10 (p * 64 + x) = grc F s p x
def Ou_foreseeCares_pre (k f q : Nat) (σ : Hp) : Prop := k = 3 ∧ q = 31 ∧ OW σ f
def Ou_foreseeCares_post (_k f _q : Nat) (σ σ' : Hp) : Prop := Fr (10 :: sc f) σ σ' ∧ TB σ' (famX σ f) (stX σ 31) (fN (famX σ f))
def Ou_foreseeCares_I2 (_k f _q : Nat) (σ0 : Hp) (m : Nat) (v3 : Int) (σ : Hp) : Prop := ∃ p : Nat, v3 = p ∧ p ≤ fN (famX σ0 f) ∧ m = 1000 * (7 - p) ∧ Fr (10 :: sc f) σ0 σ ∧ TB σ (famX σ0 f) (stX σ0 31) p
def Ou_foreseeCares_I13 (_k f _q : Nat) (σ0 : Hp) (m : Nat) (v3 v4 : Int) (σ : Hp) : Prop := ∃ p y : Nat, v3 = p ∧ p < fN (famX σ0 f) ∧ v4 = y ∧ y ≤ 64 ∧ m = 1000 * (6 - p) + 200 - y ∧ Fr (10 :: sc f) σ0 σ ∧ TB σ (famX σ0 f) (stX σ0 31) p ∧ ∀ x, x < y → ndf x ((stX σ0 31).2.1 p).toNat = 0 → σ 10 (p * 64 + x) = grc (famX σ0 f) (stX σ0 31) p x
def Ou_foreseeCares_bk : List (Nat × List Item) := [(0, [(.iconst 0, 1, [], []), (.istore_n 3, 1, [], [])]),
  (2, [(.iload_n 3, 1, [], []), (.aload_n 1, 1, [], []), (.getfield 50, 3, [1, 9, 0, 0, 0, 0], []), (.if_icmp .ge 59, 3, [66], []), (.iconst 0, 1, [], []), (.istore 4, 2, [], [])]),
  (13, [(.iload 4, 2, [], []), (.bipush 64, 2, [], []), (.if_icmp .ge 43, 3, [60], []), (.iload 4, 2, [], []), (.aload_n 2, 1, [], []), (.getfield 97, 3, [7, 1, 4, 2, 1, 6], []), (.iload_n 3, 1, [], []), (.iaload, 1, [], []), (.iconst (-1), 1, [], []), (.ixor, 1, [], []), (.iand, 1, [], []), (.ifCond .ne 23, 3, [54], []), (.aload_n 0, 1, [], []), (.getfield 28, 3, [4, 4, 4, 7, 1, 384], []), (.iload_n 3, 1, [], []), (.bipush 64, 2, [], []), (.imul, 1, [], []), (.iload 4, 2, [], []), (.iadd, 1, [], []), (.aload_n 1, 1, [], []), (.aload_n 2, 1, [], []), (.iload_n 3, 1, [], []), (.iload 4, 2, [], []), (.invokevirtual 100, 3, [0], []), (.iastore, 1, [], [])]),
  (54, [(.iinc 4 1, 3, [], []), (.goto (-44), 3, [13], [])]),
  (60, [(.iinc 3 1, 3, [], []), (.goto (-61), 3, [2], [])]),
  (66, [(.return_, 1, [], [])])]
def Ou_foreseeCares_cl : List (Instr × Nat) := [(.invokevirtual 100, 0)]
set_option maxRecDepth 20000 in
theorem Ou_foreseeCares_ck : Ou_foreseeCares_bk.all (fun b => ax_chB 4 5 cX4_foreseeCares Ou_foreseeCares_cl b.1 b.2) = true := by decide +kernel
def Ou_foreseeCares_cs : Ct := (3, 5, 0, (0, 0), fun as σ => (match as with
    | [.inr (.inr (.inl (k, 0, 4))), .inr (.inr (.inl (q1, 0, 1))), .inr (.inr (.inl (q2, 0, 7)))] => Ou_foreseeCares_pre k q1 q2 σ
    | _ => False), fun as σ r σ' => (match as with
    | [.inr (.inr (.inl (k, 0, 4))), .inr (.inr (.inl (q1, 0, 1))), .inr (.inr (.inl (q2, 0, 7)))] => Ou_foreseeCares_post k q1 q2 σ σ'
    | _ => False))
theorem Ou_foreseeCares_w : ∀ w ∈ ([.instanceMethod yX4_foreseeCares, .selects yX4_foreseeCares.cls yX4_foreseeCares yX4_foreseeCares, .initialized yX4_foreseeCares.cls, .code yX4_foreseeCares cX4_foreseeCares 5 none] : List Cond), w ∈ ax_tb := ax_w4 (ax_m4 137 (by decide +kernel) rfl) (ax_m4 138 (by decide +kernel) rfl) (ax_m1 3 (by decide +kernel) rfl) (ax_m4 139 (by decide +kernel) rfl)
theorem Ou_foreseeCares_ds : yX4_foreseeCares.cls ≠ "java/lang/invoke/MethodHandle" ∧ yX4_foreseeCares.cls ≠ "java/lang/invoke/VarHandle" ∧ (parseMethodDescriptor yX4_foreseeCares.desc).map (fun d => d.parameters.length) = some 2 := by decide +kernel
def Ou_foreseeCares_vc : Prop := ∀ (k : Nat) (q1 : Nat) (q2 : Nat) (σ : Hp), ax_H σ → Ou_foreseeCares_pre k q1 q2 σ →
  ∃ n' : Nat, k = k ∧ q1 = q1 ∧ q2 = q2 ∧ Ou_foreseeCares_I2 k q1 q2 σ n' 0 σ
def Ou_foreseeCares_vc2 : Prop := ∀ (k : Nat) (q1 : Nat) (q2 : Nat) (σ0 : Hp), Ou_foreseeCares_pre k q1 q2 σ0 → ∀ (n : Nat) (v3 : Int) (σ : Hp), ax_H σ → Ou_foreseeCares_I2 k q1 q2 σ0 n v3 σ →
  (σ q1 9 ≤ v3 →
    Ou_foreseeCares_post k q1 q2 σ0 σ) ∧
  (¬ (σ q1 9 ≤ v3) →
    ∃ n' : Nat, n' < n ∧ k = k ∧ q1 = q1 ∧ q2 = q2 ∧ Ou_foreseeCares_I13 k q1 q2 σ0 n' v3 0 σ)
def Ou_foreseeCares_vc13 : Prop := ∀ (k : Nat) (q1 : Nat) (q2 : Nat) (σ0 : Hp), Ou_foreseeCares_pre k q1 q2 σ0 → ∀ (n : Nat) (v3 : Int) (v4 : Int) (σ : Hp), ax_H σ → Ou_foreseeCares_I13 k q1 q2 σ0 n v3 v4 σ →
  (64 ≤ v4 →
    ∃ n' : Nat, n' < n ∧ k = k ∧ q1 = q1 ∧ q2 = q2 ∧ Ou_foreseeCares_I2 k q1 q2 σ0 n' (wr (v3 + 1)) σ) ∧
  (¬ (64 ≤ v4) →
    (0 ≤ v3 ∧ v3 < 6) ∧
    (¬ iAnd v4 (iXor (σ (q2 + 2) v3.toNat) (-1)) = 0 →
      ∃ n' : Nat, n' < n ∧ k = k ∧ q1 = q1 ∧ q2 = q2 ∧ Ou_foreseeCares_I13 k q1 q2 σ0 n' v3 (wr (v4 + 1)) σ) ∧
    (¬ (¬ iAnd v4 (iXor (σ (q2 + 2) v3.toNat) (-1)) = 0) →
      Fa_grownCare_pre q1 q2 v3 v4 σ ∧
      ∀ (r2 : Int) (σ1 : Hp), Fa_grownCare_post q1 q2 v3 v4 σ r2 σ1 →
      (0 ≤ wr ((wr (v3 * 64)) + v4) ∧ wr ((wr (v3 * 64)) + v4) < 384) ∧
      ∀ σ3 : Hp, σ3 = hp σ1 (k + 7) (wr ((wr (v3 * 64)) + v4)).toNat r2 →
      ∃ n' : Nat, n' < n ∧ k = k ∧ q1 = q1 ∧ q2 = q2 ∧ Ou_foreseeCares_I13 k q1 q2 σ0 n' v3 (wr (v4 + 1)) σ3))
theorem sc_in {f c : Nat} (h : c ∈ sc f) : c ∈ sg f 4 := by
  simp only [sc, sg, List.mem_cons, List.not_mem_nil, or_false] at *; omega
theorem c10 {f : Nat} : ∀ c ∈ 10 :: sc f, c ∈ sg f 4 ∨ c = 3 ∨ (7 ≤ c ∧ c ≤ 13) ∨ c = 34 := by
  intro c hc
  rcases List.mem_cons.mp hc with rfl | hc
  · exact Or.inr (Or.inr (Or.inl ⟨by decide, by decide⟩))
  · exact Or.inl (sc_in hc)
theorem fo_sc {f c : Nat} (hk : FO f) (hc : c < 35) : c ∉ sc f := by
  intro z
  simp only [sc, List.mem_cons, List.not_mem_nil, or_false] at z
  rcases hk with rfl | rfl <;> omega
theorem Ou_foreseeCares_p : Ou_foreseeCares_vc := by
  intro k f q σ hH hp
  exact ⟨7000, rfl, rfl, rfl, 0, rfl, Nat.zero_le _, rfl, Fr.rf, fun p hp => absurd hp (Nat.not_lt_zero p)⟩
theorem Ou_foreseeCares_p2 : Ou_foreseeCares_vc2 := by
  intro k f q σ0 hp m v3 σ hH hI
  obtain ⟨rfl, rfl, hW⟩ := hp
  obtain ⟨p, rfl, hpn, rfl, hf, hT⟩ := hI
  have hn6 := hW.2.1.n6
  obtain ⟨hW1, hfam, hnow⟩ := hW.keep hf c10
  rw [hW1.2.1.e9, hfam]
  refine ⟨fun h => ⟨hf, by rw [show fN (famX σ0 f) = p by omega]; exact hT⟩, fun h => ⟨1000 * (6 - p) + 200, by omega, rfl, rfl, rfl, p, 0, rfl, by omega, rfl, by omega, rfl, hf, hT, fun x hx => absurd hx (Nat.not_lt_zero x)⟩⟩
theorem Ou_foreseeCares_p13 : Ou_foreseeCares_vc13 := by
  intro k f q σ0 hp m v3 v4 σ hH hI
  obtain ⟨rfl, rfl, hW⟩ := hp
  obtain ⟨p, y, rfl, hpn, rfl, hy, rfl, hf, hT, hr⟩ := hI
  have hn6 := hW.2.1.n6
  obtain ⟨hW1, hfam, hnow⟩ := hW.keep hf c10
  have hst : stX σ 31 = stX σ0 31 := stX_eq hnow
  have hkR := hW.2.2.1.2.1 p
  have ew : σ (31 + 2) p = (stX σ0 31).2.1 p := by rw [← hst]; exact (tr_in (by omega)).symm
  refine ⟨fun h => ?_, fun h => ⟨⟨by omega, by omega⟩, ?_⟩⟩
  · refine ⟨1000 * (7 - (p + 1)), by omega, rfl, rfl, rfl, p + 1, by rw [wr1 (by omega) (by omega)]; simp, by omega, rfl, hf, fun p' hp' x hx => ?_⟩
    by_cases e : p' = p
    · subst e; exact hr x (by omega)
    · exact hT p' (by omega) x hx
  · rw [Int.toNat_natCast, ew, wr1 (by omega) (by omega)]
    obtain ⟨z, hz⟩ := Int.eq_ofNat_of_zero_le hkR.1
    have hzN : ((stX σ0 31).2.1 p).toNat = z := by rw [hz]; rfl
    rw [hzN] at hr
    rw [hz] at hkR ⊢
    rw [iAndN_n (by omega) (by omega)]
    refine ⟨fun h2 => ⟨1000 * (6 - p) + 200 - (y + 1), by omega, rfl, rfl, rfl, p, y + 1, rfl, hpn, by simp, by omega, rfl, hf, hT, fun x hx hn => ?_⟩, fun h2 => ⟨⟨hW1.1, Or.inr (Or.inr rfl), by omega, by omega, by omega, by omega, hW1.2.1, hW1.2.2.1.ss⟩, ?_⟩⟩
    · by_cases e : x = y
      · subst e; rw [hzN] at hn; omega
      · exact hr x (by omega) (by rw [hzN] at hn; exact hn)
    · rintro r2 σ1 ⟨g1, rfl⟩
      rw [hfam, hst, Int.toNat_natCast]
      have ei : wr (wr ((p : Int) * 64) + (y : Int)) = ((p * 64 + y : Nat) : Int) := by
        rw [wr_id (x := (p : Int) * 64) (by omega) (by omega), wr_id (by omega) (by omega)]; simp
      rw [ei, Int.toNat_natCast]
      refine ⟨⟨by omega, by omega⟩, ?_⟩
      rintro σ3 rfl
      have e10 : σ1 10 = σ 10 := g1 10 (fo_sc hW.1 (by decide))
      refine ⟨1000 * (6 - p) + 200 - (y + 1), by omega, rfl, rfl, rfl, p, y + 1, rfl, hpn, by simp, by omega, rfl, Fr.hp (hf.tr (g1.mono (fun c hc => List.mem_cons_of_mem _ hc))) (by simp), fun p' hp' x hx hn => ?_, fun x hx hn => ?_⟩
      · rw [hp_r2 (by omega), e10]; exact hT p' hp' x hx hn
      · rw [hzN] at hn
        by_cases e : x = y
        · subst e; exact hp_r1
        · rw [hp_r2 (by omega), e10]; exact hr x (by omega) hn
def Ou_foreseeCares_I : List AV → Hp → Nat → Nat → List AV → List AV → Hp → Prop := fun as σ0 pc n st ls σ => (match as with
    | [.inr (.inr (.inl (k, 0, 4))), .inr (.inr (.inl (q1, 0, 1))), .inr (.inr (.inl (q2, 0, 7)))] => (bif Nat.beq pc 2 then (match st, ls with
      | [], [.inr (.inr (.inl (k', 0, 4))), .inr (.inr (.inl (q1', 0, 1))), .inr (.inr (.inl (q2', 0, 7))), .inl v3, _] => k = k' ∧ q1 = q1' ∧ q2 = q2' ∧ Ou_foreseeCares_I2 k q1 q2 σ0 n v3 σ
      | _, _ => False) else (bif Nat.beq pc 13 then (match st, ls with
      | [], [.inr (.inr (.inl (k', 0, 4))), .inr (.inr (.inl (q1', 0, 1))), .inr (.inr (.inl (q2', 0, 7))), .inl v3, .inl v4] => k = k' ∧ q1 = q1' ∧ q2 = q2' ∧ Ou_foreseeCares_I13 k q1 q2 σ0 n v3 v4 σ
      | _, _ => False) else False))
    | _ => False)
def Ou_foreseeCares_ct : Nat → Ct := fun n => match n with
  | 0 => Fa_grownCare_cs
  | _ => Ou_foreseeCares_cs
set_option maxRecDepth 20000 in
set_option maxHeartbeats 4000000 in
theorem Ou_foreseeCares_met {l : Launch} {D : va_G} {ad : Nat → Nat} {ca : Nat → ClassId} {L : Nat} {fx : Nat → Int} : ax_MC l D ad ca L fx yX4_foreseeCares cX4_foreseeCares 5 none 4 Ou_foreseeCares_cs := by
  refine ax_met (oc := 4) (ct := Ou_foreseeCares_ct) (calls := Ou_foreseeCares_cl) (bs := Ou_foreseeCares_bk) (cut := fun pc => Nat.beq pc 2 || Nat.beq pc 13) (f := 7) (I := Ou_foreseeCares_I) (by decide) rfl rfl Ou_foreseeCares_ck (List.forall_mem_cons.mpr ⟨ax_cwV Fa_grownCare_met (by decide) (by decide) rfl (by decide) rfl (ax_m4 140 (by decide +kernel) rfl) Fa_grownCare_w rfl Fa_grownCare_ds, fun _ h => absurd h List.not_mem_nil⟩) ?_ ?_
  · intro as σ0 hp hH
    match as, hp with
    | [.inr (.inr (.inl (k, 0, 4))), .inr (.inr (.inl (q1, 0, 1))), .inr (.inr (.inl (q2, 0, 7)))], hp => exact ⟨rfl, Ou_foreseeCares_p k q1 q2 σ0 hH hp⟩
  · intro as σ0 hp n pc st ls σ hH hI
    match as, hp, hI with
    | [.inr (.inr (.inl (k, 0, 4))), .inr (.inr (.inl (q1, 0, 1))), .inr (.inr (.inl (q2, 0, 7)))], hp, hI =>
      rcases ax_bifE hI with ⟨hpc, hI⟩ | ⟨-, hI⟩
      · have := Nat.eq_of_beq_eq_true hpc
        subst this
        match st, ls, hI with
        | [], [.inr (.inr (.inl (k', 0, 4))), .inr (.inr (.inl (q1', 0, 1))), .inr (.inr (.inl (q2', 0, 7))), .inl v3, _], hI =>
          obtain ⟨rfl, rfl, rfl, hI⟩ := hI
          exact Ou_foreseeCares_p2 k q1 q2 σ0 hp n v3 σ hH hI
      rcases ax_bifE hI with ⟨hpc, hI⟩ | ⟨-, hI⟩
      · have := Nat.eq_of_beq_eq_true hpc
        subst this
        match st, ls, hI with
        | [], [.inr (.inr (.inl (k', 0, 4))), .inr (.inr (.inl (q1', 0, 1))), .inr (.inr (.inl (q2', 0, 7))), .inl v3, .inl v4], hI =>
          obtain ⟨rfl, rfl, rfl, hI⟩ := hI
          exact Ou_foreseeCares_p13 k q1 q2 σ0 hp n v3 v4 σ hH hI
      exact False.elim hI
