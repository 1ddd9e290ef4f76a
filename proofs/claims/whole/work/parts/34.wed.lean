-- THE OUTLOOK: by whom two houses are best wed
def hz (F : Fam) (h : Int) : Nat → Nat
  | 0 => 0
  | p + 1 => hz F h p + (if fHou F p = h then 1 else 0)
theorem hz_s (F : Fam) (h : Int) (p : Nat) : hz F h (p + 1) = hz F h p + (if fHou F p = h then 1 else 0) := rfl
def hi (F : Fam) (h : Int) : Nat → Nat → Nat
  | 0 => fun _ => 0
  | p + 1 => fun j => if fHou F p = h ∧ j = hz F h p then p else hi F h p j
theorem hi_s (F : Fam) (h : Int) (p j : Nat) : hi F h (p + 1) j = if fHou F p = h ∧ j = hz F h p then p else hi F h p j := rfl
theorem hz_le (F : Fam) (h : Int) (p : Nat) : hz F h p ≤ p := by
  induction p with
  | zero => exact Nat.le_refl 0
  | succ p ih => rw [hz_s]; split <;> omega
theorem hz_mono (F : Fam) (h : Int) {p q : Nat} (hpq : p ≤ q) : hz F h p ≤ hz F h q := by
  induction q with
  | zero => have : p = 0 := by omega
            subst this; exact Nat.le_refl _
  | succ q ih =>
    by_cases e : p = q + 1
    · subst e; exact Nat.le_refl _
    · have := ih (by omega)
      rw [hz_s]; omega
theorem hi_at {F : Fam} {h : Int} {p i : Nat} (hip : i < p) (hh : fHou F i = h) : hi F h p (hz F h i) = i := by
  induction p with
  | zero => omega
  | succ p ih =>
    rw [hi_s]
    by_cases e : i = p
    · subst e; rw [if_pos ⟨hh, rfl⟩]
    · have h1 := hz_mono F h (p := i + 1) (q := p) (by omega)
      rw [hz_s, if_pos hh] at h1
      rw [if_neg (by omega)]
      exact ih (by omega)
theorem hi_in {F : Fam} {h : Int} {p j : Nat} (hj : j < hz F h p) : hi F h p j < p ∧ fHou F (hi F h p j) = h ∧ hz F h (hi F h p j) = j := by
  induction p with
  | zero => exact absurd hj (Nat.not_lt_zero j)
  | succ p ih =>
    rw [hi_s]
    by_cases e : fHou F p = h ∧ j = hz F h p
    · rw [if_pos e]; exact ⟨by omega, e.1, e.2.symm⟩
    · rw [if_neg e]
      rw [hz_s] at hj
      have hj2 : j < hz F h p := by
        by_cases e2 : fHou F p = h
        · rw [if_pos e2] at hj
          have : j ≠ hz F h p := fun z => e ⟨e2, z⟩
          omega
        · rw [if_neg e2] at hj; omega
      have := ih hj2
      exact ⟨by omega, this.2⟩
def Ou_listHouse_pre (f : Nat) (_a : Int) (w n : Nat) (σ : Hp) : Prop := FO f ∧ FS σ f ∧ (w = 12 ∨ w = 13) ∧ n = 6
def Ou_listHouse_post (f : Nat) (a : Int) (w _n : Nat) (σ : Hp) (r : Int) (σ' : Hp) : Prop := Fr [w] σ σ' ∧ r = (hz (famX σ f) a (fN (famX σ f)) : Nat) ∧ ∀ j, j < hz (famX σ f) a (fN (famX σ f)) → σ' w j = (hi (famX σ f) a (fN (famX σ f)) j : Nat)
def Ou_listHouse_I5 (f : Nat) (a : Int) (w _n : Nat) (σ0 : Hp) (m : Nat) (v3 v4 : Int) (σ : Hp) : Prop := ∃ i : Nat, v4 = i ∧ i ≤ fN (famX σ0 f) ∧ m = 6 - i ∧ Fr [w] σ0 σ ∧ v3 = (hz (famX σ0 f) a i : Nat) ∧ ∀ j, j < hz (famX σ0 f) a i → σ w j = (hi (famX σ0 f) a i j : Nat)
def Ou_listHouse_bk : List (Nat × List Item) := [(0, [(.iconst 0, 1, [], []), (.istore_n 3, 1, [], []), (.iconst 0, 1, [], []), (.istore 4, 2, [], [])]),
  (5, [(.iload 4, 2, [], []), (.aload_n 0, 1, [], []), (.getfield 50, 3, [1, 9, 0, 0, 0, 0], []), (.if_icmp .ge 35, 3, [46], []), (.iload 4, 2, [], []), (.aload_n 2, 1, [], []), (.arraylength, 1, [], []), (.if_icmp .ge 28, 3, [46], []), (.aload_n 0, 1, [], []), (.getfield 131, 3, [1, 1, 4, 2, 1, 6], []), (.iload 4, 2, [], []), (.iaload, 1, [], []), (.iload_n 1, 1, [], []), (.if_icmp .ne 11, 3, [40], []), (.aload_n 2, 1, [], []), (.iload_n 3, 1, [], []), (.iload 4, 2, [], []), (.iastore, 1, [], []), (.iinc 3 1, 3, [], [])]),
  (40, [(.iinc 4 1, 3, [], []), (.goto (-38), 3, [5], [])]),
  (46, [(.iload_n 3, 1, [], []), (.ireturn, 1, [], [])])]
def Ou_listHouse_cl : List (Instr × Nat) := []
set_option maxRecDepth 20000 in
theorem Ou_listHouse_ck : Ou_listHouse_bk.all (fun b => ax_chB 4 5 cX4_listHouse Ou_listHouse_cl b.1 b.2) = true := by decide +kernel
def Ou_listHouse_cs : Ct := (3, 0, 1, (0, 0), fun as σ => (match as with
    | [.inr (.inr (.inl (q1, 0, 1))), .inl a2, .inr (.inr (.inl (q3, 1, n3)))] => Ou_listHouse_pre q1 a2 q3 n3 σ
    | _ => False), fun as σ r σ' => (match as with
    | [.inr (.inr (.inl (q1, 0, 1))), .inl a2, .inr (.inr (.inl (q3, 1, n3)))] => Ou_listHouse_post q1 a2 q3 n3 σ r σ'
    | _ => False))
theorem Ou_listHouse_w : ∀ w ∈ ([.static yX4_listHouse, .initialized yX4_listHouse.cls, .code yX4_listHouse cX4_listHouse 5 (some .int)] : List Cond), w ∈ ax_tb := ax_w3 (ax_m4 166 (by decide +kernel) rfl) (ax_m1 3 (by decide +kernel) rfl) (ax_m4 167 (by decide +kernel) rfl)
theorem Ou_listHouse_ds : yX4_listHouse.cls ≠ "java/lang/invoke/MethodHandle" ∧ yX4_listHouse.cls ≠ "java/lang/invoke/VarHandle" ∧ (parseMethodDescriptor yX4_listHouse.desc).map (fun d => d.parameters.length) = some 3 := by decide +kernel
def Ou_listHouse_vc : Prop := ∀ (q1 : Nat) (a2 : Int) (q3 : Nat) (n3 : Nat) (σ : Hp), ax_H σ → Ou_listHouse_pre q1 a2 q3 n3 σ →
  ∃ n' : Nat, q1 = q1 ∧ a2 = a2 ∧ n3 = n3 ∧ q3 = q3 ∧ Ou_listHouse_I5 q1 a2 q3 n3 σ n' 0 0 σ
def Ou_listHouse_vc5 : Prop := ∀ (q1 : Nat) (a2 : Int) (q3 : Nat) (n3 : Nat) (σ0 : Hp), Ou_listHouse_pre q1 a2 q3 n3 σ0 → ∀ (n : Nat) (v3 : Int) (v4 : Int) (σ : Hp), ax_H σ → Ou_listHouse_I5 q1 a2 q3 n3 σ0 n v3 v4 σ →
  (σ q1 9 ≤ v4 →
    Ou_listHouse_post q1 a2 q3 n3 σ0 v3 σ) ∧
  (¬ (σ q1 9 ≤ v4) →
    ((n3 : Int) ≤ v4 →
      Ou_listHouse_post q1 a2 q3 n3 σ0 v3 σ) ∧
    (¬ ((n3 : Int) ≤ v4) →
      (0 ≤ v4 ∧ v4 < 6) ∧
      (¬ σ (q1 + 2) v4.toNat = a2 →
        ∃ n' : Nat, n' < n ∧ q1 = q1 ∧ a2 = a2 ∧ n3 = n3 ∧ q3 = q3 ∧ Ou_listHouse_I5 q1 a2 q3 n3 σ0 n' v3 (wr (v4 + 1)) σ) ∧
      (¬ (¬ σ (q1 + 2) v4.toNat = a2) →
        (0 ≤ v3 ∧ v3 < (n3 : Int)) ∧
        ∀ σ1 : Hp, σ1 = hp σ q3 v3.toNat v4 →
        ∃ n' : Nat, n' < n ∧ q1 = q1 ∧ a2 = a2 ∧ n3 = n3 ∧ q3 = q3 ∧ Ou_listHouse_I5 q1 a2 q3 n3 σ0 n' (wr (v3 + 1)) (wr (v4 + 1)) σ1)))
theorem Ou_listHouse_p : Ou_listHouse_vc := by
  intro f a w n σ hH hp
  exact ⟨6, rfl, rfl, rfl, rfl, 0, rfl, Nat.zero_le _, rfl, Fr.rf, rfl, fun j hj => absurd hj (Nat.not_lt_zero j)⟩
theorem Ou_listHouse_p5 : Ou_listHouse_vc5 := by
  intro f a w n σ0 hp m v3 v4 σ hH hI
  obtain ⟨hk, hF, hw, rfl⟩ := hp
  obtain ⟨i, rfl, hi6, rfl, hf, rfl, hr⟩ := hI
  have hn6 := hF.n6
  have ek : ∀ d, d ≤ 15 → σ (f + d) = σ0 (f + d) := fun d hd => hf _ (by simp only [List.mem_cons, List.not_mem_nil, or_false]; rcases hk with rfl | rfl <;> omega)
  have e0 : σ f = σ0 f := ek 0 (by omega)
  rw [e0, hF.e9]
  have hzl := hz_le (famX σ0 f) a i
  refine ⟨fun h => ?_, fun h => ⟨fun h2 => absurd h2 (by omega), fun h2 => ⟨⟨by omega, by omega⟩, ?_⟩⟩⟩
  · have e : fN (famX σ0 f) = i := by omega
    exact ⟨hf, by rw [e], by rw [e]; exact hr⟩
  · rw [ek 2 (by omega), Int.toNat_natCast, Int.toNat_natCast, wr1 (by omega) (by omega), wr1 (by omega) (by omega)]
    have eh : fHou (famX σ0 f) i = σ0 (f + 2) i := tr_in (by omega)
    rw [← eh]
    refine ⟨fun h3 => ⟨6 - (i + 1), by omega, rfl, rfl, rfl, rfl, i + 1, by simp, by omega, rfl, hf, by rw [hz_s, if_neg h3, Nat.add_zero], ?_⟩, fun h3 => ⟨⟨by omega, by omega⟩, ?_⟩⟩
    · intro j hj
      rw [hz_s, if_neg h3] at hj
      rw [hi_s, if_neg (fun z => h3 z.1)]
      exact hr j hj
    · have h3' := Classical.not_not.mp h3
      rintro σ1 rfl
      refine ⟨6 - (i + 1), by omega, rfl, rfl, rfl, rfl, i + 1, by simp, by omega, rfl, Fr.hp hf (by simp), by rw [hz_s, if_pos h3']; simp, ?_⟩
      intro j hj
      rw [hz_s, if_pos h3'] at hj
      rw [hi_s, hp_rd]
      by_cases e : j = hz (famX σ0 f) a i
      · rw [if_pos ⟨rfl, e⟩, if_pos ⟨h3', e⟩]
      · rw [if_neg (fun z => e z.2), if_neg (fun z => e z.2)]
        exact hr j (by omega)
def Ou_listHouse_I : List AV → Hp → Nat → Nat → List AV → List AV → Hp → Prop := fun as σ0 pc n st ls σ => (match as with
    | [.inr (.inr (.inl (q1, 0, 1))), .inl a2, .inr (.inr (.inl (q3, 1, n3)))] => (bif Nat.beq pc 5 then (match st, ls with
      | [], [.inr (.inr (.inl (q1', 0, 1))), .inl a2', .inr (.inr (.inl (q3', 1, n3'))), .inl v3, .inl v4] => q1 = q1' ∧ a2 = a2' ∧ n3 = n3' ∧ q3 = q3' ∧ Ou_listHouse_I5 q1 a2 q3 n3 σ0 n v3 v4 σ
      | _, _ => False) else False)
    | _ => False)
def Ou_listHouse_ct : Nat → Ct := fun n => match n with
  | _ => Ou_listHouse_cs
set_option maxRecDepth 20000 in
set_option maxHeartbeats 4000000 in
theorem Ou_listHouse_met {l : Launch} {D : va_G} {ad : Nat → Nat} {ca : Nat → ClassId} {L : Nat} {fx : Nat → Int} : ax_MC l D ad ca L fx yX4_listHouse cX4_listHouse 5 (some .int) 1 Ou_listHouse_cs := by
  refine ax_met (oc := 4) (ct := Ou_listHouse_ct) (calls := Ou_listHouse_cl) (bs := Ou_listHouse_bk) (cut := fun pc => Nat.beq pc 5) (f := 5) (I := Ou_listHouse_I) (by decide) rfl rfl Ou_listHouse_ck (fun _ h => absurd h List.not_mem_nil) ?_ ?_
  · intro as σ0 hp hH
    match as, hp with
    | [.inr (.inr (.inl (q1, 0, 1))), .inl a2, .inr (.inr (.inl (q3, 1, n3)))], hp => exact ⟨rfl, Ou_listHouse_p q1 a2 q3 n3 σ0 hH hp⟩
  · intro as σ0 hp n pc st ls σ hH hI
    match as, hp, hI with
    | [.inr (.inr (.inl (q1, 0, 1))), .inl a2, .inr (.inr (.inl (q3, 1, n3)))], hp, hI =>
      rcases ax_bifE hI with ⟨hpc, hI⟩ | ⟨-, hI⟩
      · have := Nat.eq_of_beq_eq_true hpc
        subst this
        match st, ls, hI with
        | [], [.inr (.inr (.inl (q1', 0, 1))), .inl a2', .inr (.inr (.inl (q3', 1, n3'))), .inl v3, .inl v4], hI =>
          obtain ⟨rfl, rfl, rfl, rfl, hI⟩ := hI
          exact Ou_listHouse_p5 q1 a2 q3 n3 σ0 hp n v3 v4 σ hH hI
      exact False.elim hI
/-- the weddings of the last j of house 0: whom of house 1 they take, how many, the most care; digit 6 is nobody -/
def lay (g : Nat → Nat) (c : Nat → Int) (a : Nat) (D : Nat → Nat) : Nat → Option (Nat × Nat × Int)
  | 0 => some (0, 0, 0)
  | j + 1 => (lay g c a D j).bind fun x => if D j = 6 then some x else if x.1.testBit (D j) = true then none else some (x.1 ||| 2 ^ D j, x.2.1 + 1, max x.2.2 (c (g (a - 1 - j)) + c (D j)))
theorem lay_s (g : Nat → Nat) (c : Nat → Int) (a : Nat) (D : Nat → Nat) (j : Nat) : lay g c a D (j + 1) = (lay g c a D j).bind fun x => if D j = 6 then some x else if x.1.testBit (D j) = true then none else some (x.1 ||| 2 ^ D j, x.2.1 + 1, max x.2.2 (c (g (a - 1 - j)) + c (D j))) := rfl
def wcost (g : Nat → Nat) (c : Nat → Int) (a due : Nat) (D : Nat → Nat) : Int := match lay g c a D a with
  | none => -1
  | some x => if x.2.1 = due then x.2.2 else -1
theorem lay_ext {g g' : Nat → Nat} {c c' : Nat → Int} {a : Nat} {D D' : Nat → Nat} : ∀ j, j ≤ a → (∀ i, i < j → D i = D' i ∧ c (g (a - 1 - i)) = c' (g' (a - 1 - i)) ∧ (D i ≠ 6 → c (D i) = c' (D i))) → lay g c a D j = lay g' c' a D' j := by
  intro j
  induction j with
  | zero => intro _ _; rfl
  | succ j ih =>
    intro hj h
    rw [lay_s, lay_s, ih (by omega) (fun i hi => h i (by omega)), ← (h j (by omega)).1, (h j (by omega)).2.1]
    congr 1
    funext x
    by_cases e : D j = 6
    · rw [if_pos e, if_pos e]
    · rw [(h j (by omega)).2.2 e]
theorem lay_none {g : Nat → Nat} {c : Nat → Int} {a : Nat} {D : Nat → Nat} {j : Nat} (h : lay g c a D j = none) : ∀ m, j ≤ m → lay g c a D m = none := by
  intro m
  induction m with
  | zero => intro hm; have : j = 0 := by omega
            subst this; exact h
  | succ m ih =>
    intro hm
    by_cases e : j = m + 1
    · rw [← e]; exact h
    · rw [lay_s, ih (by omega)]; rfl
/-- the digits of a way -/
def Dw (br : Nat → Nat) (b w : Nat) (j : Nat) : Nat := if w / (b + 1) ^ j % (b + 1) < b then br (w / (b + 1) ^ j % (b + 1)) else 6
def nf (f : Nat → Int) : Nat → Nat := fun i => (f i).toNat
def Ou_mostOfWay_pre (k q : Nat) (w a b _d : Int) (σ : Hp) : Prop := k = 3 ∧ q = 31 ∧ SS σ 31 ∧ 0 ≤ w ∧ w < 1000000 ∧ 0 ≤ a ∧ a ≤ 6 ∧ 0 ≤ b ∧ b ≤ 6 ∧ (∀ j : Nat, (j : Int) < a → 0 ≤ σ 12 j ∧ σ 12 j < 6) ∧ (∀ j : Nat, (j : Int) < b → 0 ≤ σ 13 j ∧ σ 13 j < 6) ∧ ∀ i j : Nat, (i : Int) < b → (j : Int) < b → σ 13 i = σ 13 j → i = j
def Ou_mostOfWay_post (_k _q : Nat) (w a b d : Int) (σ : Hp) (r : Int) (σ' : Hp) : Prop := σ' = σ ∧ (0 ≤ d → r = wcost (nf (σ 12)) (σ 32) a.toNat d.toNat (Dw (nf (σ 13)) b.toNat w.toNat))
def Ou_mostOfWay_I17 (_k _q : Nat) (w a b _d : Int) (σ0 : Hp) (m : Nat) (v6 v7 v8 v9 v10 : Int) (σ : Hp) : Prop := σ = σ0 ∧ ∃ j u had wed : Nat, (j : Int) ≤ a ∧ m = a.toNat - j ∧ v10 = a - 1 - j ∧ v6 = (w.toNat / (b.toNat + 1) ^ j : Nat) ∧ v7 = u ∧ u < 64 ∧ v8 = wed ∧ wed ≤ j ∧ 0 ≤ v9 ∧ lay (nf (σ 12)) (σ 32) a.toNat (Dw (nf (σ 13)) b.toNat w.toNat) j = some (had, wed, v9) ∧ (∀ e, e < b.toNat → u.testBit e = had.testBit (nf (σ 13) e))
def Ou_mostOfWay_bk : List (Nat × List Item) := [(0, [(.iload_n 2, 1, [], []), (.istore 6, 2, [], []), (.iconst 0, 1, [], []), (.istore 7, 2, [], []), (.iconst 0, 1, [], []), (.istore 8, 2, [], []), (.iconst 0, 1, [], []), (.istore 9, 2, [], []), (.iload_n 3, 1, [], []), (.iconst 1, 1, [], []), (.isub, 1, [], []), (.istore 10, 2, [], [])]),
  (17, [(.iload 10, 2, [], []), (.ifCond .lt 94, 3, [113], []), (.iload 6, 2, [], []), (.iload 4, 2, [], []), (.iconst 1, 1, [], []), (.iadd, 1, [], []), (.irem, 1, [], []), (.istore 11, 2, [], []), (.iload 6, 2, [], []), (.iload 4, 2, [], []), (.iconst 1, 1, [], []), (.iadd, 1, [], []), (.idiv, 1, [], []), (.istore 6, 2, [], []), (.iload 11, 2, [], []), (.iload 4, 2, [], []), (.if_icmp .lt 6, 3, [50], []), (.goto 60, 3, [107], [])]),
  (50, [(.iload 7, 2, [], []), (.iload 11, 2, [], []), (.ishr, 1, [], []), (.iconst 1, 1, [], []), (.iand, 1, [], []), (.iconst 1, 1, [], []), (.if_icmp .ne 5, 3, [63], []), (.iconst (-1), 1, [], []), (.ireturn, 1, [], [])]),
  (63, [(.iload 7, 2, [], []), (.iconst 1, 1, [], []), (.iload 11, 2, [], []), (.ishl, 1, [], []), (.ior, 1, [], []), (.istore 7, 2, [], []), (.iinc 8 1, 3, [], []), (.iload 9, 2, [], []), (.aload_n 1, 1, [], []), (.getfield 58, 3, [7, 0, 4, 1, 1, 6], []), (.aload_n 0, 1, [], []), (.getfield 34, 3, [4, 6, 4, 9, 1, 6], []), (.iload 10, 2, [], []), (.iaload, 1, [], []), (.iaload, 1, [], []), (.aload_n 1, 1, [], []), (.getfield 58, 3, [7, 0, 4, 1, 1, 6], []), (.aload_n 0, 1, [], []), (.getfield 37, 3, [4, 7, 4, 10, 1, 6], []), (.iload 11, 2, [], []), (.iaload, 1, [], []), (.iaload, 1, [], []), (.iadd, 1, [], []), (.invokestatic 134, 3, [0], []), (.istore 9, 2, [], [])]),
  (107, [(.iinc 10 (-1), 3, [], []), (.goto (-93), 3, [17], [])]),
  (113, [(.iload 8, 2, [], []), (.iload 5, 2, [], []), (.if_icmp .ne 8, 3, [125], []), (.iload 9, 2, [], []), (.goto 4, 3, [126], [])]),
  (125, [(.iconst (-1), 1, [], [])]),
  (126, [(.ireturn, 1, [], [])])]
def Ou_mostOfWay_cl : List (Instr × Nat) := [(.invokestatic 134, 0)]
set_option maxRecDepth 20000 in
theorem Ou_mostOfWay_ck : Ou_mostOfWay_bk.all (fun b => ax_chB 4 12 cX4_mostOfWay Ou_mostOfWay_cl b.1 b.2) = true := by decide +kernel
def Ou_mostOfWay_cs : Ct := (6, 5, 1, (0, 0), fun as σ => (match as with
    | [.inr (.inr (.inl (k, 0, 4))), .inr (.inr (.inl (q1, 0, 7))), .inl a2, .inl a3, .inl a4, .inl a5] => Ou_mostOfWay_pre k q1 a2 a3 a4 a5 σ
    | _ => False), fun as σ r σ' => (match as with
    | [.inr (.inr (.inl (k, 0, 4))), .inr (.inr (.inl (q1, 0, 7))), .inl a2, .inl a3, .inl a4, .inl a5] => Ou_mostOfWay_post k q1 a2 a3 a4 a5 σ r σ'
    | _ => False))
theorem Ou_mostOfWay_w : ∀ w ∈ ([.instanceMethod yX4_mostOfWay, .selects yX4_mostOfWay.cls yX4_mostOfWay yX4_mostOfWay, .initialized yX4_mostOfWay.cls, .code yX4_mostOfWay cX4_mostOfWay 12 (some .int)] : List Cond), w ∈ ax_tb := ax_w4 (ax_m4 170 (by decide +kernel) rfl) (ax_m4 171 (by decide +kernel) rfl) (ax_m1 3 (by decide +kernel) rfl) (ax_m4 172 (by decide +kernel) rfl)
theorem Ou_mostOfWay_ds : yX4_mostOfWay.cls ≠ "java/lang/invoke/MethodHandle" ∧ yX4_mostOfWay.cls ≠ "java/lang/invoke/VarHandle" ∧ (parseMethodDescriptor yX4_mostOfWay.desc).map (fun d => d.parameters.length) = some 5 := by decide +kernel
def Ou_mostOfWay_vc : Prop := ∀ (k : Nat) (q1 : Nat) (a2 : Int) (a3 : Int) (a4 : Int) (a5 : Int) (σ : Hp), ax_H σ → Ou_mostOfWay_pre k q1 a2 a3 a4 a5 σ →
  ∃ n' : Nat, k = k ∧ q1 = q1 ∧ a2 = a2 ∧ a3 = a3 ∧ a4 = a4 ∧ a5 = a5 ∧ Ou_mostOfWay_I17 k q1 a2 a3 a4 a5 σ n' a2 0 0 0 (wr (a3 - 1)) σ
def Ou_mostOfWay_vc17 : Prop := ∀ (k : Nat) (q1 : Nat) (a2 : Int) (a3 : Int) (a4 : Int) (a5 : Int) (σ0 : Hp), Ou_mostOfWay_pre k q1 a2 a3 a4 a5 σ0 → ∀ (n : Nat) (v6 : Int) (v7 : Int) (v8 : Int) (v9 : Int) (v10 : Int) (σ : Hp), ax_H σ → Ou_mostOfWay_I17 k q1 a2 a3 a4 a5 σ0 n v6 v7 v8 v9 v10 σ →
  (v10 < 0 →
    (¬ v8 = a5 →
      Ou_mostOfWay_post k q1 a2 a3 a4 a5 σ0 (-1) σ) ∧
    (¬ (¬ v8 = a5) →
      Ou_mostOfWay_post k q1 a2 a3 a4 a5 σ0 v9 σ)) ∧
  (¬ (v10 < 0) →
    ¬ (wr (a4 + 1)) = 0 ∧
    ¬ (wr (a4 + 1)) = 0 ∧
    (iRem v6 (wr (a4 + 1)) < a4 →
      (¬ iAnd (iShr v7 (iRem v6 (wr (a4 + 1)))) 1 = 1 →
        (0 ≤ v10 ∧ v10 < 6) ∧
        (0 ≤ σ (k + 9) v10.toNat ∧ σ (k + 9) v10.toNat < 6) ∧
        (0 ≤ iRem v6 (wr (a4 + 1)) ∧ iRem v6 (wr (a4 + 1)) < 6) ∧
        (0 ≤ σ (k + 10) (iRem v6 (wr (a4 + 1))).toNat ∧ σ (k + 10) (iRem v6 (wr (a4 + 1))).toNat < 6) ∧
        Jm_max_pre v9 (wr ((σ (q1 + 1) (σ (k + 9) v10.toNat).toNat) + (σ (q1 + 1) (σ (k + 10) (iRem v6 (wr (a4 + 1))).toNat).toNat))) σ ∧
        ∀ (r2 : Int) (σ1 : Hp), Jm_max_post v9 (wr ((σ (q1 + 1) (σ (k + 9) v10.toNat).toNat) + (σ (q1 + 1) (σ (k + 10) (iRem v6 (wr (a4 + 1))).toNat).toNat))) σ r2 σ1 →
        ∃ n' : Nat, n' < n ∧ k = k ∧ q1 = q1 ∧ a2 = a2 ∧ a3 = a3 ∧ a4 = a4 ∧ a5 = a5 ∧ Ou_mostOfWay_I17 k q1 a2 a3 a4 a5 σ0 n' (iDiv v6 (wr (a4 + 1))) (iOr v7 (iShl 1 (iRem v6 (wr (a4 + 1))))) (wr (v8 + 1)) r2 (wr (v10 + (-1))) σ1) ∧
      (¬ (¬ iAnd (iShr v7 (iRem v6 (wr (a4 + 1)))) 1 = 1) →
        Ou_mostOfWay_post k q1 a2 a3 a4 a5 σ0 (-1) σ)) ∧
    (¬ (iRem v6 (wr (a4 + 1)) < a4) →
      ∃ n' : Nat, n' < n ∧ k = k ∧ q1 = q1 ∧ a2 = a2 ∧ a3 = a3 ∧ a4 = a4 ∧ a5 = a5 ∧ Ou_mostOfWay_I17 k q1 a2 a3 a4 a5 σ0 n' (iDiv v6 (wr (a4 + 1))) v7 v8 v9 (wr (v10 + (-1))) σ))
theorem Ou_mostOfWay_p : Ou_mostOfWay_vc := by
  intro k q w a b d σ hH hp
  obtain ⟨rfl, rfl, hS, w0, w1, a0, a6, b0, b6, h12, h13, hinj⟩ := hp
  refine ⟨a.toNat, rfl, rfl, rfl, rfl, rfl, rfl, rfl, 0, 0, 0, 0, by omega, rfl, by rw [wr_id (by omega) (by omega)]; simp, by simp; omega, rfl, by omega, rfl, by omega, by omega, rfl, fun e _ => by rw [Nat.zero_testBit, Nat.zero_testBit]⟩
theorem Ou_mostOfWay_p17 : Ou_mostOfWay_vc17 := by
  intro k q w a b d σ0 hp m v6 v7 v8 v9 v10 σ hH hI
  obtain ⟨rfl, rfl, hS, w0, w1, a0, a6, b0, b6, h12, h13, hinj⟩ := hp
  obtain ⟨rfl, j, u, had, wed, hj, rfl, rfl, rfl, rfl, hu, rfl, hwed, h9, hl, hb⟩ := hI
  obtain ⟨an, rfl⟩ := Int.eq_ofNat_of_zero_le a0
  obtain ⟨bn, rfl⟩ := Int.eq_ofNat_of_zero_le b0
  simp only [Int.toNat_natCast] at hl hb
  have hB : wr ((bn : Int) + 1) = ((bn + 1 : Nat) : Int) := by rw [wr1 (by omega) (by omega)]; simp
  have hwj : w.toNat / (bn + 1) ^ j ≤ w.toNat := Nat.div_le_self _ _
  refine ⟨fun h => ?_, fun h => ?_⟩
  · have e : j = an := by omega
    subst e
    refine ⟨fun h2 => ⟨rfl, fun hd => ?_⟩, fun h2 => ⟨rfl, fun hd => ?_⟩⟩
    · unfold wcost; rw [Int.toNat_natCast, Int.toNat_natCast, hl]
      show -1 = if wed = d.toNat then v9 else -1
      rw [if_neg (by omega)]
    · unfold wcost; rw [Int.toNat_natCast, Int.toNat_natCast, hl]
      show v9 = if wed = d.toNat then v9 else -1
      rw [if_pos (by omega)]
  · rw [Int.toNat_natCast bn, hB, iRem_n (by omega) (by omega) (by omega), iDiv_n (by omega) (by omega) (by omega)]
    have hlt : w.toNat / (bn + 1) ^ j % (bn + 1) < bn + 1 := Nat.mod_lt _ (by omega)
    have ediv : w.toNat / (bn + 1) ^ j / (bn + 1) = w.toNat / (bn + 1) ^ (j + 1) := by rw [Nat.div_div_eq_div_mul, Nat.pow_succ]
    have ev10 : wr ((an : Int) - 1 - (j : Int) + (-1)) = (an : Int) - 1 - ((j + 1 : Nat) : Int) := by rw [wr_id (by omega) (by omega)]; omega
    rw [ediv, ev10]
    generalize hge : w.toNat / (bn + 1) ^ j % (bn + 1) = e at *
    refine ⟨by omega, by omega, fun h2 => ?_, fun h2 => ?_⟩
    · have he : e < bn := by omega
      have eD : Dw (nf (σ 13)) bn w.toNat j = nf (σ 13) e := by unfold Dw; rw [hge, if_pos he]
      have hbit := bit_01 (x := (u : Int)) (j := (e : Int)) (by omega) (by omega) (by omega) (by omega)
      rw [Int.toNat_natCast, bt_n, hb e he] at hbit
      have hbr := h13 e (by omega)
      have hgr := h12 (an - 1 - j) (by omega)
      have e10 : ((an : Int) - 1 - (j : Int)).toNat = an - 1 - j := by omega
      have hnf : nf (σ 13) e < 6 := by unfold nf; omega
      rw [e10, Int.toNat_natCast]
      refine ⟨fun h3 => ⟨⟨by omega, by omega⟩, hgr, ⟨by omega, by omega⟩, hbr, trivial, ?_⟩, fun h3 => ⟨rfl, fun hd => ?_⟩⟩
      · rintro r2 σ1 ⟨rfl, rfl⟩
        have hc1 : 0 ≤ σ1 (31 + 1) (σ1 (3 + 9) (an - 1 - j)).toNat ∧ σ1 (31 + 1) (σ1 (3 + 9) (an - 1 - j)).toNat ≤ 99 := (hS (σ1 12 (an - 1 - j)).toNat (by omega)).1
        have hc2 : 0 ≤ σ1 (31 + 1) (σ1 (3 + 10) e).toNat ∧ σ1 (31 + 1) (σ1 (3 + 10) e).toNat ≤ 99 := (hS (σ1 13 e).toNat (by omega)).1
        refine ⟨an - (j + 1), by omega, rfl, rfl, rfl, rfl, rfl, rfl, rfl, j + 1, u ||| 2 ^ e, had ||| 2 ^ nf (σ1 13) e, wed + 1, by omega, rfl, rfl, by rw [Int.toNat_natCast], ?_, ?_, by rw [wr1 (by omega) (by omega)]; simp, by omega, by omega, ?_, ?_⟩
        · rw [shl_1 (by omega) (by omega), Int.toNat_natCast, iOr_n (by omega) (Nat.pow_lt_pow_right (by decide) (by omega))]
        · exact Nat.or_lt_two_pow (n := 6) hu (Nat.pow_lt_pow_right (by decide) (by omega))
        · rw [Int.toNat_natCast, Int.toNat_natCast, lay_s, hl]
          show (if Dw (nf (σ1 13)) bn w.toNat j = 6 then some (had, wed, v9) else if had.testBit (Dw (nf (σ1 13)) bn w.toNat j) = true then none else some (had ||| 2 ^ Dw (nf (σ1 13)) bn w.toNat j, wed + 1, max v9 (σ1 32 (nf (σ1 12) (an - 1 - j)) + σ1 32 (Dw (nf (σ1 13)) bn w.toNat j)))) = _
          rw [eD, if_neg (by omega), if_neg (fun z => h3 (hbit.mpr z))]
          rw [wr_id (by omega) (by omega)]
          rfl
        · intro e2 he2
          rw [Int.toNat_natCast] at he2
          have hbr2 := h13 e2 (by omega)
          have hdd : decide (e = e2) = decide (nf (σ1 13) e = nf (σ1 13) e2) := by
            by_cases z : e = e2
            · subst z; simp
            · have : ¬ nf (σ1 13) e = nf (σ1 13) e2 := by
                intro y
                unfold nf at y
                exact z (hinj e e2 (by omega) (by omega) (by omega))
              simp [z, this]
          rw [Nat.testBit_or, Nat.testBit_or, Nat.testBit_two_pow, Nat.testBit_two_pow, hb e2 he2, hdd]
      · unfold wcost
        rw [Int.toNat_natCast, Int.toNat_natCast, lay_none (j := j + 1) (by
          rw [lay_s, hl]
          show (if Dw (nf (σ 13)) bn w.toNat j = 6 then some (had, wed, v9) else if had.testBit (Dw (nf (σ 13)) bn w.toNat j) = true then none else some (had ||| 2 ^ Dw (nf (σ 13)) bn w.toNat j, wed + 1, max v9 (σ 32 (nf (σ 12) (an - 1 - j)) + σ 32 (Dw (nf (σ 13)) bn w.toNat j)))) = _
          rw [eD, if_neg (by omega), if_pos (hbit.mp (Classical.not_not.mp h3))]) an (by omega)]
    · have eD : Dw (nf (σ 13)) bn w.toNat j = 6 := by unfold Dw; rw [hge, if_neg (by omega)]
      refine ⟨an - (j + 1), by omega, rfl, rfl, rfl, rfl, rfl, rfl, rfl, j + 1, u, had, wed, by omega, rfl, rfl, by rw [Int.toNat_natCast], rfl, hu, rfl, by omega, h9, ?_, by rw [Int.toNat_natCast]; exact hb⟩
      rw [Int.toNat_natCast, Int.toNat_natCast, lay_s, hl]
      show (if Dw (nf (σ 13)) bn w.toNat j = 6 then some (had, wed, v9) else _) = _
      rw [if_pos eD]
def Ou_mostOfWay_I : List AV → Hp → Nat → Nat → List AV → List AV → Hp → Prop := fun as σ0 pc n st ls σ => (match as with
    | [.inr (.inr (.inl (k, 0, 4))), .inr (.inr (.inl (q1, 0, 7))), .inl a2, .inl a3, .inl a4, .inl a5] => (bif Nat.beq pc 17 then (match st, ls with
      | [], [.inr (.inr (.inl (k', 0, 4))), .inr (.inr (.inl (q1', 0, 7))), .inl a2', .inl a3', .inl a4', .inl a5', .inl v6, .inl v7, .inl v8, .inl v9, .inl v10, _] => k = k' ∧ q1 = q1' ∧ a2 = a2' ∧ a3 = a3' ∧ a4 = a4' ∧ a5 = a5' ∧ Ou_mostOfWay_I17 k q1 a2 a3 a4 a5 σ0 n v6 v7 v8 v9 v10 σ
      | _, _ => False) else False)
    | _ => False)
def Ou_mostOfWay_ct : Nat → Ct := fun n => match n with
  | 0 => Jm_max_cs
  | _ => Ou_mostOfWay_cs
set_option maxRecDepth 20000 in
set_option maxHeartbeats 4000000 in
theorem Ou_mostOfWay_met {l : Launch} {D : va_G} {ad : Nat → Nat} {ca : Nat → ClassId} {L : Nat} {fx : Nat → Int} : ax_MC l D ad ca L fx yX4_mostOfWay cX4_mostOfWay 12 (some .int) 2 Ou_mostOfWay_cs := by
  refine ax_met (oc := 4) (ct := Ou_mostOfWay_ct) (calls := Ou_mostOfWay_cl) (bs := Ou_mostOfWay_bk) (cut := fun pc => Nat.beq pc 17) (f := 9) (I := Ou_mostOfWay_I) (by decide) rfl rfl Ou_mostOfWay_ck (List.forall_mem_cons.mpr ⟨ax_cwMax (by decide) (ax_m4 173 (by decide +kernel) rfl), fun _ h => absurd h List.not_mem_nil⟩) ?_ ?_
  · intro as σ0 hp hH
    match as, hp with
    | [.inr (.inr (.inl (k, 0, 4))), .inr (.inr (.inl (q1, 0, 7))), .inl a2, .inl a3, .inl a4, .inl a5], hp => exact ⟨rfl, Ou_mostOfWay_p k q1 a2 a3 a4 a5 σ0 hH hp⟩
  · intro as σ0 hp n pc st ls σ hH hI
    match as, hp, hI with
    | [.inr (.inr (.inl (k, 0, 4))), .inr (.inr (.inl (q1, 0, 7))), .inl a2, .inl a3, .inl a4, .inl a5], hp, hI =>
      rcases ax_bifE hI with ⟨hpc, hI⟩ | ⟨-, hI⟩
      · have := Nat.eq_of_beq_eq_true hpc
        subst this
        match st, ls, hI with
        | [], [.inr (.inr (.inl (k', 0, 4))), .inr (.inr (.inl (q1', 0, 7))), .inl a2', .inl a3', .inl a4', .inl a5', .inl v6, .inl v7, .inl v8, .inl v9, .inl v10, _], hI =>
          obtain ⟨rfl, rfl, rfl, rfl, rfl, rfl, hI⟩ := hI
          exact Ou_mostOfWay_p17 k q1 a2 a3 a4 a5 σ0 hp n v6 v7 v8 v9 v10 σ hH hI
      exact False.elim hI
def pr (g : Nat → Nat) (a : Nat) (D : Nat → Nat) : Nat → Nat → Int
  | 0 => fun _ => -1
  | j + 1 => fun p => if D j = 6 then pr g a D j p else if p = D j then (g (a - 1 - j) : Int) else if p = g (a - 1 - j) then (D j : Int) else pr g a D j p
theorem pr_s (g : Nat → Nat) (a : Nat) (D : Nat → Nat) (j p : Nat) : pr g a D (j + 1) p = if D j = 6 then pr g a D j p else if p = D j then (g (a - 1 - j) : Int) else if p = g (a - 1 - j) then (D j : Int) else pr g a D j p := rfl
theorem pr_ext {g g' : Nat → Nat} {a : Nat} {D D' : Nat → Nat} {p : Nat} : ∀ j, j ≤ a → (∀ i, i < j → D i = D' i ∧ g (a - 1 - i) = g' (a - 1 - i)) → pr g a D j p = pr g' a D' j p := by
  intro j
  induction j with
  | zero => intro _ _; rfl
  | succ j ih =>
    intro hj h
    rw [pr_s, pr_s, ih (by omega) (fun i hi => h i (by omega)), (h j (by omega)).1, (h j (by omega)).2]
def Ou_putWedding_pre (k f : Nat) (w a b : Int) (q n : Nat) (σ : Hp) : Prop := k = 3 ∧ q = 34 ∧ n = 6 ∧ FO f ∧ FS σ f ∧ 0 ≤ w ∧ w < 1000000 ∧ 0 ≤ a ∧ a ≤ 6 ∧ 0 ≤ b ∧ b ≤ 6 ∧ (∀ j : Nat, (j : Int) < a → 0 ≤ σ 12 j ∧ σ 12 j < 6) ∧ (∀ j : Nat, (j : Int) < b → 0 ≤ σ 13 j ∧ σ 13 j < 6)
def Ou_putWedding_post (_k f : Nat) (w a b : Int) (_q _n : Nat) (σ σ' : Hp) : Prop := Fr [34] σ σ' ∧ ∀ p, p < fN (famX σ f) → σ' 34 p = pr (nf (σ 12)) a.toNat (Dw (nf (σ 13)) b.toNat w.toNat) a.toNat p
def Ou_putWedding_I3 (_k f : Nat) (_w _a _b : Int) (_q _n : Nat) (σ0 : Hp) (m : Nat) (v6 : Int) (σ : Hp) : Prop := ∃ i : Nat, v6 = i ∧ i ≤ fN (famX σ0 f) ∧ m = 100 - i ∧ Fr [34] σ0 σ ∧ ∀ p, p < i → σ 34 p = -1
def Ou_putWedding_I40 (_k f : Nat) (w a b : Int) (_q _n : Nat) (σ0 : Hp) (m : Nat) (v6 v7 : Int) (σ : Hp) : Prop := ∃ j : Nat, (j : Int) ≤ a ∧ m = a.toNat - j ∧ v7 = a - 1 - j ∧ v6 = (w.toNat / (b.toNat + 1) ^ j : Nat) ∧ Fr [34] σ0 σ ∧ ∀ p, p < fN (famX σ0 f) → σ 34 p = pr (nf (σ0 12)) a.toNat (Dw (nf (σ0 13)) b.toNat w.toNat) j p
def Ou_putWedding_bk : List (Nat × List Item) := [(0, [(.iconst 0, 1, [], []), (.istore 6, 2, [], [])]),
  (3, [(.iload 6, 2, [], []), (.aload_n 1, 1, [], []), (.getfield 50, 3, [1, 9, 0, 0, 0, 0], []), (.if_icmp .ge 23, 3, [32], []), (.iload 6, 2, [], []), (.aload 5, 2, [], []), (.arraylength, 1, [], []), (.if_icmp .ge 15, 3, [32], []), (.aload 5, 2, [], []), (.iload 6, 2, [], []), (.iconst (-1), 1, [], []), (.iastore, 1, [], []), (.iinc 6 1, 3, [], []), (.goto (-26), 3, [3], [])]),
  (32, [(.iload_n 2, 1, [], []), (.istore 6, 2, [], []), (.iload_n 3, 1, [], []), (.iconst 1, 1, [], []), (.isub, 1, [], []), (.istore 7, 2, [], [])]),
  (40, [(.iload 7, 2, [], []), (.ifCond .lt 68, 3, [110], []), (.iload 6, 2, [], []), (.iload 4, 2, [], []), (.iconst 1, 1, [], []), (.iadd, 1, [], []), (.irem, 1, [], []), (.istore 8, 2, [], []), (.iload 6, 2, [], []), (.iload 4, 2, [], []), (.iconst 1, 1, [], []), (.iadd, 1, [], []), (.idiv, 1, [], []), (.istore 6, 2, [], []), (.iload 8, 2, [], []), (.iload 4, 2, [], []), (.if_icmp .ge 37, 3, [104], []), (.aload 5, 2, [], []), (.aload_n 0, 1, [], []), (.getfield 34, 3, [4, 6, 4, 9, 1, 6], []), (.iload 7, 2, [], []), (.iaload, 1, [], []), (.aload_n 0, 1, [], []), (.getfield 37, 3, [4, 7, 4, 10, 1, 6], []), (.iload 8, 2, [], []), (.iaload, 1, [], []), (.iastore, 1, [], []), (.aload 5, 2, [], []), (.aload_n 0, 1, [], []), (.getfield 37, 3, [4, 7, 4, 10, 1, 6], []), (.iload 8, 2, [], []), (.iaload, 1, [], []), (.aload_n 0, 1, [], []), (.getfield 34, 3, [4, 6, 4, 9, 1, 6], []), (.iload 7, 2, [], []), (.iaload, 1, [], []), (.iastore, 1, [], [])]),
  (104, [(.iinc 7 (-1), 3, [], []), (.goto (-67), 3, [40], [])]),
  (110, [(.return_, 1, [], [])])]
def Ou_putWedding_cl : List (Instr × Nat) := []
set_option maxRecDepth 20000 in
theorem Ou_putWedding_ck : Ou_putWedding_bk.all (fun b => ax_chB 4 9 cX4_putWedding Ou_putWedding_cl b.1 b.2) = true := by decide +kernel
def Ou_putWedding_cs : Ct := (6, 5, 0, (0, 0), fun as σ => (match as with
    | [.inr (.inr (.inl (k, 0, 4))), .inr (.inr (.inl (q1, 0, 1))), .inl a2, .inl a3, .inl a4, .inr (.inr (.inl (q5, 1, n5)))] => Ou_putWedding_pre k q1 a2 a3 a4 q5 n5 σ
    | _ => False), fun as σ r σ' => (match as with
    | [.inr (.inr (.inl (k, 0, 4))), .inr (.inr (.inl (q1, 0, 1))), .inl a2, .inl a3, .inl a4, .inr (.inr (.inl (q5, 1, n5)))] => Ou_putWedding_post k q1 a2 a3 a4 q5 n5 σ σ'
    | _ => False))
theorem Ou_putWedding_w : ∀ w ∈ ([.instanceMethod yX4_putWedding, .selects yX4_putWedding.cls yX4_putWedding yX4_putWedding, .initialized yX4_putWedding.cls, .code yX4_putWedding cX4_putWedding 9 none] : List Cond), w ∈ ax_tb := ax_w4 (ax_m4 175 (by decide +kernel) rfl) (ax_m4 176 (by decide +kernel) rfl) (ax_m1 3 (by decide +kernel) rfl) (ax_m4 177 (by decide +kernel) rfl)
theorem Ou_putWedding_ds : yX4_putWedding.cls ≠ "java/lang/invoke/MethodHandle" ∧ yX4_putWedding.cls ≠ "java/lang/invoke/VarHandle" ∧ (parseMethodDescriptor yX4_putWedding.desc).map (fun d => d.parameters.length) = some 5 := by decide +kernel
def Ou_putWedding_vc : Prop := ∀ (k : Nat) (q1 : Nat) (a2 : Int) (a3 : Int) (a4 : Int) (q5 : Nat) (n5 : Nat) (σ : Hp), ax_H σ → Ou_putWedding_pre k q1 a2 a3 a4 q5 n5 σ →
  ∃ n' : Nat, k = k ∧ q1 = q1 ∧ a2 = a2 ∧ a3 = a3 ∧ a4 = a4 ∧ n5 = n5 ∧ q5 = q5 ∧ Ou_putWedding_I3 k q1 a2 a3 a4 q5 n5 σ n' 0 σ
def Ou_putWedding_vc3 : Prop := ∀ (k : Nat) (q1 : Nat) (a2 : Int) (a3 : Int) (a4 : Int) (q5 : Nat) (n5 : Nat) (σ0 : Hp), Ou_putWedding_pre k q1 a2 a3 a4 q5 n5 σ0 → ∀ (n : Nat) (v6 : Int) (σ : Hp), ax_H σ → Ou_putWedding_I3 k q1 a2 a3 a4 q5 n5 σ0 n v6 σ →
  (σ q1 9 ≤ v6 →
    ∃ n' : Nat, n' < n ∧ k = k ∧ q1 = q1 ∧ a2 = a2 ∧ a3 = a3 ∧ a4 = a4 ∧ n5 = n5 ∧ q5 = q5 ∧ Ou_putWedding_I40 k q1 a2 a3 a4 q5 n5 σ0 n' a2 (wr (a3 - 1)) σ) ∧
  (¬ (σ q1 9 ≤ v6) →
    ((n5 : Int) ≤ v6 →
      ∃ n' : Nat, n' < n ∧ k = k ∧ q1 = q1 ∧ a2 = a2 ∧ a3 = a3 ∧ a4 = a4 ∧ n5 = n5 ∧ q5 = q5 ∧ Ou_putWedding_I40 k q1 a2 a3 a4 q5 n5 σ0 n' a2 (wr (a3 - 1)) σ) ∧
    (¬ ((n5 : Int) ≤ v6) →
      (0 ≤ v6 ∧ v6 < (n5 : Int)) ∧
      ∀ σ1 : Hp, σ1 = hp σ q5 v6.toNat (-1) →
      ∃ n' : Nat, n' < n ∧ k = k ∧ q1 = q1 ∧ a2 = a2 ∧ a3 = a3 ∧ a4 = a4 ∧ n5 = n5 ∧ q5 = q5 ∧ Ou_putWedding_I3 k q1 a2 a3 a4 q5 n5 σ0 n' (wr (v6 + 1)) σ1))
def Ou_putWedding_vc40 : Prop := ∀ (k : Nat) (q1 : Nat) (a2 : Int) (a3 : Int) (a4 : Int) (q5 : Nat) (n5 : Nat) (σ0 : Hp), Ou_putWedding_pre k q1 a2 a3 a4 q5 n5 σ0 → ∀ (n : Nat) (v6 : Int) (v7 : Int) (σ : Hp), ax_H σ → Ou_putWedding_I40 k q1 a2 a3 a4 q5 n5 σ0 n v6 v7 σ →
  (v7 < 0 →
    Ou_putWedding_post k q1 a2 a3 a4 q5 n5 σ0 σ) ∧
  (¬ (v7 < 0) →
    ¬ (wr (a4 + 1)) = 0 ∧
    ¬ (wr (a4 + 1)) = 0 ∧
    (a4 ≤ iRem v6 (wr (a4 + 1)) →
      ∃ n' : Nat, n' < n ∧ k = k ∧ q1 = q1 ∧ a2 = a2 ∧ a3 = a3 ∧ a4 = a4 ∧ n5 = n5 ∧ q5 = q5 ∧ Ou_putWedding_I40 k q1 a2 a3 a4 q5 n5 σ0 n' (iDiv v6 (wr (a4 + 1))) (wr (v7 + (-1))) σ) ∧
    (¬ (a4 ≤ iRem v6 (wr (a4 + 1))) →
      (0 ≤ v7 ∧ v7 < 6) ∧
      (0 ≤ iRem v6 (wr (a4 + 1)) ∧ iRem v6 (wr (a4 + 1)) < 6) ∧
      (0 ≤ σ (k + 9) v7.toNat ∧ σ (k + 9) v7.toNat < (n5 : Int)) ∧
      ∀ σ1 : Hp, σ1 = hp σ q5 (σ (k + 9) v7.toNat).toNat (σ (k + 10) (iRem v6 (wr (a4 + 1))).toNat) →
      (0 ≤ iRem v6 (wr (a4 + 1)) ∧ iRem v6 (wr (a4 + 1)) < 6) ∧
      (0 ≤ v7 ∧ v7 < 6) ∧
      (0 ≤ σ1 (k + 10) (iRem v6 (wr (a4 + 1))).toNat ∧ σ1 (k + 10) (iRem v6 (wr (a4 + 1))).toNat < (n5 : Int)) ∧
      ∀ σ2 : Hp, σ2 = hp σ1 q5 (σ1 (k + 10) (iRem v6 (wr (a4 + 1))).toNat).toNat (σ1 (k + 9) v7.toNat) →
      ∃ n' : Nat, n' < n ∧ k = k ∧ q1 = q1 ∧ a2 = a2 ∧ a3 = a3 ∧ a4 = a4 ∧ n5 = n5 ∧ q5 = q5 ∧ Ou_putWedding_I40 k q1 a2 a3 a4 q5 n5 σ0 n' (iDiv v6 (wr (a4 + 1))) (wr (v7 + (-1))) σ2))
theorem Ou_putWedding_p : Ou_putWedding_vc := by
  intro k f w a b q n σ hH hp
  exact ⟨100, rfl, rfl, rfl, rfl, rfl, rfl, rfl, 0, rfl, Nat.zero_le _, rfl, Fr.rf, fun j hj => absurd hj (Nat.not_lt_zero j)⟩
theorem Ou_putWedding_p3 : Ou_putWedding_vc3 := by
  intro k f w a b q n σ0 hp m v6 σ hH hI
  obtain ⟨rfl, rfl, rfl, hk, hF, w0, w1, a0, a6, b0, b6, h12, h13⟩ := hp
  obtain ⟨i, rfl, hi6, rfl, hf, hr⟩ := hI
  have hn6 := hF.n6
  have e0 : σ f = σ0 f := hf f (by simp only [List.mem_cons, List.not_mem_nil, or_false]; rcases hk with rfl | rfl <;> omega)
  rw [e0, hF.e9]
  have go : (fN (famX σ0 f) : Int) ≤ (i : Int) → ∃ n' : Nat, n' < 100 - i ∧ (3 : Nat) = 3 ∧ f = f ∧ w = w ∧ a = a ∧ b = b ∧ (6 : Nat) = 6 ∧ (34 : Nat) = 34 ∧ Ou_putWedding_I40 3 f w a b 34 6 σ0 n' w (wr (a - 1)) σ := by
    intro h
    exact ⟨a.toNat, by omega, rfl, rfl, rfl, rfl, rfl, rfl, rfl, 0, by omega, rfl, by rw [wr_id (by omega) (by omega)]; simp, by simp; omega, hf, fun p hp => hr p (by omega)⟩
  refine ⟨go, fun h => ⟨fun h2 => absurd h2 (by omega), fun h2 => ⟨⟨by omega, by omega⟩, ?_⟩⟩⟩
  rintro σ1 rfl
  rw [Int.toNat_natCast, wr1 (by omega) (by omega)]
  refine ⟨100 - (i + 1), by omega, rfl, rfl, rfl, rfl, rfl, rfl, rfl, i + 1, by simp, by omega, rfl, Fr.hp hf (by simp), fun p hp => ?_⟩
  rw [hp_rd]
  by_cases e : p = i
  · rw [if_pos ⟨rfl, e⟩]
  · rw [if_neg (fun z => e z.2)]; exact hr p (by omega)
theorem Ou_putWedding_p40 : Ou_putWedding_vc40 := by
  intro k f w a b q n σ0 hp m v6 v7 σ hH hI
  obtain ⟨rfl, rfl, rfl, hk, hF, w0, w1, a0, a6, b0, b6, h12, h13⟩ := hp
  obtain ⟨j, hj, rfl, rfl, rfl, hf, hr⟩ := hI
  obtain ⟨an, rfl⟩ := Int.eq_ofNat_of_zero_le a0
  obtain ⟨bn, rfl⟩ := Int.eq_ofNat_of_zero_le b0
  simp only [Int.toNat_natCast] at hr
  have hB : wr ((bn : Int) + 1) = ((bn + 1 : Nat) : Int) := by rw [wr1 (by omega) (by omega)]; simp
  have hwj : w.toNat / (bn + 1) ^ j ≤ w.toNat := Nat.div_le_self _ _
  refine ⟨fun h => ?_, fun h => ?_⟩
  · have e : j = an := by omega
    subst e
    exact ⟨hf, hr⟩
  · rw [Int.toNat_natCast bn, hB, iRem_n (by omega) (by omega) (by omega), iDiv_n (by omega) (by omega) (by omega)]
    have hlt : w.toNat / (bn + 1) ^ j % (bn + 1) < bn + 1 := Nat.mod_lt _ (by omega)
    have ediv : w.toNat / (bn + 1) ^ j / (bn + 1) = w.toNat / (bn + 1) ^ (j + 1) := by rw [Nat.div_div_eq_div_mul, Nat.pow_succ]
    have ev10 : wr ((an : Int) - 1 - (j : Int) + (-1)) = (an : Int) - 1 - ((j + 1 : Nat) : Int) := by rw [wr_id (by omega) (by omega)]; omega
    rw [ediv, ev10]
    generalize hge : w.toNat / (bn + 1) ^ j % (bn + 1) = e at *
    refine ⟨by omega, by omega, fun h2 => ?_, fun h2 => ?_⟩
    · have eD : Dw (nf (σ0 13)) bn w.toNat j = 6 := by unfold Dw; rw [hge, if_neg (by omega)]
      refine ⟨an - (j + 1), by omega, rfl, rfl, rfl, rfl, rfl, rfl, rfl, j + 1, by omega, rfl, rfl, rfl, hf, fun p hp => ?_⟩
      rw [Int.toNat_natCast, Int.toNat_natCast, pr_s, if_pos eD]
      exact hr p hp
    · have he : e < bn := by omega
      have eD : Dw (nf (σ0 13)) bn w.toNat j = nf (σ0 13) e := by unfold Dw; rw [hge, if_pos he]
      have e12 : σ 12 = σ0 12 := hf 12 (by simp)
      have e13 : σ 13 = σ0 13 := hf 13 (by simp)
      have hbr := h13 e (by omega)
      have hgr := h12 (an - 1 - j) (by omega)
      have e10 : ((an : Int) - 1 - (j : Int)).toNat = an - 1 - j := by omega
      rw [e10, Int.toNat_natCast, e12, e13]
      refine ⟨⟨by omega, by omega⟩, ⟨by omega, by omega⟩, ⟨hgr.1, by omega⟩, ?_⟩
      rintro σ1 rfl
      rw [hp_ne (show (3 + 10 : Nat) ≠ 34 by decide), hp_ne (show (3 + 9 : Nat) ≠ 34 by decide), e12, e13]
      refine ⟨⟨by omega, by omega⟩, ⟨by omega, by omega⟩, ⟨hbr.1, by omega⟩, ?_⟩
      rintro σ2 rfl
      refine ⟨an - (j + 1), by omega, rfl, rfl, rfl, rfl, rfl, rfl, rfl, j + 1, by omega, rfl, rfl, rfl, Fr.hp (Fr.hp hf (by simp)) (by simp), fun p hp => ?_⟩
      rw [Int.toNat_natCast, Int.toNat_natCast, pr_s, eD, if_neg (by unfold nf; omega), hp_rd, hp_rd]
      unfold nf
      by_cases e1 : p = (σ0 13 e).toNat
      · rw [if_pos ⟨rfl, e1⟩, if_pos e1]; omega
      · rw [if_neg (fun z => e1 z.2), if_neg e1]
        by_cases e2 : p = (σ0 12 (an - 1 - j)).toNat
        · rw [if_pos ⟨rfl, e2⟩, if_pos e2]; omega
        · rw [if_neg (fun z => e2 z.2), if_neg e2]
          exact hr p hp
def Ou_putWedding_I : List AV → Hp → Nat → Nat → List AV → List AV → Hp → Prop := fun as σ0 pc n st ls σ => (match as with
    | [.inr (.inr (.inl (k, 0, 4))), .inr (.inr (.inl (q1, 0, 1))), .inl a2, .inl a3, .inl a4, .inr (.inr (.inl (q5, 1, n5)))] => (bif Nat.beq pc 3 then (match st, ls with
      | [], [.inr (.inr (.inl (k', 0, 4))), .inr (.inr (.inl (q1', 0, 1))), .inl a2', .inl a3', .inl a4', .inr (.inr (.inl (q5', 1, n5'))), .inl v6, _, _] => k = k' ∧ q1 = q1' ∧ a2 = a2' ∧ a3 = a3' ∧ a4 = a4' ∧ n5 = n5' ∧ q5 = q5' ∧ Ou_putWedding_I3 k q1 a2 a3 a4 q5 n5 σ0 n v6 σ
      | _, _ => False) else (bif Nat.beq pc 40 then (match st, ls with
      | [], [.inr (.inr (.inl (k', 0, 4))), .inr (.inr (.inl (q1', 0, 1))), .inl a2', .inl a3', .inl a4', .inr (.inr (.inl (q5', 1, n5'))), .inl v6, .inl v7, _] => k = k' ∧ q1 = q1' ∧ a2 = a2' ∧ a3 = a3' ∧ a4 = a4' ∧ n5 = n5' ∧ q5 = q5' ∧ Ou_putWedding_I40 k q1 a2 a3 a4 q5 n5 σ0 n v6 v7 σ
      | _, _ => False) else False))
    | _ => False)
def Ou_putWedding_ct : Nat → Ct := fun n => match n with
  | _ => Ou_putWedding_cs
set_option maxRecDepth 20000 in
set_option maxHeartbeats 4000000 in
theorem Ou_putWedding_met {l : Launch} {D : va_G} {ad : Nat → Nat} {ca : Nat → ClassId} {L : Nat} {fx : Nat → Int} : ax_MC l D ad ca L fx yX4_putWedding cX4_putWedding 9 none 1 Ou_putWedding_cs := by
  refine ax_met (oc := 4) (ct := Ou_putWedding_ct) (calls := Ou_putWedding_cl) (bs := Ou_putWedding_bk) (cut := fun pc => Nat.beq pc 3 || Nat.beq pc 40) (f := 7) (I := Ou_putWedding_I) (by decide) rfl rfl Ou_putWedding_ck (fun _ h => absurd h List.not_mem_nil) ?_ ?_
  · intro as σ0 hp hH
    match as, hp with
    | [.inr (.inr (.inl (k, 0, 4))), .inr (.inr (.inl (q1, 0, 1))), .inl a2, .inl a3, .inl a4, .inr (.inr (.inl (q5, 1, n5)))], hp => exact ⟨rfl, Ou_putWedding_p k q1 a2 a3 a4 q5 n5 σ0 hH hp⟩
  · intro as σ0 hp n pc st ls σ hH hI
    match as, hp, hI with
    | [.inr (.inr (.inl (k, 0, 4))), .inr (.inr (.inl (q1, 0, 1))), .inl a2, .inl a3, .inl a4, .inr (.inr (.inl (q5, 1, n5)))], hp, hI =>
      rcases ax_bifE hI with ⟨hpc, hI⟩ | ⟨-, hI⟩
      · have := Nat.eq_of_beq_eq_true hpc
        subst this
        match st, ls, hI with
        | [], [.inr (.inr (.inl (k', 0, 4))), .inr (.inr (.inl (q1', 0, 1))), .inl a2', .inl a3', .inl a4', .inr (.inr (.inl (q5', 1, n5'))), .inl v6, _, _], hI =>
          obtain ⟨rfl, rfl, rfl, rfl, rfl, rfl, rfl, hI⟩ := hI
          exact Ou_putWedding_p3 k q1 a2 a3 a4 q5 n5 σ0 hp n v6 σ hH hI
      rcases ax_bifE hI with ⟨hpc, hI⟩ | ⟨-, hI⟩
      · have := Nat.eq_of_beq_eq_true hpc
        subst this
        match st, ls, hI with
        | [], [.inr (.inr (.inl (k', 0, 4))), .inr (.inr (.inl (q1', 0, 1))), .inl a2', .inl a3', .inl a4', .inr (.inr (.inl (q5', 1, n5'))), .inl v6, .inl v7, _], hI =>
          obtain ⟨rfl, rfl, rfl, rfl, rfl, rfl, rfl, hI⟩ := hI
          exact Ou_putWedding_p40 k q1 a2 a3 a4 q5 n5 σ0 hp n v6 v7 σ hH hI
      exact False.elim hI
