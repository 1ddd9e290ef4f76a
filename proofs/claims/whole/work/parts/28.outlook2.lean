-- THE OUTLOOK: nights, paths, calm, silence, words, spare
def cnt (F : Fam) (s : Sta) (p : Int) : Nat → Nat
  | 0 => 0
  | n + 1 => cnt F s p n + (if (itr F 0 s (n + 1)).2.2.1 = p then 1 else 0)
theorem cnt_s (F : Fam) (s : Sta) (p : Int) (n : Nat) : cnt F s p (n + 1) = cnt F s p n + (if (itr F 0 s (n + 1)).2.2.1 = p then 1 else 0) := rfl
theorem cnt_le (F : Fam) (s : Sta) (p : Int) (n : Nat) : cnt F s p n ≤ n := by
  induction n with
  | zero => exact Nat.le_refl 0
  | succ n ih => rw [cnt_s]; split <;> omega
theorem z64 : (0 : Int) = -1 ∨ ((0 : Int) ≤ 0 ∧ (0 : Int) < 64) := Or.inr ⟨by decide, by decide⟩
/-- a day of the trial state -/
theorem OW.day {σ0 σ : Hp} {f : Nat} {cs : List Nat} {s : Sta} {i : Nat} (h : OW σ0 f) (hf : Fr cs σ0 σ) (hc : ∀ c ∈ cs, c ∈ sg f 4 ∨ c = 3 ∨ (7 ≤ c ∧ c ≤ 13) ∨ c = 34) (hi : i < 100) (hok : OKs 999 s) (hs : stX σ 4 = itr (famX σ0 f) 0 s i) :
    Fa_pass_pre f 4 0 σ ∧ ∀ σ1 : Hp, Fa_pass_post f 4 0 σ σ1 → Fr (sg f 4) σ σ1 ∧ stX σ1 4 = itr (famX σ0 f) 0 s (i + 1) := by
  have hok2 := hok.itr h.2.1.n6 (a := 0) z64 i
  rw [← hs] at hok2
  obtain ⟨p1, p2⟩ := h.pass hf hc (by omega) hok2 z64
  refine ⟨p1, fun σ1 h1 => ?_⟩
  obtain ⟨g1, g2⟩ := p2 σ1 h1
  exact ⟨g1, by rw [g2, hs, itr_s]⟩
def Ou_countNights_pre (k f q : Nat) (_a n : Int) (σ : Hp) : Prop := k = 3 ∧ q = 31 ∧ OW σ f ∧ 0 ≤ n ∧ n ≤ 60
def Ou_countNights_post (_k f _q : Nat) (a n : Int) (σ : Hp) (r : Int) (σ' : Hp) : Prop := Fr (sg f 4) σ σ' ∧ r = (cnt (famX σ f) (stX σ 31) a n.toNat : Nat)
def Ou_countNights_I14 (_k f _q : Nat) (a n : Int) (σ0 : Hp) (m : Nat) (v5 v6 : Int) (σ : Hp) : Prop := ∃ i : Nat, v6 = i ∧ (i : Int) ≤ n ∧ m = n.toNat - i ∧ Fr (sg f 4) σ0 σ ∧ stX σ 4 = itr (famX σ0 f) 0 (stX σ0 31) i ∧ v5 = (cnt (famX σ0 f) (stX σ0 31) a i : Nat)
def Ou_countNights_bk : List (Nat × List Item) := [(0, [(.aload_n 0, 1, [], []), (.getfield 12, 3, [4, 0, 4, 1, 0, 7], []), (.aload_n 2, 1, [], []), (.invokevirtual 40, 3, [0], []), (.iconst 0, 1, [], []), (.istore 5, 2, [], []), (.iconst 0, 1, [], []), (.istore 6, 2, [], [])]),
  (14, [(.iload 6, 2, [], []), (.iload 4, 2, [], []), (.if_icmp .ge 32, 3, [50], []), (.aload_n 1, 1, [], []), (.aload_n 0, 1, [], []), (.getfield 12, 3, [4, 0, 4, 1, 0, 7], []), (.iconst 0, 1, [], []), (.invokevirtual 44, 3, [1], []), (.aload_n 0, 1, [], []), (.getfield 12, 3, [4, 0, 4, 1, 0, 7], []), (.getfield 65, 3, [7, 2, 0, 0, 0, 0], []), (.iload_n 3, 1, [], []), (.if_icmp .ne 6, 3, [44], []), (.iinc 5 1, 3, [], [])]),
  (44, [(.iinc 6 1, 3, [], []), (.goto (-33), 3, [14], [])]),
  (50, [(.iload 5, 2, [], []), (.ireturn, 1, [], [])])]
def Ou_countNights_cl : List (Instr × Nat) := [(.invokevirtual 40, 0), (.invokevirtual 44, 1)]
set_option maxRecDepth 20000 in
theorem Ou_countNights_ck : Ou_countNights_bk.all (fun b => ax_chB 4 7 cX4_countNights Ou_countNights_cl b.1 b.2) = true := by decide +kernel
def Ou_countNights_cs : Ct := (5, 5, 1, (0, 0), fun as σ => (match as with
    | [.inr (.inr (.inl (k, 0, 4))), .inr (.inr (.inl (q1, 0, 1))), .inr (.inr (.inl (q2, 0, 7))), .inl a3, .inl a4] => Ou_countNights_pre k q1 q2 a3 a4 σ
    | _ => False), fun as σ r σ' => (match as with
    | [.inr (.inr (.inl (k, 0, 4))), .inr (.inr (.inl (q1, 0, 1))), .inr (.inr (.inl (q2, 0, 7))), .inl a3, .inl a4] => Ou_countNights_post k q1 q2 a3 a4 σ r σ'
    | _ => False))
theorem Ou_countNights_w : ∀ w ∈ ([.instanceMethod yX4_countNights, .selects yX4_countNights.cls yX4_countNights yX4_countNights, .initialized yX4_countNights.cls, .code yX4_countNights cX4_countNights 7 (some .int)] : List Cond), w ∈ ax_tb := ax_w4 (ax_m4 183 (by decide +kernel) rfl) (ax_m4 184 (by decide +kernel) rfl) (ax_m1 3 (by decide +kernel) rfl) (ax_m4 185 (by decide +kernel) rfl)
theorem Ou_countNights_ds : yX4_countNights.cls ≠ "java/lang/invoke/MethodHandle" ∧ yX4_countNights.cls ≠ "java/lang/invoke/VarHandle" ∧ (parseMethodDescriptor yX4_countNights.desc).map (fun d => d.parameters.length) = some 4 := by decide +kernel
def Ou_countNights_vc : Prop := ∀ (k : Nat) (q1 : Nat) (q2 : Nat) (a3 : Int) (a4 : Int) (σ : Hp), ax_H σ → Ou_countNights_pre k q1 q2 a3 a4 σ →
  St_copy_pre (k + 1) q2 σ ∧
  ∀ σ1 : Hp, St_copy_post (k + 1) q2 σ σ1 →
  ∃ n' : Nat, k = k ∧ q1 = q1 ∧ q2 = q2 ∧ a3 = a3 ∧ a4 = a4 ∧ Ou_countNights_I14 k q1 q2 a3 a4 σ n' 0 0 σ1
def Ou_countNights_vc14 : Prop := ∀ (k : Nat) (q1 : Nat) (q2 : Nat) (a3 : Int) (a4 : Int) (σ0 : Hp), Ou_countNights_pre k q1 q2 a3 a4 σ0 → ∀ (n : Nat) (v5 : Int) (v6 : Int) (σ : Hp), ax_H σ → Ou_countNights_I14 k q1 q2 a3 a4 σ0 n v5 v6 σ →
  (a4 ≤ v6 →
    Ou_countNights_post k q1 q2 a3 a4 σ0 v5 σ) ∧
  (¬ (a4 ≤ v6) →
    Fa_pass_pre q1 (k + 1) 0 σ ∧
    ∀ σ1 : Hp, Fa_pass_post q1 (k + 1) 0 σ σ1 →
    (¬ σ1 (k + 1) 2 = a3 →
      ∃ n' : Nat, n' < n ∧ k = k ∧ q1 = q1 ∧ q2 = q2 ∧ a3 = a3 ∧ a4 = a4 ∧ Ou_countNights_I14 k q1 q2 a3 a4 σ0 n' v5 (wr (v6 + 1)) σ1) ∧
    (¬ (¬ σ1 (k + 1) 2 = a3) →
      ∃ n' : Nat, n' < n ∧ k = k ∧ q1 = q1 ∧ q2 = q2 ∧ a3 = a3 ∧ a4 = a4 ∧ Ou_countNights_I14 k q1 q2 a3 a4 σ0 n' (wr (v5 + 1)) (wr (v6 + 1)) σ1))
theorem Ou_countNights_p : Ou_countNights_vc := by
  intro k f q a n σ hH hp
  obtain ⟨rfl, rfl, hW, n0, n6⟩ := hp
  refine ⟨⟨Or.inl rfl, Or.inr (Or.inr rfl), by decide⟩, ?_⟩
  rintro σ1 ⟨hf, hs⟩
  exact ⟨n.toNat, rfl, rfl, rfl, rfl, rfl, 0, rfl, n0, rfl, hf.mono (by simp [sg]), hs, rfl⟩
theorem Ou_countNights_p14 : Ou_countNights_vc14 := by
  intro k f q a n σ0 hp m v5 v6 σ hH hI
  obtain ⟨rfl, rfl, hW, n0, n6⟩ := hp
  obtain ⟨i, rfl, hi, rfl, hf, hs, rfl⟩ := hI
  refine ⟨fun h => ⟨hf, by rw [show n.toNat = i by omega]⟩, fun h => ?_⟩
  obtain ⟨p1, p2⟩ := hW.day hf (fun c hc => Or.inl hc) (by omega) hW.2.2.1 hs
  refine ⟨p1, fun σ1 h1 => ?_⟩
  obtain ⟨g1, g2⟩ := p2 σ1 h1
  have e2 : σ1 (3 + 1) 2 = (itr (famX σ0 f) 0 (stX σ0 31) (i + 1)).2.2.1 := by rw [← g2]; rfl
  have hcl := cnt_le (famX σ0 f) (stX σ0 31) a i
  rw [e2, wr1 (by omega) (by omega), wr1 (by omega) (by omega)]
  refine ⟨fun h3 => ⟨n.toNat - (i + 1), by omega, rfl, rfl, rfl, rfl, rfl, i + 1, by simp, by omega, rfl, hf.tr g1, g2, ?_⟩, fun h3 => ⟨n.toNat - (i + 1), by omega, rfl, rfl, rfl, rfl, rfl, i + 1, by simp, by omega, rfl, hf.tr g1, g2, ?_⟩⟩
  · rw [cnt_s, if_neg h3]; simp
  · rw [cnt_s, if_pos (Classical.not_not.mp h3)]; simp
def Ou_countNights_I : List AV → Hp → Nat → Nat → List AV → List AV → Hp → Prop := fun as σ0 pc n st ls σ => (match as with
    | [.inr (.inr (.inl (k, 0, 4))), .inr (.inr (.inl (q1, 0, 1))), .inr (.inr (.inl (q2, 0, 7))), .inl a3, .inl a4] => (bif Nat.beq pc 14 then (match st, ls with
      | [], [.inr (.inr (.inl (k', 0, 4))), .inr (.inr (.inl (q1', 0, 1))), .inr (.inr (.inl (q2', 0, 7))), .inl a3', .inl a4', .inl v5, .inl v6] => k = k' ∧ q1 = q1' ∧ q2 = q2' ∧ a3 = a3' ∧ a4 = a4' ∧ Ou_countNights_I14 k q1 q2 a3 a4 σ0 n v5 v6 σ
      | _, _ => False) else False)
    | _ => False)
def Ou_countNights_ct : Nat → Ct := fun n => match n with
  | 0 => St_copy_cs
  | 1 => Fa_pass_cs
  | _ => Ou_countNights_cs
set_option maxRecDepth 20000 in
set_option maxHeartbeats 4000000 in
theorem Ou_countNights_met {l : Launch} {D : va_G} {ad : Nat → Nat} {ca : Nat → ClassId} {L : Nat} {fx : Nat → Int} : ax_MC l D ad ca L fx yX4_countNights cX4_countNights 7 (some .int) 6 Ou_countNights_cs := by
  refine ax_met (oc := 4) (ct := Ou_countNights_ct) (calls := Ou_countNights_cl) (bs := Ou_countNights_bk) (cut := fun pc => Nat.beq pc 14) (f := 5) (I := Ou_countNights_I) (by decide) rfl rfl Ou_countNights_ck (List.forall_mem_cons.mpr ⟨ax_cwV St_copy_met (by decide) (by decide) rfl (by decide) rfl (ax_m4 85 (by decide +kernel) rfl) St_copy_w rfl St_copy_ds, List.forall_mem_cons.mpr ⟨ax_cwV Fa_pass_met (by decide) (by decide) rfl (by decide) rfl (ax_m4 89 (by decide +kernel) rfl) Fa_pass_w rfl Fa_pass_ds, fun _ h => absurd h List.not_mem_nil⟩⟩) ?_ ?_
  · intro as σ0 hp hH
    match as, hp with
    | [.inr (.inr (.inl (k, 0, 4))), .inr (.inr (.inl (q1, 0, 1))), .inr (.inr (.inl (q2, 0, 7))), .inl a3, .inl a4], hp => exact ⟨rfl, Ou_countNights_p k q1 q2 a3 a4 σ0 hH hp⟩
  · intro as σ0 hp n pc st ls σ hH hI
    match as, hp, hI with
    | [.inr (.inr (.inl (k, 0, 4))), .inr (.inr (.inl (q1, 0, 1))), .inr (.inr (.inl (q2, 0, 7))), .inl a3, .inl a4], hp, hI =>
      rcases ax_bifE hI with ⟨hpc, hI⟩ | ⟨-, hI⟩
      · have := Nat.eq_of_beq_eq_true hpc
        subst this
        match st, ls, hI with
        | [], [.inr (.inr (.inl (k', 0, 4))), .inr (.inr (.inl (q1', 0, 1))), .inr (.inr (.inl (q2', 0, 7))), .inl a3', .inl a4', .inl v5, .inl v6], hI =>
          obtain ⟨rfl, rfl, rfl, rfl, rfl, hI⟩ := hI
          exact Ou_countNights_p14 k q1 q2 a3 a4 σ0 hp n v5 v6 σ hH hI
      exact False.elim hI
/-- behind how many days first, in n, or -1 -/
def Ls1 (P : Nat → Prop) (n : Nat) (r : Int) : Prop := (∃ i : Nat, i < n ∧ r = i + 1 ∧ P i ∧ ∀ j, j < i → ¬ P j) ∨ (r = -1 ∧ ∀ j, j < n → ¬ P j)
theorem Ls1.uniq {P : Nat → Prop} {n : Nat} {r t : Int} (h : Ls1 P n r) (g : Ls1 P n t) : r = t := by
  rcases h with ⟨i, h1, rfl, h3, h4⟩ | ⟨rfl, h1⟩ <;> rcases g with ⟨j, g1, rfl, g3, g4⟩ | ⟨rfl, g1⟩
  · rcases Nat.lt_trichotomy i j with h | h | h
    · exact absurd h3 (g4 i h)
    · rw [h]
    · exact absurd g3 (h4 j h)
  · exact absurd h3 (g1 i (by assumption))
  · exact absurd g3 (h1 j (by assumption))
  · rfl
def Ou_firstNight_pre (k f q : Nat) (_a : Int) (σ : Hp) : Prop := k = 3 ∧ q = 31 ∧ OW σ f
def Ou_firstNight_post (_k f _q : Nat) (a : Int) (σ : Hp) (r : Int) (σ' : Hp) : Prop := Fr (sg f 4) σ σ' ∧ Ls1 (fun i => (itr (famX σ f) 0 (stX σ 31) (i + 1)).2.2.1 = a) 60 r
def Ou_firstNight_I11 (_k f _q : Nat) (a : Int) (σ0 : Hp) (m : Nat) (v4 : Int) (σ : Hp) : Prop := ∃ i : Nat, v4 = i + 1 ∧ i ≤ 60 ∧ m = 60 - i ∧ Fr (sg f 4) σ0 σ ∧ stX σ 4 = itr (famX σ0 f) 0 (stX σ0 31) i ∧ ∀ j, j < i → ¬ (itr (famX σ0 f) 0 (stX σ0 31) (j + 1)).2.2.1 = a
def Ou_firstNight_bk : List (Nat × List Item) := [(0, [(.aload_n 0, 1, [], []), (.getfield 12, 3, [4, 0, 4, 1, 0, 7], []), (.aload_n 2, 1, [], []), (.invokevirtual 40, 3, [0], []), (.iconst 1, 1, [], []), (.istore 4, 2, [], [])]),
  (11, [(.iload 4, 2, [], []), (.bipush 60, 2, [], []), (.if_icmp .gt 32, 3, [47], []), (.aload_n 1, 1, [], []), (.aload_n 0, 1, [], []), (.getfield 12, 3, [4, 0, 4, 1, 0, 7], []), (.iconst 0, 1, [], []), (.invokevirtual 44, 3, [1], []), (.aload_n 0, 1, [], []), (.getfield 12, 3, [4, 0, 4, 1, 0, 7], []), (.getfield 65, 3, [7, 2, 0, 0, 0, 0], []), (.iload_n 3, 1, [], []), (.if_icmp .ne 6, 3, [41], []), (.iload 4, 2, [], []), (.ireturn, 1, [], [])]),
  (41, [(.iinc 4 1, 3, [], []), (.goto (-33), 3, [11], [])]),
  (47, [(.iconst (-1), 1, [], []), (.ireturn, 1, [], [])])]
def Ou_firstNight_cl : List (Instr × Nat) := [(.invokevirtual 40, 0), (.invokevirtual 44, 1)]
set_option maxRecDepth 20000 in
theorem Ou_firstNight_ck : Ou_firstNight_bk.all (fun b => ax_chB 4 5 cX4_firstNight Ou_firstNight_cl b.1 b.2) = true := by decide +kernel
def Ou_firstNight_cs : Ct := (4, 5, 1, (0, 0), fun as σ => (match as with
    | [.inr (.inr (.inl (k, 0, 4))), .inr (.inr (.inl (q1, 0, 1))), .inr (.inr (.inl (q2, 0, 7))), .inl a3] => Ou_firstNight_pre k q1 q2 a3 σ
    | _ => False), fun as σ r σ' => (match as with
    | [.inr (.inr (.inl (k, 0, 4))), .inr (.inr (.inl (q1, 0, 1))), .inr (.inr (.inl (q2, 0, 7))), .inl a3] => Ou_firstNight_post k q1 q2 a3 σ r σ'
    | _ => False))
theorem Ou_firstNight_w : ∀ w ∈ ([.instanceMethod yX4_firstNight, .selects yX4_firstNight.cls yX4_firstNight yX4_firstNight, .initialized yX4_firstNight.cls, .code yX4_firstNight cX4_firstNight 5 (some .int)] : List Cond), w ∈ ax_tb := ax_w4 (ax_m4 191 (by decide +kernel) rfl) (ax_m4 192 (by decide +kernel) rfl) (ax_m1 3 (by decide +kernel) rfl) (ax_m4 193 (by decide +kernel) rfl)
theorem Ou_firstNight_ds : yX4_firstNight.cls ≠ "java/lang/invoke/MethodHandle" ∧ yX4_firstNight.cls ≠ "java/lang/invoke/VarHandle" ∧ (parseMethodDescriptor yX4_firstNight.desc).map (fun d => d.parameters.length) = some 3 := by decide +kernel
def Ou_firstNight_vc : Prop := ∀ (k : Nat) (q1 : Nat) (q2 : Nat) (a3 : Int) (σ : Hp), ax_H σ → Ou_firstNight_pre k q1 q2 a3 σ →
  St_copy_pre (k + 1) q2 σ ∧
  ∀ σ1 : Hp, St_copy_post (k + 1) q2 σ σ1 →
  ∃ n' : Nat, k = k ∧ q1 = q1 ∧ q2 = q2 ∧ a3 = a3 ∧ Ou_firstNight_I11 k q1 q2 a3 σ n' 1 σ1
def Ou_firstNight_vc11 : Prop := ∀ (k : Nat) (q1 : Nat) (q2 : Nat) (a3 : Int) (σ0 : Hp), Ou_firstNight_pre k q1 q2 a3 σ0 → ∀ (n : Nat) (v4 : Int) (σ : Hp), ax_H σ → Ou_firstNight_I11 k q1 q2 a3 σ0 n v4 σ →
  (60 < v4 →
    Ou_firstNight_post k q1 q2 a3 σ0 (-1) σ) ∧
  (¬ (60 < v4) →
    Fa_pass_pre q1 (k + 1) 0 σ ∧
    ∀ σ1 : Hp, Fa_pass_post q1 (k + 1) 0 σ σ1 →
    (¬ σ1 (k + 1) 2 = a3 →
      ∃ n' : Nat, n' < n ∧ k = k ∧ q1 = q1 ∧ q2 = q2 ∧ a3 = a3 ∧ Ou_firstNight_I11 k q1 q2 a3 σ0 n' (wr (v4 + 1)) σ1) ∧
    (¬ (¬ σ1 (k + 1) 2 = a3) →
      Ou_firstNight_post k q1 q2 a3 σ0 v4 σ1))
theorem Ou_firstNight_p : Ou_firstNight_vc := by
  intro k f q a σ hH hp
  obtain ⟨rfl, rfl, hW⟩ := hp
  refine ⟨⟨Or.inl rfl, Or.inr (Or.inr rfl), by decide⟩, ?_⟩
  rintro σ1 ⟨hf, hs⟩
  exact ⟨60, rfl, rfl, rfl, rfl, 0, rfl, by omega, rfl, hf.mono (by simp [sg]), hs, fun j hj => absurd hj (Nat.not_lt_zero j)⟩
theorem Ou_firstNight_p11 : Ou_firstNight_vc11 := by
  intro k f q a σ0 hp m v4 σ hH hI
  obtain ⟨rfl, rfl, hW⟩ := hp
  obtain ⟨i, rfl, hi, rfl, hf, hs, hno⟩ := hI
  refine ⟨fun h => ⟨hf, Or.inr ⟨rfl, fun j hj => hno j (by omega)⟩⟩, fun h => ?_⟩
  obtain ⟨p1, p2⟩ := hW.day hf (fun c hc => Or.inl hc) (by omega) hW.2.2.1 hs
  refine ⟨p1, fun σ1 h1 => ?_⟩
  obtain ⟨g1, g2⟩ := p2 σ1 h1
  have e2 : σ1 (3 + 1) 2 = (itr (famX σ0 f) 0 (stX σ0 31) (i + 1)).2.2.1 := by rw [← g2]; rfl
  rw [e2, wr1 (by omega) (by omega)]
  refine ⟨fun h3 => ⟨60 - (i + 1), by omega, rfl, rfl, rfl, rfl, i + 1, by simp, by omega, rfl, hf.tr g1, g2, ?_⟩, fun h3 => ⟨hf.tr g1, Or.inl ⟨i, by omega, rfl, Classical.not_not.mp h3, hno⟩⟩⟩
  intro j hj
  by_cases hji : j = i
  · subst hji; exact h3
  · exact hno j (by omega)
def Ou_firstNight_I : List AV → Hp → Nat → Nat → List AV → List AV → Hp → Prop := fun as σ0 pc n st ls σ => (match as with
    | [.inr (.inr (.inl (k, 0, 4))), .inr (.inr (.inl (q1, 0, 1))), .inr (.inr (.inl (q2, 0, 7))), .inl a3] => (bif Nat.beq pc 11 then (match st, ls with
      | [], [.inr (.inr (.inl (k', 0, 4))), .inr (.inr (.inl (q1', 0, 1))), .inr (.inr (.inl (q2', 0, 7))), .inl a3', .inl v4] => k = k' ∧ q1 = q1' ∧ q2 = q2' ∧ a3 = a3' ∧ Ou_firstNight_I11 k q1 q2 a3 σ0 n v4 σ
      | _, _ => False) else False)
    | _ => False)
def Ou_firstNight_ct : Nat → Ct := fun n => match n with
  | 0 => St_copy_cs
  | 1 => Fa_pass_cs
  | _ => Ou_firstNight_cs
set_option maxRecDepth 20000 in
set_option maxHeartbeats 4000000 in
theorem Ou_firstNight_met {l : Launch} {D : va_G} {ad : Nat → Nat} {ca : Nat → ClassId} {L : Nat} {fx : Nat → Int} : ax_MC l D ad ca L fx yX4_firstNight cX4_firstNight 5 (some .int) 6 Ou_firstNight_cs := by
  refine ax_met (oc := 4) (ct := Ou_firstNight_ct) (calls := Ou_firstNight_cl) (bs := Ou_firstNight_bk) (cut := fun pc => Nat.beq pc 11) (f := 5) (I := Ou_firstNight_I) (by decide) rfl rfl Ou_firstNight_ck (List.forall_mem_cons.mpr ⟨ax_cwV St_copy_met (by decide) (by decide) rfl (by decide) rfl (ax_m4 85 (by decide +kernel) rfl) St_copy_w rfl St_copy_ds, List.forall_mem_cons.mpr ⟨ax_cwV Fa_pass_met (by decide) (by decide) rfl (by decide) rfl (ax_m4 89 (by decide +kernel) rfl) Fa_pass_w rfl Fa_pass_ds, fun _ h => absurd h List.not_mem_nil⟩⟩) ?_ ?_
  · intro as σ0 hp hH
    match as, hp with
    | [.inr (.inr (.inl (k, 0, 4))), .inr (.inr (.inl (q1, 0, 1))), .inr (.inr (.inl (q2, 0, 7))), .inl a3], hp => exact ⟨rfl, Ou_firstNight_p k q1 q2 a3 σ0 hH hp⟩
  · intro as σ0 hp n pc st ls σ hH hI
    match as, hp, hI with
    | [.inr (.inr (.inl (k, 0, 4))), .inr (.inr (.inl (q1, 0, 1))), .inr (.inr (.inl (q2, 0, 7))), .inl a3], hp, hI =>
      rcases ax_bifE hI with ⟨hpc, hI⟩ | ⟨-, hI⟩
      · have := Nat.eq_of_beq_eq_true hpc
        subst this
        match st, ls, hI with
        | [], [.inr (.inr (.inl (k', 0, 4))), .inr (.inr (.inl (q1', 0, 1))), .inr (.inr (.inl (q2', 0, 7))), .inl a3', .inl v4], hI =>
          obtain ⟨rfl, rfl, rfl, rfl, hI⟩ := hI
          exact Ou_firstNight_p11 k q1 q2 a3 σ0 hp n v4 σ hH hI
      exact False.elim hI
def Ou_followPath_pre (k f q : Nat) (a : Int) (w n : Nat) (σ : Hp) : Prop := k = 3 ∧ q = 31 ∧ OW σ f ∧ 0 ≤ a ∧ a ≤ 6 ∧ w = 34 ∧ n = 6
def Ou_followPath_post (_k f _q : Nat) (a : Int) (_w _n : Nat) (σ : Hp) (r : Int) (σ' : Hp) : Prop := Fr (34 :: sg f 4) σ σ' ∧ r = (cnt (famX σ f) (stX σ 31) (-1) a.toNat : Nat) ∧ ∀ i, i < a.toNat → σ' 34 i = (itr (famX σ f) 0 (stX σ 31) (i + 1)).2.2.1
def Ou_followPath_I14 (_k f _q : Nat) (a : Int) (_w _n : Nat) (σ0 : Hp) (m : Nat) (v5 v6 : Int) (σ : Hp) : Prop := ∃ i : Nat, v6 = i ∧ (i : Int) ≤ a ∧ m = a.toNat - i ∧ Fr (34 :: sg f 4) σ0 σ ∧ stX σ 4 = itr (famX σ0 f) 0 (stX σ0 31) i ∧ v5 = (cnt (famX σ0 f) (stX σ0 31) (-1) i : Nat) ∧ ∀ j, j < i → σ 34 j = (itr (famX σ0 f) 0 (stX σ0 31) (j + 1)).2.2.1
def Ou_followPath_bk : List (Nat × List Item) := [(0, [(.aload_n 0, 1, [], []), (.getfield 12, 3, [4, 0, 4, 1, 0, 7], []), (.aload_n 2, 1, [], []), (.invokevirtual 40, 3, [0], []), (.iconst 0, 1, [], []), (.istore 5, 2, [], []), (.iconst 0, 1, [], []), (.istore 6, 2, [], [])]),
  (14, [(.iload 6, 2, [], []), (.iload_n 3, 1, [], []), (.if_icmp .ge 52, 3, [69], []), (.iload 6, 2, [], []), (.aload 4, 2, [], []), (.arraylength, 1, [], []), (.if_icmp .ge 44, 3, [69], []), (.aload_n 1, 1, [], []), (.aload_n 0, 1, [], []), (.getfield 12, 3, [4, 0, 4, 1, 0, 7], []), (.iconst 0, 1, [], []), (.invokevirtual 44, 3, [1], []), (.aload 4, 2, [], []), (.iload 6, 2, [], []), (.aload_n 0, 1, [], []), (.getfield 12, 3, [4, 0, 4, 1, 0, 7], []), (.getfield 65, 3, [7, 2, 0, 0, 0, 0], []), (.iastore, 1, [], []), (.aload_n 0, 1, [], []), (.getfield 12, 3, [4, 0, 4, 1, 0, 7], []), (.getfield 65, 3, [7, 2, 0, 0, 0, 0], []), (.iconst (-1), 1, [], []), (.if_icmp .ne 6, 3, [63], []), (.iinc 5 1, 3, [], [])]),
  (63, [(.iinc 6 1, 3, [], []), (.goto (-52), 3, [14], [])]),
  (69, [(.iload 5, 2, [], []), (.ireturn, 1, [], [])])]
def Ou_followPath_cl : List (Instr × Nat) := [(.invokevirtual 40, 0), (.invokevirtual 44, 1)]
set_option maxRecDepth 20000 in
theorem Ou_followPath_ck : Ou_followPath_bk.all (fun b => ax_chB 4 7 cX4_followPath Ou_followPath_cl b.1 b.2) = true := by decide +kernel
def Ou_followPath_cs : Ct := (5, 5, 1, (0, 0), fun as σ => (match as with
    | [.inr (.inr (.inl (k, 0, 4))), .inr (.inr (.inl (q1, 0, 1))), .inr (.inr (.inl (q2, 0, 7))), .inl a3, .inr (.inr (.inl (q4, 1, n4)))] => Ou_followPath_pre k q1 q2 a3 q4 n4 σ
    | _ => False), fun as σ r σ' => (match as with
    | [.inr (.inr (.inl (k, 0, 4))), .inr (.inr (.inl (q1, 0, 1))), .inr (.inr (.inl (q2, 0, 7))), .inl a3, .inr (.inr (.inl (q4, 1, n4)))] => Ou_followPath_post k q1 q2 a3 q4 n4 σ r σ'
    | _ => False))
theorem Ou_followPath_w : ∀ w ∈ ([.instanceMethod yX4_followPath, .selects yX4_followPath.cls yX4_followPath yX4_followPath, .initialized yX4_followPath.cls, .code yX4_followPath cX4_followPath 7 (some .int)] : List Cond), w ∈ ax_tb := ax_w4 (ax_m5 29 (by decide +kernel) rfl) (ax_m5 30 (by decide +kernel) rfl) (ax_m1 3 (by decide +kernel) rfl) (ax_m5 31 (by decide +kernel) rfl)
theorem Ou_followPath_ds : yX4_followPath.cls ≠ "java/lang/invoke/MethodHandle" ∧ yX4_followPath.cls ≠ "java/lang/invoke/VarHandle" ∧ (parseMethodDescriptor yX4_followPath.desc).map (fun d => d.parameters.length) = some 4 := by decide +kernel
def Ou_followPath_vc : Prop := ∀ (k : Nat) (q1 : Nat) (q2 : Nat) (a3 : Int) (q4 : Nat) (n4 : Nat) (σ : Hp), ax_H σ → Ou_followPath_pre k q1 q2 a3 q4 n4 σ →
  St_copy_pre (k + 1) q2 σ ∧
  ∀ σ1 : Hp, St_copy_post (k + 1) q2 σ σ1 →
  ∃ n' : Nat, k = k ∧ q1 = q1 ∧ q2 = q2 ∧ a3 = a3 ∧ n4 = n4 ∧ q4 = q4 ∧ Ou_followPath_I14 k q1 q2 a3 q4 n4 σ n' 0 0 σ1
def Ou_followPath_vc14 : Prop := ∀ (k : Nat) (q1 : Nat) (q2 : Nat) (a3 : Int) (q4 : Nat) (n4 : Nat) (σ0 : Hp), Ou_followPath_pre k q1 q2 a3 q4 n4 σ0 → ∀ (n : Nat) (v5 : Int) (v6 : Int) (σ : Hp), ax_H σ → Ou_followPath_I14 k q1 q2 a3 q4 n4 σ0 n v5 v6 σ →
  (a3 ≤ v6 →
    Ou_followPath_post k q1 q2 a3 q4 n4 σ0 v5 σ) ∧
  (¬ (a3 ≤ v6) →
    ((n4 : Int) ≤ v6 →
      Ou_followPath_post k q1 q2 a3 q4 n4 σ0 v5 σ) ∧
    (¬ ((n4 : Int) ≤ v6) →
      Fa_pass_pre q1 (k + 1) 0 σ ∧
      ∀ σ1 : Hp, Fa_pass_post q1 (k + 1) 0 σ σ1 →
      (0 ≤ v6 ∧ v6 < (n4 : Int)) ∧
      ∀ σ2 : Hp, σ2 = hp σ1 q4 v6.toNat (σ1 (k + 1) 2) →
      (¬ σ2 (k + 1) 2 = (-1) →
        ∃ n' : Nat, n' < n ∧ k = k ∧ q1 = q1 ∧ q2 = q2 ∧ a3 = a3 ∧ n4 = n4 ∧ q4 = q4 ∧ Ou_followPath_I14 k q1 q2 a3 q4 n4 σ0 n' v5 (wr (v6 + 1)) σ2) ∧
      (¬ (¬ σ2 (k + 1) 2 = (-1)) →
        ∃ n' : Nat, n' < n ∧ k = k ∧ q1 = q1 ∧ q2 = q2 ∧ a3 = a3 ∧ n4 = n4 ∧ q4 = q4 ∧ Ou_followPath_I14 k q1 q2 a3 q4 n4 σ0 n' (wr (v5 + 1)) (wr (v6 + 1)) σ2)))
theorem Ou_followPath_p : Ou_followPath_vc := by
  intro k f q a w n σ hH hp
  obtain ⟨rfl, rfl, hW, a0, a6, rfl, rfl⟩ := hp
  refine ⟨⟨Or.inl rfl, Or.inr (Or.inr rfl), by decide⟩, ?_⟩
  rintro σ1 ⟨hf, hs⟩
  exact ⟨a.toNat, rfl, rfl, rfl, rfl, rfl, rfl, 0, rfl, a0, rfl, hf.mono (by simp [sg]), hs, rfl, fun j hj => absurd hj (Nat.not_lt_zero j)⟩
theorem fo34 {f : Nat} (hk : FO f) : (34 : Nat) ∉ sg f 4 := by
  rcases hk with rfl | rfl <;> decide
theorem Ou_followPath_p14 : Ou_followPath_vc14 := by
  intro k f q a w n σ0 hp m v5 v6 σ hH hI
  obtain ⟨rfl, rfl, hW, a0, a6, rfl, rfl⟩ := hp
  obtain ⟨i, rfl, hi, rfl, hf, hs, rfl, hr⟩ := hI
  have fin : a ≤ (i : Int) → Ou_followPath_post 3 f 31 a 34 6 σ0 (cnt (famX σ0 f) (stX σ0 31) (-1) i : Nat) σ := by
    intro h
    have e : a.toNat = i := by omega
    exact ⟨hf, by rw [e], by rw [e]; exact hr⟩
  refine ⟨fin, fun h => ⟨fun h2 => absurd h2 (by omega), fun h2 => ?_⟩⟩
  obtain ⟨p1, p2⟩ := hW.day hf (by intro c hc; rcases List.mem_cons.mp hc with rfl | hc
                                   · exact Or.inr (Or.inr (Or.inr rfl))
                                   · exact Or.inl hc) (by omega) hW.2.2.1 hs
  refine ⟨p1, fun σ1 h1 => ⟨⟨by omega, by omega⟩, ?_⟩⟩
  obtain ⟨g1, g2⟩ := p2 σ1 h1
  rintro σ2 rfl
  have e2 : σ1 (3 + 1) 2 = (itr (famX σ0 f) 0 (stX σ0 31) (i + 1)).2.2.1 := by rw [← g2]; rfl
  have hcl := cnt_le (famX σ0 f) (stX σ0 31) (-1) i
  rw [hp_ne (show (3 + 1 : Nat) ≠ 34 by decide), e2, wr1 (by omega) (by omega), wr1 (by omega) (by omega), Int.toNat_natCast]
  have hfr : Fr (34 :: sg f 4) σ0 (hp σ1 34 i (itr (famX σ0 f) 0 (stX σ0 31) (i + 1)).2.2.1) := Fr.hp (hf.tr (g1.mono (fun c hc => List.mem_cons_of_mem _ hc))) (by simp)
  have hst : stX (hp σ1 34 i (itr (famX σ0 f) 0 (stX σ0 31) (i + 1)).2.2.1) 4 = itr (famX σ0 f) 0 (stX σ0 31) (i + 1) := by
    rw [← g2]
    exact stX_eq (fun d hd => hp_ne (by omega))
  have hrow : ∀ j, j < i + 1 → hp σ1 34 i (itr (famX σ0 f) 0 (stX σ0 31) (i + 1)).2.2.1 34 j = (itr (famX σ0 f) 0 (stX σ0 31) (j + 1)).2.2.1 := by
    intro j hj
    rw [hp_rd]
    by_cases hji : j = i
    · rw [if_pos ⟨rfl, hji⟩, hji]
    · rw [if_neg (fun z => hji z.2), g1 34 (fo34 hW.1)]; exact hr j (by omega)
  refine ⟨fun h3 => ⟨a.toNat - (i + 1), by omega, rfl, rfl, rfl, rfl, rfl, rfl, i + 1, by simp, by omega, rfl, hfr, hst, ?_, hrow⟩, fun h3 => ⟨a.toNat - (i + 1), by omega, rfl, rfl, rfl, rfl, rfl, rfl, i + 1, by simp, by omega, rfl, hfr, hst, ?_, hrow⟩⟩
  · rw [cnt_s, if_neg h3]; simp
  · rw [cnt_s, if_pos (Classical.not_not.mp h3)]; simp
def Ou_followPath_I : List AV → Hp → Nat → Nat → List AV → List AV → Hp → Prop := fun as σ0 pc n st ls σ => (match as with
    | [.inr (.inr (.inl (k, 0, 4))), .inr (.inr (.inl (q1, 0, 1))), .inr (.inr (.inl (q2, 0, 7))), .inl a3, .inr (.inr (.inl (q4, 1, n4)))] => (bif Nat.beq pc 14 then (match st, ls with
      | [], [.inr (.inr (.inl (k', 0, 4))), .inr (.inr (.inl (q1', 0, 1))), .inr (.inr (.inl (q2', 0, 7))), .inl a3', .inr (.inr (.inl (q4', 1, n4'))), .inl v5, .inl v6] => k = k' ∧ q1 = q1' ∧ q2 = q2' ∧ a3 = a3' ∧ n4 = n4' ∧ q4 = q4' ∧ Ou_followPath_I14 k q1 q2 a3 q4 n4 σ0 n v5 v6 σ
      | _, _ => False) else False)
    | _ => False)
def Ou_followPath_ct : Nat → Ct := fun n => match n with
  | 0 => St_copy_cs
  | 1 => Fa_pass_cs
  | _ => Ou_followPath_cs
set_option maxRecDepth 20000 in
set_option maxHeartbeats 4000000 in
theorem Ou_followPath_met {l : Launch} {D : va_G} {ad : Nat → Nat} {ca : Nat → ClassId} {L : Nat} {fx : Nat → Int} : ax_MC l D ad ca L fx yX4_followPath cX4_followPath 7 (some .int) 6 Ou_followPath_cs := by
  refine ax_met (oc := 4) (ct := Ou_followPath_ct) (calls := Ou_followPath_cl) (bs := Ou_followPath_bk) (cut := fun pc => Nat.beq pc 14) (f := 5) (I := Ou_followPath_I) (by decide) rfl rfl Ou_followPath_ck (List.forall_mem_cons.mpr ⟨ax_cwV St_copy_met (by decide) (by decide) rfl (by decide) rfl (ax_m4 85 (by decide +kernel) rfl) St_copy_w rfl St_copy_ds, List.forall_mem_cons.mpr ⟨ax_cwV Fa_pass_met (by decide) (by decide) rfl (by decide) rfl (ax_m4 89 (by decide +kernel) rfl) Fa_pass_w rfl Fa_pass_ds, fun _ h => absurd h List.not_mem_nil⟩⟩) ?_ ?_
  · intro as σ0 hp hH
    match as, hp with
    | [.inr (.inr (.inl (k, 0, 4))), .inr (.inr (.inl (q1, 0, 1))), .inr (.inr (.inl (q2, 0, 7))), .inl a3, .inr (.inr (.inl (q4, 1, n4)))], hp => exact ⟨rfl, Ou_followPath_p k q1 q2 a3 q4 n4 σ0 hH hp⟩
  · intro as σ0 hp n pc st ls σ hH hI
    match as, hp, hI with
    | [.inr (.inr (.inl (k, 0, 4))), .inr (.inr (.inl (q1, 0, 1))), .inr (.inr (.inl (q2, 0, 7))), .inl a3, .inr (.inr (.inl (q4, 1, n4)))], hp, hI =>
      rcases ax_bifE hI with ⟨hpc, hI⟩ | ⟨-, hI⟩
      · have := Nat.eq_of_beq_eq_true hpc
        subst this
        match st, ls, hI with
        | [], [.inr (.inr (.inl (k', 0, 4))), .inr (.inr (.inl (q1', 0, 1))), .inr (.inr (.inl (q2', 0, 7))), .inl a3', .inr (.inr (.inl (q4', 1, n4'))), .inl v5, .inl v6], hI =>
          obtain ⟨rfl, rfl, rfl, rfl, rfl, rfl, hI⟩ := hI
          exact Ou_followPath_p14 k q1 q2 a3 q4 n4 σ0 hp n v5 v6 σ hH hI
      exact False.elim hI
/-- the most worry among the first i -/
def mxw (F : Fam) (s : Sta) : Nat → Int
  | 0 => -1
  | i + 1 => max (mxw F s i) (wry F s i)
def clmS (F : Fam) (s : Sta) : Sta := (grA F s, s.2.1, s.2.2.1, s.2.2.2.1 + 1, s.2.2.2.2.1, s.2.2.2.2.2)
def clm (F : Fam) (s : Sta) : Int := if ¬ s.2.2.2.2.2 = 0 ∧ ¬ s.2.2.1 = -1 then -1 else if mxw F (clmS F s) (fN F) < 999 then mxw F (clmS F s) (fN F) + 1 else -1
theorem wry_R (F : Fam) (s : Sta) (p : Nat) : 0 ≤ wry F s p ∧ wry F s p ≤ 999 := wth_R _ 999 (by decide)
def Ou_findCalm_pre (k f q : Nat) (σ : Hp) : Prop := k = 3 ∧ q = 31 ∧ OW σ f
def Ou_findCalm_post (_k f _q : Nat) (σ : Hp) (r : Int) (σ' : Hp) : Prop := Fr (sg f 4) σ σ' ∧ r = clm (famX σ f) (stX σ 31)
def Ou_findCalm_I52 (_k f _q : Nat) (σ0 : Hp) (m : Nat) (v3 v4 : Int) (σ : Hp) : Prop := ∃ i : Nat, v4 = i ∧ i ≤ fN (famX σ0 f) ∧ 1 ≤ fN (famX σ0 f) ∧ m = 6 - i ∧ Fr (sg f 4) σ0 σ ∧ stX σ 4 = clmS (famX σ0 f) (stX σ0 31) ∧ ¬ (¬ (stX σ0 31).2.2.2.2.2 = 0 ∧ ¬ (stX σ0 31).2.2.1 = -1) ∧ v3 = max 0 (mxw (famX σ0 f) (clmS (famX σ0 f) (stX σ0 31)) i)
def Ou_findCalm_bk : List (Nat × List Item) := [(0, [(.aload_n 1, 1, [], []), (.getfield 50, 3, [1, 9, 0, 0, 0, 0], []), (.ifCond .ne 5, 3, [9], []), (.iconst 0, 1, [], []), (.ireturn, 1, [], [])]),
  (9, [(.aload_n 2, 1, [], []), (.invokevirtual 68, 3, [0], []), (.ifCond .eq 5, 3, [18], []), (.iconst (-1), 1, [], []), (.ireturn, 1, [], [])]),
  (18, [(.aload_n 0, 1, [], []), (.getfield 12, 3, [4, 0, 4, 1, 0, 7], []), (.aload_n 2, 1, [], []), (.invokevirtual 40, 3, [1], []), (.aload_n 1, 1, [], []), (.aload_n 0, 1, [], []), (.getfield 12, 3, [4, 0, 4, 1, 0, 7], []), (.invokevirtual 141, 3, [2], []), (.aload_n 0, 1, [], []), (.getfield 12, 3, [4, 0, 4, 1, 0, 7], []), (.dup, 1, [], []), (.getfield 104, 3, [7, 3, 0, 0, 0, 0], []), (.iconst 1, 1, [], []), (.iadd, 1, [], []), (.putfield 104, 3, [7, 3, 0, 0, 0, 0], []), (.iconst 0, 1, [], []), (.istore_n 3, 1, [], []), (.iconst 0, 1, [], []), (.istore 4, 2, [], [])]),
  (52, [(.iload 4, 2, [], []), (.aload_n 1, 1, [], []), (.getfield 50, 3, [1, 9, 0, 0, 0, 0], []), (.if_icmp .ge 24, 3, [82], []), (.iload_n 3, 1, [], []), (.aload_n 1, 1, [], []), (.aload_n 0, 1, [], []), (.getfield 12, 3, [4, 0, 4, 1, 0, 7], []), (.iload 4, 2, [], []), (.invokevirtual 107, 3, [3], []), (.invokestatic 134, 3, [4], []), (.istore_n 3, 1, [], []), (.iinc 4 1, 3, [], []), (.goto (-27), 3, [52], [])]),
  (82, [(.iload_n 3, 1, [], []), (.sipush 999, 3, [], []), (.if_icmp .ge 9, 3, [95], []), (.iload_n 3, 1, [], []), (.iconst 1, 1, [], []), (.iadd, 1, [], []), (.goto 4, 3, [96], [])]),
  (95, [(.iconst (-1), 1, [], [])]),
  (96, [(.ireturn, 1, [], [])])]
def Ou_findCalm_cl : List (Instr × Nat) := [(.invokevirtual 68, 0), (.invokevirtual 40, 1), (.invokevirtual 141, 2), (.invokevirtual 107, 3), (.invokestatic 134, 4)]
set_option maxRecDepth 20000 in
theorem Ou_findCalm_ck : Ou_findCalm_bk.all (fun b => ax_chB 4 5 cX4_findCalm Ou_findCalm_cl b.1 b.2) = true := by decide +kernel
def Ou_findCalm_cs : Ct := (3, 5, 1, (0, 0), fun as σ => (match as with
    | [.inr (.inr (.inl (k, 0, 4))), .inr (.inr (.inl (q1, 0, 1))), .inr (.inr (.inl (q2, 0, 7)))] => Ou_findCalm_pre k q1 q2 σ
    | _ => False), fun as σ r σ' => (match as with
    | [.inr (.inr (.inl (k, 0, 4))), .inr (.inr (.inl (q1, 0, 1))), .inr (.inr (.inl (q2, 0, 7)))] => Ou_findCalm_post k q1 q2 σ r σ'
    | _ => False))
theorem Ou_findCalm_w : ∀ w ∈ ([.instanceMethod yX4_findCalm, .selects yX4_findCalm.cls yX4_findCalm yX4_findCalm, .initialized yX4_findCalm.cls, .code yX4_findCalm cX4_findCalm 5 (some .int)] : List Cond), w ∈ ax_tb := ax_w4 (ax_m4 229 (by decide +kernel) rfl) (ax_m4 230 (by decide +kernel) rfl) (ax_m1 3 (by decide +kernel) rfl) (ax_m4 231 (by decide +kernel) rfl)
theorem Ou_findCalm_ds : yX4_findCalm.cls ≠ "java/lang/invoke/MethodHandle" ∧ yX4_findCalm.cls ≠ "java/lang/invoke/VarHandle" ∧ (parseMethodDescriptor yX4_findCalm.desc).map (fun d => d.parameters.length) = some 2 := by decide +kernel
def Ou_findCalm_vc : Prop := ∀ (k : Nat) (q1 : Nat) (q2 : Nat) (σ : Hp), ax_H σ → Ou_findCalm_pre k q1 q2 σ →
  (¬ σ q1 9 = 0 →
    St_holdsFast_pre q2 σ ∧
    ∀ (r2 : Int) (σ1 : Hp), St_holdsFast_post q2 σ r2 σ1 →
    (r2 = 0 →
      St_copy_pre (k + 1) q2 σ1 ∧
      ∀ σ3 : Hp, St_copy_post (k + 1) q2 σ1 σ3 →
      Fa_grow_pre q1 (k + 1) σ3 ∧
      ∀ σ4 : Hp, Fa_grow_post q1 (k + 1) σ3 σ4 →
      ∀ σ5 : Hp, σ5 = hp σ4 (k + 1) 3 (wr ((σ4 (k + 1) 3) + 1)) →
      ∃ n' : Nat, k = k ∧ q1 = q1 ∧ q2 = q2 ∧ Ou_findCalm_I52 k q1 q2 σ n' 0 0 σ5) ∧
    (¬ (r2 = 0) →
      Ou_findCalm_post k q1 q2 σ (-1) σ1)) ∧
  (¬ (¬ σ q1 9 = 0) →
    Ou_findCalm_post k q1 q2 σ 0 σ)
def Ou_findCalm_vc52 : Prop := ∀ (k : Nat) (q1 : Nat) (q2 : Nat) (σ0 : Hp), Ou_findCalm_pre k q1 q2 σ0 → ∀ (n : Nat) (v3 : Int) (v4 : Int) (σ : Hp), ax_H σ → Ou_findCalm_I52 k q1 q2 σ0 n v3 v4 σ →
  (σ q1 9 ≤ v4 →
    (999 ≤ v3 →
      Ou_findCalm_post k q1 q2 σ0 (-1) σ) ∧
    (¬ (999 ≤ v3) →
      Ou_findCalm_post k q1 q2 σ0 (wr (v3 + 1)) σ)) ∧
  (¬ (σ q1 9 ≤ v4) →
    Fa_worryOf_pre q1 (k + 1) v4 σ ∧
    ∀ (r2 : Int) (σ1 : Hp), Fa_worryOf_post q1 (k + 1) v4 σ r2 σ1 →
    Jm_max_pre v3 r2 σ1 ∧
    ∀ (r4 : Int) (σ3 : Hp), Jm_max_post v3 r2 σ1 r4 σ3 →
    ∃ n' : Nat, n' < n ∧ k = k ∧ q1 = q1 ∧ q2 = q2 ∧ Ou_findCalm_I52 k q1 q2 σ0 n' r4 (wr (v4 + 1)) σ3)
theorem FS.e9 {σ : Hp} {k : Nat} (h : FS σ k) : σ k 9 = (fN (famX σ k) : Int) := by show _ = ((σ k 9).toNat : Int); have := h.1; omega
theorem Ou_findCalm_p : Ou_findCalm_vc := by
  intro k f q σ hH hp
  obtain ⟨rfl, rfl, hW⟩ := hp
  have e9 := hW.2.1.e9
  rw [e9]
  refine ⟨fun hn => ⟨trivial, ?_⟩, fun hn => ⟨Fr.rf, ?_⟩⟩
  · rintro r2 σ1 ⟨rfl, rfl⟩
    refine ⟨fun h => ?_, fun h => ⟨Fr.rf, ?_⟩⟩
    · have hc : ¬ (¬ σ1 31 5 = 0 ∧ ¬ σ1 31 2 = -1) := fun z => absurd h (by rw [if_pos z]; decide)
      refine ⟨⟨Or.inl rfl, Or.inr (Or.inr rfl), by decide⟩, ?_⟩
      rintro σ3 ⟨hf3, hs3⟩
      have hf3' : Fr (sg f 4) σ1 σ3 := hf3.mono (by simp [sg])
      obtain ⟨hW3, hfam3, hnow3⟩ := hW.keep hf3' (fun c hc => Or.inl hc)
      have hok3 : OKs 999 (stX σ3 4) := by rw [hs3]; exact hW.2.2.1
      refine ⟨⟨hW.1, Or.inl rfl, hW3.2.1, hok3.ss⟩, ?_⟩
      rintro σ4 ⟨hf4, hg4⟩
      rintro σ5 rfl
      have hf5 : Fr (sg f 4) σ1 σ4 := hf3'.tr (hf4.mono (by simp [sg]))
      have hne := kq_ne hW.1 (show SO 4 from Or.inl rfl)
      have h40 : σ4 4 = σ3 4 := hf4 4 (by
        have h1 := hne 7 0 (by omega) (by omega)
        have h2 := hne 10 0 (by omega) (by omega)
        have h3 := hne 11 0 (by omega) (by omega)
        have h4 := hne 14 0 (by omega) (by omega)
        have h5 := hne 15 0 (by omega) (by omega)
        simp only [List.mem_cons, List.not_mem_nil, or_false]; omega)
      have h42 : σ4 6 = σ3 6 := hf4 6 (by
        have h1 := hne 7 2 (by omega) (by omega)
        have h2 := hne 10 2 (by omega) (by omega)
        have h3 := hne 11 2 (by omega) (by omega)
        have h4 := hne 14 2 (by omega) (by omega)
        have h5 := hne 15 2 (by omega) (by omega)
        simp only [List.mem_cons, List.not_mem_nil, or_false]; omega)
      have hd3 : σ3 4 3 = σ1 31 3 := congrArg (fun x => x.2.2.2.1) hs3
      have hdR := hW.2.2.1.2.2.1
      have hd4 : (stX σ1 31).2.2.2.1 = σ1 31 3 := rfl
      rw [hd4] at hdR
      refine ⟨6, rfl, rfl, rfl, 0, rfl, Nat.zero_le _, by omega, rfl, Fr.hp hf5 (by simp [sg]), ?_, hc, rfl⟩
      show stX (hp σ4 4 3 (wr (σ4 4 3 + 1))) 4 = _
      rw [h40, hd3, wr1 (by omega) (by omega)]
      have hcar : tr 6 (σ4 5) = grA (famX σ1 f) (stX σ1 31) := by
        funext j
        by_cases hj : j < 6
        · rw [tr_in hj, hg4 j hj, hfam3, hs3]
        · rw [tr_out (by omega)]
          unfold grA
          rw [if_neg (by have := hW.2.1.n6; omega)]
          exact (tr_out (by omega)).symm
      have e3 := hs3
      unfold stX clmS
      rw [hp_ne (show (4 + 1 : Nat) ≠ 4 by decide), hp_ne (show (4 + 2 : Nat) ≠ 4 by decide)]
      refine Prod.ext hcar (Prod.ext ?_ ?_)
      · show tr 6 (σ4 6) = _
        rw [h42]; exact congrArg (fun x => x.2.1) hs3
      · have a2 : σ3 4 2 = σ1 31 2 := congrArg (fun x => x.2.2.1) hs3
        have a4 : σ3 4 4 = σ1 31 4 := congrArg (fun x => x.2.2.2.2.1) hs3
        have a5 : σ3 4 5 = σ1 31 5 := congrArg (fun x => x.2.2.2.2.2) hs3
        simp only [hp_rd, h40]
        simp [a2, a4, a5]
    · have hc : ¬ σ1 31 5 = 0 ∧ ¬ σ1 31 2 = -1 := by
        by_cases z : ¬ σ1 31 5 = 0 ∧ ¬ σ1 31 2 = -1
        · exact z
        · exact absurd (by rw [if_neg z]) h
      unfold clm
      rw [if_pos (show ¬ (stX σ1 31).2.2.2.2.2 = 0 ∧ ¬ (stX σ1 31).2.2.1 = -1 from hc)]
  · have hn0 : fN (famX σ f) = 0 := by have := Classical.not_not.mp hn; omega
    have hh := hW.2.2.2.1
    rw [hn0] at hh
    unfold clm
    rw [if_neg (fun z => z.2 (by omega)), hn0]
    rfl
theorem Ou_findCalm_p52 : Ou_findCalm_vc52 := by
  intro k f q σ0 hp m v3 v4 σ hH hI
  obtain ⟨rfl, rfl, hW⟩ := hp
  obtain ⟨i, rfl, hi, hn1, rfl, hf, hs, hc, rfl⟩ := hI
  obtain ⟨hW1, hfam, hnow⟩ := hW.keep hf (fun c hc => Or.inl hc)
  have e9 := hW1.2.1.e9
  rw [hfam] at e9
  have hn6 := hW.2.1.n6
  rw [e9]
  refine ⟨fun h => ?_, fun h => ?_⟩
  · have e : i = fN (famX σ0 f) := by omega
    subst e
    have hpos : 0 ≤ mxw (famX σ0 f) (clmS (famX σ0 f) (stX σ0 31)) (fN (famX σ0 f)) := by
      obtain ⟨j, hj⟩ : ∃ j, fN (famX σ0 f) = j + 1 := ⟨fN (famX σ0 f) - 1, by omega⟩
      rw [hj]
      have := wry_R (famX σ0 f) (clmS (famX σ0 f) (stX σ0 31)) j
      unfold mxw
      omega
    rw [Int.max_eq_right hpos]
    refine ⟨fun h2 => ⟨hf, ?_⟩, fun h2 => ⟨hf, ?_⟩⟩
    · unfold clm; rw [if_neg hc, if_neg (by omega)]
    · unfold clm; rw [if_neg hc, if_pos (by omega), wr1 hpos (by omega)]
  · have hok : OKs 1000 (stX σ 4) := by
      rw [hs]
      refine ⟨fun j => grA_R hW.2.2.1.1 j, hW.2.2.1.2.1, ?_, hW.2.2.1.2.2.2⟩
      have := hW.2.2.1.2.2.1
      show 0 ≤ (stX σ0 31).2.2.2.1 + 1 ∧ (stX σ0 31).2.2.2.1 + 1 ≤ 1000
      omega
    refine ⟨⟨hW.1, Or.inl rfl, by omega, by omega, hW1.2.1, hok.ss.ws (by omega)⟩, ?_⟩
    rintro r2 σ1 ⟨hf1, rfl⟩
    refine ⟨trivial, ?_⟩
    rintro r4 σ3 ⟨rfl, rfl⟩
    rw [wr1 (by omega) (by omega)]
    have hst := sc_st hW.1 (show SO 4 from Or.inl rfl) hf1
    refine ⟨6 - (i + 1), by omega, rfl, rfl, rfl, i + 1, by simp, by omega, hn1, rfl, hf.tr (sc_sg hf1), ?_, hc, ?_⟩
    · rw [stX_eq hst]; exact hs
    · show max (max 0 _) (wry (famX σ f) (stX σ 4) (i : Int).toNat) = max 0 (max _ _)
      rw [hfam, hs, Int.toNat_natCast]
      have := wry_R (famX σ0 f) (clmS (famX σ0 f) (stX σ0 31)) i
      omega
def Ou_findCalm_I : List AV → Hp → Nat → Nat → List AV → List AV → Hp → Prop := fun as σ0 pc n st ls σ => (match as with
    | [.inr (.inr (.inl (k, 0, 4))), .inr (.inr (.inl (q1, 0, 1))), .inr (.inr (.inl (q2, 0, 7)))] => (bif Nat.beq pc 52 then (match st, ls with
      | [], [.inr (.inr (.inl (k', 0, 4))), .inr (.inr (.inl (q1', 0, 1))), .inr (.inr (.inl (q2', 0, 7))), .inl v3, .inl v4] => k = k' ∧ q1 = q1' ∧ q2 = q2' ∧ Ou_findCalm_I52 k q1 q2 σ0 n v3 v4 σ
      | _, _ => False) else False)
    | _ => False)
def Ou_findCalm_ct : Nat → Ct := fun n => match n with
  | 0 => St_holdsFast_cs
  | 1 => St_copy_cs
  | 2 => Fa_grow_cs
  | 3 => Fa_worryOf_cs
  | 4 => Jm_max_cs
  | _ => Ou_findCalm_cs
set_option maxRecDepth 20000 in
set_option maxHeartbeats 4000000 in
theorem Ou_findCalm_met {l : Launch} {D : va_G} {ad : Nat → Nat} {ca : Nat → ClassId} {L : Nat} {fx : Nat → Int} : ax_MC l D ad ca L fx yX4_findCalm cX4_findCalm 5 (some .int) 5 Ou_findCalm_cs := by
  refine ax_met (oc := 4) (ct := Ou_findCalm_ct) (calls := Ou_findCalm_cl) (bs := Ou_findCalm_bk) (cut := fun pc => Nat.beq pc 52) (f := 8) (I := Ou_findCalm_I) (by decide) rfl rfl Ou_findCalm_ck (List.forall_mem_cons.mpr ⟨ax_cwV St_holdsFast_met (by decide) (by decide) rfl (by decide) rfl (ax_m4 130 (by decide +kernel) rfl) St_holdsFast_w rfl St_holdsFast_ds, List.forall_mem_cons.mpr ⟨ax_cwV St_copy_met (by decide) (by decide) rfl (by decide) rfl (ax_m4 85 (by decide +kernel) rfl) St_copy_w rfl St_copy_ds, List.forall_mem_cons.mpr ⟨ax_cwV Fa_grow_met (by decide) (by decide) rfl (by decide) rfl (ax_m4 232 (by decide +kernel) rfl) Fa_grow_w rfl Fa_grow_ds, List.forall_mem_cons.mpr ⟨ax_cwV Fa_worryOf_met (by decide) (by decide) rfl (by decide) rfl (ax_m4 145 (by decide +kernel) rfl) Fa_worryOf_w rfl Fa_worryOf_ds, List.forall_mem_cons.mpr ⟨ax_cwMax (by decide) (ax_m4 173 (by decide +kernel) rfl), fun _ h => absurd h List.not_mem_nil⟩⟩⟩⟩⟩) ?_ ?_
  · intro as σ0 hp hH
    match as, hp with
    | [.inr (.inr (.inl (k, 0, 4))), .inr (.inr (.inl (q1, 0, 1))), .inr (.inr (.inl (q2, 0, 7)))], hp => exact ⟨rfl, Ou_findCalm_p k q1 q2 σ0 hH hp⟩
  · intro as σ0 hp n pc st ls σ hH hI
    match as, hp, hI with
    | [.inr (.inr (.inl (k, 0, 4))), .inr (.inr (.inl (q1, 0, 1))), .inr (.inr (.inl (q2, 0, 7)))], hp, hI =>
      rcases ax_bifE hI with ⟨hpc, hI⟩ | ⟨-, hI⟩
      · have := Nat.eq_of_beq_eq_true hpc
        subst this
        match st, ls, hI with
        | [], [.inr (.inr (.inl (k', 0, 4))), .inr (.inr (.inl (q1', 0, 1))), .inr (.inr (.inl (q2', 0, 7))), .inl v3, .inl v4], hI =>
          obtain ⟨rfl, rfl, rfl, hI⟩ := hI
          exact Ou_findCalm_p52 k q1 q2 σ0 hp n v3 v4 σ hH hI
      exact False.elim hI
