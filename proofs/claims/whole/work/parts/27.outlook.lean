-- THE OUTLOOK: what would come
/-- a day, by its argument: 0 no news, -1 news as drawn -/
def stp (F : Fam) (a : Int) (s : Sta) : Sta := pss F s (nws F s a) (nwd F s a)
def itr (F : Fam) (a : Int) (s : Sta) : Nat → Sta
  | 0 => s
  | n + 1 => stp F a (itr F a s n)
theorem itr_s (F : Fam) (a : Int) (s : Sta) (n : Nat) : itr F a s (n + 1) = stp F a (itr F a s n) := rfl
/-- a state is what it can be, its day d at most -/
def OKs (d : Int) (s : Sta) : Prop := (∀ j, 0 ≤ s.1 j ∧ s.1 j ≤ 99) ∧ (∀ j, 0 ≤ s.2.1 j ∧ s.2.1 j < 64) ∧ (0 ≤ s.2.2.2.1 ∧ s.2.2.2.1 ≤ d) ∧ (0 ≤ s.2.2.2.2.1 ∧ s.2.2.2.2.1 < 1000)
theorem OKs.ss {σ : Hp} {q : Nat} {d : Int} (h : OKs d (stX σ q)) : SS σ q := by
  intro j hj
  have h1 : 0 ≤ tr 6 (σ (q + 1)) j ∧ tr 6 (σ (q + 1)) j ≤ 99 := h.1 j
  have h2 : 0 ≤ tr 6 (σ (q + 2)) j ∧ tr 6 (σ (q + 2)) j < 64 := h.2.1 j
  rw [tr_in hj] at h1 h2
  exact ⟨h1, h2⟩
theorem OKs.sd {σ : Hp} {q : Nat} {d : Int} (h : OKs d (stX σ q)) (hd : d < 1000000) : SD σ q := by
  have h1 : 0 ≤ σ q 3 ∧ σ q 3 ≤ d := h.2.2.1
  have h2 : 0 ≤ σ q 4 ∧ σ q 4 < 1000 := h.2.2.2
  exact ⟨h1.1, by omega, h2.1, h2.2⟩
theorem OKs.mono {s : Sta} {d e : Int} (h : OKs d s) (hd : d ≤ e) : OKs e s := ⟨h.1, h.2.1, ⟨h.2.2.1.1, by have := h.2.2.1.2; omega⟩, h.2.2.2⟩
theorem OKs.stp {F : Fam} {s : Sta} {d a : Int} (h : OKs d s) (hN : fN F ≤ 6) (ha : a = -1 ∨ (0 ≤ a ∧ a < 64)) : OKs (d + 1) (stp F a s) := by
  have hn := nws_R (F := F) (s := s) hN h.2.2.2 ha
  refine ⟨fun j => pssC_R h.1 j, h.2.1, ?_, ⟨hn.2.2.1, hn.2.2.2⟩⟩
  have := h.2.2.1
  show 0 ≤ s.2.2.2.1 + 1 ∧ s.2.2.2.1 + 1 ≤ d + 1
  omega
theorem OKs.itr {F : Fam} {s : Sta} {d a : Int} (h : OKs d s) (hN : fN F ≤ 6) (ha : a = -1 ∨ (0 ≤ a ∧ a < 64)) (n : Nat) : OKs (d + n) (itr F a s n) := by
  induction n with
  | zero => exact h.mono (by omega)
  | succ n ih => rw [itr_s]; exact (ih.stp hN ha).mono (by omega)
theorem FS.n6 {σ : Hp} {k : Nat} (h : FS σ k) : fN (famX σ k) ≤ 6 := by show (σ k 9).toNat ≤ 6; have := h.1; omega
/-- of n persons: the hair is on one of them or the brush, knows are among them, the others have no cares -/
def VN (n : Nat) (s : Sta) : Prop := (-1 ≤ s.2.2.1 ∧ s.2.2.1 < (n : Int)) ∧ (∀ p o, bt (s.2.1 p) o = true → p < n ∧ o < n ∧ p ≠ o) ∧ ∀ j, n ≤ j → s.1 j = 0
/-- what the outlook's methods ask of the world: the family at f, the state now at 31 -/
def OW (σ : Hp) (f : Nat) : Prop := FO f ∧ FS σ f ∧ OKs 999 (stX σ 31) ∧ VN (fN (famX σ f)) (stX σ 31)
theorem OW.keep {σ σ' : Hp} {f : Nat} {cs : List Nat} (h : OW σ f) (hf : Fr cs σ σ') (hc : ∀ c ∈ cs, c ∈ sg f 4 ∨ c = 3 ∨ (7 ≤ c ∧ c ≤ 13) ∨ c = 34) : OW σ' f ∧ famX σ' f = famX σ f ∧ (∀ d, d < 3 → σ' (31 + d) = σ (31 + d)) := by
  obtain ⟨h1, h2, h3⟩ := h
  have key : ∀ c, (c = f ∨ (f + 2 ≤ c ∧ c ≤ f + 6) ∨ c = f + 8 ∨ c = f + 9 ∨ c = f + 12 ∨ c = f + 13 ∨ (31 ≤ c ∧ c < 34)) → σ' c = σ c := by
    intro c hcc
    refine hf c (fun z => ?_)
    rcases hc c z with h | h | h | h
    · simp only [sg, List.mem_cons, List.not_mem_nil, or_false] at h
      rcases h1 with rfl | rfl <;> omega
    · rcases h1 with rfl | rfl <;> omega
    · rcases h1 with rfl | rfl <;> omega
    · rcases h1 with rfl | rfl <;> omega
  have hK : FK f σ σ' := ⟨key f (by omega), fun d h1 h2 => key _ (by omega), key _ (by omega), key _ (by omega), key _ (by omega), key _ (by omega)⟩
  have hn : ∀ d, d < 3 → σ' (31 + d) = σ (31 + d) := fun d hd => key _ (by omega)
  exact ⟨⟨h1, hK.fs h2, by rw [stX_eq hn]; exact h3.1, by rw [stX_eq hn, hK.fam]; exact h3.2⟩, hK.fam, hn⟩
def Ou_after_pre (k f q : Nat) (a b : Int) (σ : Hp) : Prop := k = 3 ∧ q = 31 ∧ OW σ f ∧ 0 ≤ a ∧ a ≤ 60 ∧ (b = -1 ∨ b = 0)
def Ou_after_post (_k f _q : Nat) (a b : Int) (σ : Hp) (r : Int) (σ' : Hp) : Prop := r = 4 ∧ Fr (sg f 4) σ σ' ∧ stX σ' 4 = itr (famX σ f) b (stX σ 31) a.toNat
def Ou_after_I11 (_k f _q : Nat) (a b : Int) (σ0 : Hp) (n : Nat) (v5 : Int) (σ : Hp) : Prop := ∃ i : Nat, v5 = i ∧ (i : Int) ≤ a ∧ n = a.toNat - i ∧ Fr (sg f 4) σ0 σ ∧ stX σ 4 = itr (famX σ0 f) b (stX σ0 31) i
def Ou_after_bk : List (Nat × List Item) := [(0, [(.aload_n 0, 1, [], []), (.getfield 12, 3, [4, 0, 4, 1, 0, 7], []), (.aload_n 2, 1, [], []), (.invokevirtual 40, 3, [0], []), (.iconst 0, 1, [], []), (.istore 5, 2, [], [])]),
  (11, [(.iload 5, 2, [], []), (.iload_n 3, 1, [], []), (.if_icmp .ge 19, 3, [33], []), (.aload_n 1, 1, [], []), (.aload_n 0, 1, [], []), (.getfield 12, 3, [4, 0, 4, 1, 0, 7], []), (.iload 4, 2, [], []), (.invokevirtual 44, 3, [1], []), (.iinc 5 1, 3, [], []), (.goto (-19), 3, [11], [])]),
  (33, [(.aload_n 0, 1, [], []), (.getfield 12, 3, [4, 0, 4, 1, 0, 7], []), (.areturn, 1, [], [])])]
def Ou_after_cl : List (Instr × Nat) := [(.invokevirtual 40, 0), (.invokevirtual 44, 1)]
set_option maxRecDepth 20000 in
theorem Ou_after_ck : Ou_after_bk.all (fun b => ax_chB 4 6 cX4_after Ou_after_cl b.1 b.2) = true := by decide +kernel
def Ou_after_cs : Ct := (5, 5, 3, (0, 7), fun as σ => (match as with
    | [.inr (.inr (.inl (k, 0, 4))), .inr (.inr (.inl (q1, 0, 1))), .inr (.inr (.inl (q2, 0, 7))), .inl a3, .inl a4] => Ou_after_pre k q1 q2 a3 a4 σ
    | _ => False), fun as σ r σ' => (match as with
    | [.inr (.inr (.inl (k, 0, 4))), .inr (.inr (.inl (q1, 0, 1))), .inr (.inr (.inl (q2, 0, 7))), .inl a3, .inl a4] => Ou_after_post k q1 q2 a3 a4 σ r σ'
    | _ => False))
theorem Ou_after_w : ∀ w ∈ ([.instanceMethod yX4_after, .selects yX4_after.cls yX4_after yX4_after, .initialized yX4_after.cls, .code yX4_after cX4_after 6 (some (.object "GreyHair$State"))] : List Cond), w ∈ ax_tb := ax_w4 (ax_m4 82 (by decide +kernel) rfl) (ax_m4 83 (by decide +kernel) rfl) (ax_m1 3 (by decide +kernel) rfl) (ax_m4 84 (by decide +kernel) rfl)
theorem Ou_after_ds : yX4_after.cls ≠ "java/lang/invoke/MethodHandle" ∧ yX4_after.cls ≠ "java/lang/invoke/VarHandle" ∧ (parseMethodDescriptor yX4_after.desc).map (fun d => d.parameters.length) = some 4 := by decide +kernel
def Ou_after_vc : Prop := ∀ (k : Nat) (q1 : Nat) (q2 : Nat) (a3 : Int) (a4 : Int) (σ : Hp), ax_H σ → Ou_after_pre k q1 q2 a3 a4 σ →
  St_copy_pre (k + 1) q2 σ ∧
  ∀ σ1 : Hp, St_copy_post (k + 1) q2 σ σ1 →
  ∃ n' : Nat, k = k ∧ q1 = q1 ∧ q2 = q2 ∧ a3 = a3 ∧ a4 = a4 ∧ Ou_after_I11 k q1 q2 a3 a4 σ n' 0 σ1
def Ou_after_vc11 : Prop := ∀ (k : Nat) (q1 : Nat) (q2 : Nat) (a3 : Int) (a4 : Int) (σ0 : Hp), Ou_after_pre k q1 q2 a3 a4 σ0 → ∀ (n : Nat) (v5 : Int) (σ : Hp), ax_H σ → Ou_after_I11 k q1 q2 a3 a4 σ0 n v5 σ →
  (a3 ≤ v5 →
    (((0, 7) : Nat × Nat) = (0, 7) ∧ 0 ≤ 4) ∧ Ou_after_post k q1 q2 a3 a4 σ0 ((k + 1) : Nat) σ) ∧
  (¬ (a3 ≤ v5) →
    Fa_pass_pre q1 (k + 1) a4 σ ∧
    ∀ σ1 : Hp, Fa_pass_post q1 (k + 1) a4 σ σ1 →
    ∃ n' : Nat, n' < n ∧ k = k ∧ q1 = q1 ∧ q2 = q2 ∧ a3 = a3 ∧ a4 = a4 ∧ Ou_after_I11 k q1 q2 a3 a4 σ0 n' (wr (v5 + 1)) σ1)
theorem OW.pass {σ0 σ : Hp} {f : Nat} {cs : List Nat} (h : OW σ0 f) (hf : Fr cs σ0 σ) (hc : ∀ c ∈ cs, c ∈ sg f 4 ∨ c = 3 ∨ (7 ≤ c ∧ c ≤ 13) ∨ c = 34) {d : Int} (hd : d < 1000000) (hs : OKs d (stX σ 4)) {b : Int} (hb : b = -1 ∨ (0 ≤ b ∧ b < 64)) :
    Fa_pass_pre f 4 b σ ∧ ∀ σ1 : Hp, Fa_pass_post f 4 b σ σ1 → Fr (sg f 4) σ σ1 ∧ stX σ1 4 = stp (famX σ0 f) b (stX σ 4) := by
  obtain ⟨⟨h1, h2, h3⟩, hfam, -⟩ := h.keep hf hc
  refine ⟨⟨h1, Or.inl rfl, h2, hs.ss, hs.sd hd, hb⟩, ?_⟩
  rintro σ1 ⟨g1, g2⟩
  refine ⟨g1, ?_⟩
  rw [g2, hfam]
  rfl
theorem Ou_after_p : Ou_after_vc := by
  intro k f q a b σ hH hp
  obtain ⟨rfl, rfl, hW, a0, a6, hb⟩ := hp
  refine ⟨⟨Or.inl rfl, Or.inr (Or.inr rfl), by decide⟩, ?_⟩
  rintro σ1 ⟨hf, hs⟩
  exact ⟨a.toNat, rfl, rfl, rfl, rfl, rfl, 0, rfl, a0, rfl, hf.mono (by simp [sg]), hs⟩
theorem Ou_after_p11 : Ou_after_vc11 := by
  intro k f q a b σ0 hp n v5 σ hH hI
  obtain ⟨rfl, rfl, hW, a0, a6, hb⟩ := hp
  obtain ⟨i, rfl, hi, rfl, hf, hs⟩ := hI
  have hb' : b = -1 ∨ (0 ≤ b ∧ b < 64) := by omega
  refine ⟨fun h => ⟨⟨rfl, by decide⟩, rfl, hf, by rw [hs, show a.toNat = i by omega]⟩, fun h => ?_⟩
  have hok := hW.2.2.1.itr hW.2.1.n6 hb' i
  rw [← hs] at hok
  obtain ⟨p1, p2⟩ := hW.pass hf (fun c hc => Or.inl hc) (by omega) hok hb'
  refine ⟨p1, fun σ1 h1 => ?_⟩
  obtain ⟨g1, g2⟩ := p2 σ1 h1
  rw [wr1 (by omega) (by omega)]
  exact ⟨a.toNat - (i + 1), by omega, rfl, rfl, rfl, rfl, rfl, i + 1, by simp, by omega, rfl, hf.tr g1, by rw [g2, hs, itr_s]⟩
def Ou_after_I : List AV → Hp → Nat → Nat → List AV → List AV → Hp → Prop := fun as σ0 pc n st ls σ => (match as with
    | [.inr (.inr (.inl (k, 0, 4))), .inr (.inr (.inl (q1, 0, 1))), .inr (.inr (.inl (q2, 0, 7))), .inl a3, .inl a4] => (bif Nat.beq pc 11 then (match st, ls with
      | [], [.inr (.inr (.inl (k', 0, 4))), .inr (.inr (.inl (q1', 0, 1))), .inr (.inr (.inl (q2', 0, 7))), .inl a3', .inl a4', .inl v5] => k = k' ∧ q1 = q1' ∧ q2 = q2' ∧ a3 = a3' ∧ a4 = a4' ∧ Ou_after_I11 k q1 q2 a3 a4 σ0 n v5 σ
      | _, _ => False) else False)
    | _ => False)
def Ou_after_ct : Nat → Ct := fun n => match n with
  | 0 => St_copy_cs
  | 1 => Fa_pass_cs
  | _ => Ou_after_cs
set_option maxRecDepth 20000 in
set_option maxHeartbeats 4000000 in
theorem Ou_after_met {l : Launch} {D : va_G} {ad : Nat → Nat} {ca : Nat → ClassId} {L : Nat} {fx : Nat → Int} : ax_MC l D ad ca L fx yX4_after cX4_after 6 (some (.object "GreyHair$State")) 6 Ou_after_cs := by
  refine ax_met (oc := 4) (ct := Ou_after_ct) (calls := Ou_after_cl) (bs := Ou_after_bk) (cut := fun pc => Nat.beq pc 11) (f := 4) (I := Ou_after_I) (by decide) rfl rfl Ou_after_ck (List.forall_mem_cons.mpr ⟨ax_cwV St_copy_met (by decide) (by decide) rfl (by decide) rfl (ax_m4 85 (by decide +kernel) rfl) St_copy_w rfl St_copy_ds, List.forall_mem_cons.mpr ⟨ax_cwV Fa_pass_met (by decide) (by decide) rfl (by decide) rfl (ax_m4 89 (by decide +kernel) rfl) Fa_pass_w rfl Fa_pass_ds, fun _ h => absurd h List.not_mem_nil⟩⟩) ?_ ?_
  · intro as σ0 hp hH
    match as, hp with
    | [.inr (.inr (.inl (k, 0, 4))), .inr (.inr (.inl (q1, 0, 1))), .inr (.inr (.inl (q2, 0, 7))), .inl a3, .inl a4], hp => exact ⟨rfl, Ou_after_p k q1 q2 a3 a4 σ0 hH hp⟩
  · intro as σ0 hp n pc st ls σ hH hI
    match as, hp, hI with
    | [.inr (.inr (.inl (k, 0, 4))), .inr (.inr (.inl (q1, 0, 1))), .inr (.inr (.inl (q2, 0, 7))), .inl a3, .inl a4], hp, hI =>
      rcases ax_bifE hI with ⟨hpc, hI⟩ | ⟨-, hI⟩
      · have := Nat.eq_of_beq_eq_true hpc
        subst this
        match st, ls, hI with
        | [], [.inr (.inr (.inl (k', 0, 4))), .inr (.inr (.inl (q1', 0, 1))), .inr (.inr (.inl (q2', 0, 7))), .inl a3', .inl a4', .inl v5], hI =>
          obtain ⟨rfl, rfl, rfl, rfl, rfl, hI⟩ := hI
          exact Ou_after_p11 k q1 q2 a3 a4 σ0 hp n v5 σ hH hI
      exact False.elim hI
/-- the state with one's care changed -/
def chg (s : Sta) (p : Nat) (v : Int) : Sta := (va_up s.1 p (wth (s.1 p + v) 99), s.2)
theorem OKs.chg {s : Sta} {d : Int} (h : OKs d s) (p : Nat) (v : Int) : OKs d (chg s p v) := by
  refine ⟨fun j => ?_, h.2⟩
  show 0 ≤ va_up s.1 p (wth (s.1 p + v) 99) j ∧ va_up s.1 p (wth (s.1 p + v) 99) j ≤ 99
  unfold va_up
  split
  · exact wth_R _ 99 (by decide)
  · exact h.1 j
theorem stX_care {σ : Hp} {q p : Nat} {v : Int} (hp6 : p < 6) : stX (hp σ (q + 1) p v) q = (va_up (stX σ q).1 p v, (stX σ q).2) := by
  unfold stX
  rw [hp_ne (show q + 2 ≠ q + 1 by omega), hp_ne (show q ≠ q + 1 by omega)]
  refine Prod.ext ?_ rfl
  funext j
  show tr 6 (hp σ (q + 1) p v (q + 1)) j = va_up (tr 6 (σ (q + 1))) p v j
  unfold va_up tr
  rw [hp_rd]
  by_cases hj : j = p
  · subst hj; simp [hp6]
  · simp [hj]
/-- the hair is on him behind none of n days -/
def Spd (F : Fam) (s : Sta) (p : Int) (n : Nat) : Prop := ∀ i, i < n → ¬ (itr F 0 s (i + 1)).2.2.1 = p
def Ou_isSpared_pre (k f q : Nat) (_a n b v : Int) (σ : Hp) : Prop := k = 3 ∧ q = 31 ∧ OW σ f ∧ 0 ≤ n ∧ n ≤ 60 ∧ 0 ≤ b ∧ b < 6 ∧ -1000 ≤ v ∧ v ≤ 1000
def Ou_isSpared_post (_k f _q : Nat) (a n b v : Int) (σ : Hp) (r : Int) (σ' : Hp) : Prop := Fr (sg f 4) σ σ' ∧ ((r = 1 ∧ Spd (famX σ f) (chg (stX σ 31) b.toNat v) a n.toNat) ∨ (r = 0 ∧ ¬ Spd (famX σ f) (chg (stX σ 31) b.toNat v) a n.toNat))
def Ou_isSpared_I23 (_k f _q : Nat) (a n b v : Int) (σ0 : Hp) (m : Nat) (v7 : Int) (σ : Hp) : Prop := ∃ i : Nat, v7 = i ∧ (i : Int) ≤ n ∧ m = n.toNat - i ∧ Fr (sg f 4) σ0 σ ∧ stX σ 4 = itr (famX σ0 f) 0 (chg (stX σ0 31) b.toNat v) i ∧ Spd (famX σ0 f) (chg (stX σ0 31) b.toNat v) a i
def Ou_isSpared_bk : List (Nat × List Item) := [(0, [(.aload_n 0, 1, [], []), (.getfield 12, 3, [4, 0, 4, 1, 0, 7], []), (.aload_n 2, 1, [], []), (.invokevirtual 40, 3, [0], []), (.aload_n 0, 1, [], []), (.getfield 12, 3, [4, 0, 4, 1, 0, 7], []), (.iload 5, 2, [], []), (.iload 6, 2, [], []), (.invokevirtual 61, 3, [1], []), (.pop, 1, [], []), (.iconst 0, 1, [], []), (.istore 7, 2, [], [])]),
  (23, [(.iload 7, 2, [], []), (.iload 4, 2, [], []), (.if_icmp .ge 31, 3, [58], []), (.aload_n 1, 1, [], []), (.aload_n 0, 1, [], []), (.getfield 12, 3, [4, 0, 4, 1, 0, 7], []), (.iconst 0, 1, [], []), (.invokevirtual 44, 3, [2], []), (.aload_n 0, 1, [], []), (.getfield 12, 3, [4, 0, 4, 1, 0, 7], []), (.getfield 65, 3, [7, 2, 0, 0, 0, 0], []), (.iload_n 3, 1, [], []), (.if_icmp .ne 5, 3, [52], []), (.iconst 0, 1, [], []), (.ireturn, 1, [], [])]),
  (52, [(.iinc 7 1, 3, [], []), (.goto (-32), 3, [23], [])]),
  (58, [(.iconst 1, 1, [], []), (.ireturn, 1, [], [])])]
def Ou_isSpared_cl : List (Instr × Nat) := [(.invokevirtual 40, 0), (.invokevirtual 61, 1), (.invokevirtual 44, 2)]
set_option maxRecDepth 20000 in
theorem Ou_isSpared_ck : Ou_isSpared_bk.all (fun b => ax_chB 4 8 cX4_isSpared Ou_isSpared_cl b.1 b.2) = true := by decide +kernel
def Ou_isSpared_cs : Ct := (7, 5, 2, (0, 0), fun as σ => (match as with
    | [.inr (.inr (.inl (k, 0, 4))), .inr (.inr (.inl (q1, 0, 1))), .inr (.inr (.inl (q2, 0, 7))), .inl a3, .inl a4, .inl a5, .inl a6] => Ou_isSpared_pre k q1 q2 a3 a4 a5 a6 σ
    | _ => False), fun as σ r σ' => (match as with
    | [.inr (.inr (.inl (k, 0, 4))), .inr (.inr (.inl (q1, 0, 1))), .inr (.inr (.inl (q2, 0, 7))), .inl a3, .inl a4, .inl a5, .inl a6] => Ou_isSpared_post k q1 q2 a3 a4 a5 a6 σ r σ'
    | _ => False))
theorem Ou_isSpared_w : ∀ w ∈ ([.instanceMethod yX4_isSpared, .selects yX4_isSpared.cls yX4_isSpared yX4_isSpared, .initialized yX4_isSpared.cls, .code yX4_isSpared cX4_isSpared 8 (some .boolean)] : List Cond), w ∈ ax_tb := ax_w4 (ax_m4 110 (by decide +kernel) rfl) (ax_m4 111 (by decide +kernel) rfl) (ax_m1 3 (by decide +kernel) rfl) (ax_m4 112 (by decide +kernel) rfl)
theorem Ou_isSpared_ds : yX4_isSpared.cls ≠ "java/lang/invoke/MethodHandle" ∧ yX4_isSpared.cls ≠ "java/lang/invoke/VarHandle" ∧ (parseMethodDescriptor yX4_isSpared.desc).map (fun d => d.parameters.length) = some 6 := by decide +kernel
def Ou_isSpared_vc : Prop := ∀ (k : Nat) (q1 : Nat) (q2 : Nat) (a3 : Int) (a4 : Int) (a5 : Int) (a6 : Int) (σ : Hp), ax_H σ → Ou_isSpared_pre k q1 q2 a3 a4 a5 a6 σ →
  St_copy_pre (k + 1) q2 σ ∧
  ∀ σ1 : Hp, St_copy_post (k + 1) q2 σ σ1 →
  St_change_pre (k + 1) a5 a6 σ1 ∧
  ∀ (r3 : Int) (σ2 : Hp), St_change_post (k + 1) a5 a6 σ1 r3 σ2 →
  ∃ n' : Nat, k = k ∧ q1 = q1 ∧ q2 = q2 ∧ a3 = a3 ∧ a4 = a4 ∧ a5 = a5 ∧ a6 = a6 ∧ Ou_isSpared_I23 k q1 q2 a3 a4 a5 a6 σ n' 0 σ2
def Ou_isSpared_vc23 : Prop := ∀ (k : Nat) (q1 : Nat) (q2 : Nat) (a3 : Int) (a4 : Int) (a5 : Int) (a6 : Int) (σ0 : Hp), Ou_isSpared_pre k q1 q2 a3 a4 a5 a6 σ0 → ∀ (n : Nat) (v7 : Int) (σ : Hp), ax_H σ → Ou_isSpared_I23 k q1 q2 a3 a4 a5 a6 σ0 n v7 σ →
  (a4 ≤ v7 →
    ((1 : Int) = 0 ∨ (1 : Int) = 1) ∧ Ou_isSpared_post k q1 q2 a3 a4 a5 a6 σ0 1 σ) ∧
  (¬ (a4 ≤ v7) →
    Fa_pass_pre q1 (k + 1) 0 σ ∧
    ∀ σ1 : Hp, Fa_pass_post q1 (k + 1) 0 σ σ1 →
    (¬ σ1 (k + 1) 2 = a3 →
      ∃ n' : Nat, n' < n ∧ k = k ∧ q1 = q1 ∧ q2 = q2 ∧ a3 = a3 ∧ a4 = a4 ∧ a5 = a5 ∧ a6 = a6 ∧ Ou_isSpared_I23 k q1 q2 a3 a4 a5 a6 σ0 n' (wr (v7 + 1)) σ1) ∧
    (¬ (¬ σ1 (k + 1) 2 = a3) →
      ((0 : Int) = 0 ∨ (0 : Int) = 1) ∧ Ou_isSpared_post k q1 q2 a3 a4 a5 a6 σ0 0 σ1))
theorem Ou_isSpared_p : Ou_isSpared_vc := by
  intro k f q a n b v σ hH hp
  obtain ⟨rfl, rfl, hW, n0, n6, b0, b6, v0, v1⟩ := hp
  refine ⟨⟨Or.inl rfl, Or.inr (Or.inr rfl), by decide⟩, ?_⟩
  rintro σ1 ⟨hf, hs⟩
  have hok : OKs 999 (stX σ1 4) := by rw [hs]; exact hW.2.2.1
  refine ⟨⟨b0, b6, v0, v1, hok.ss⟩, ?_⟩
  rintro r σ2 ⟨rfl, rfl⟩
  refine ⟨n.toNat, rfl, rfl, rfl, rfl, rfl, rfl, rfl, 0, rfl, n0, rfl, Fr.hp (hf.mono (by simp [sg])) (by simp [sg]), ?_, fun i hi => absurd hi (Nat.not_lt_zero i)⟩
  rw [stX_care (by omega), hs]
  have e : σ1 (4 + 1) b.toNat = (stX σ 31).1 b.toNat := by rw [← hs]; exact (tr_in (by omega)).symm
  rw [e]
  rfl
theorem Ou_isSpared_p23 : Ou_isSpared_vc23 := by
  intro k f q a n b v σ0 hp m v7 σ hH hI
  obtain ⟨rfl, rfl, hW, n0, n6, b0, b6, v0, v1⟩ := hp
  obtain ⟨i, rfl, hi, rfl, hf, hs, hsp⟩ := hI
  refine ⟨fun h => ⟨Or.inr rfl, hf, Or.inl ⟨rfl, by rw [show n.toNat = i by omega]; exact hsp⟩⟩, fun h => ?_⟩
  have hok := (hW.2.2.1.chg b.toNat v).itr hW.2.1.n6 (a := 0) (Or.inr ⟨by decide, by decide⟩) i
  rw [← hs] at hok
  obtain ⟨p1, p2⟩ := hW.pass hf (fun c hc => Or.inl hc) (by omega) hok (b := 0) (Or.inr ⟨by decide, by decide⟩)
  refine ⟨p1, fun σ1 h1 => ?_⟩
  obtain ⟨g1, g2⟩ := p2 σ1 h1
  rw [hs, ← itr_s] at g2
  have e2 : σ1 (3 + 1) 2 = (itr (famX σ0 f) 0 (chg (stX σ0 31) b.toNat v) (i + 1)).2.2.1 := by rw [← g2]; rfl
  rw [e2, wr1 (by omega) (by omega)]
  refine ⟨fun h3 => ⟨n.toNat - (i + 1), by omega, rfl, rfl, rfl, rfl, rfl, rfl, rfl, i + 1, by simp, by omega, rfl, hf.tr g1, g2, ?_⟩, fun h3 => ⟨Or.inl rfl, hf.tr g1, Or.inr ⟨rfl, fun z => ?_⟩⟩⟩
  · intro j hj
    by_cases hji : j = i
    · subst hji; exact h3
    · exact hsp j (by omega)
  · exact z i (by omega) (Classical.not_not.mp h3)
def Ou_isSpared_I : List AV → Hp → Nat → Nat → List AV → List AV → Hp → Prop := fun as σ0 pc n st ls σ => (match as with
    | [.inr (.inr (.inl (k, 0, 4))), .inr (.inr (.inl (q1, 0, 1))), .inr (.inr (.inl (q2, 0, 7))), .inl a3, .inl a4, .inl a5, .inl a6] => (bif Nat.beq pc 23 then (match st, ls with
      | [], [.inr (.inr (.inl (k', 0, 4))), .inr (.inr (.inl (q1', 0, 1))), .inr (.inr (.inl (q2', 0, 7))), .inl a3', .inl a4', .inl a5', .inl a6', .inl v7] => k = k' ∧ q1 = q1' ∧ q2 = q2' ∧ a3 = a3' ∧ a4 = a4' ∧ a5 = a5' ∧ a6 = a6' ∧ Ou_isSpared_I23 k q1 q2 a3 a4 a5 a6 σ0 n v7 σ
      | _, _ => False) else False)
    | _ => False)
def Ou_isSpared_ct : Nat → Ct := fun n => match n with
  | 0 => St_copy_cs
  | 1 => St_change_cs
  | 2 => Fa_pass_cs
  | _ => Ou_isSpared_cs
set_option maxRecDepth 20000 in
set_option maxHeartbeats 4000000 in
theorem Ou_isSpared_met {l : Launch} {D : va_G} {ad : Nat → Nat} {ca : Nat → ClassId} {L : Nat} {fx : Nat → Int} : ax_MC l D ad ca L fx yX4_isSpared cX4_isSpared 8 (some .boolean) 6 Ou_isSpared_cs := by
  refine ax_met (oc := 4) (ct := Ou_isSpared_ct) (calls := Ou_isSpared_cl) (bs := Ou_isSpared_bk) (cut := fun pc => Nat.beq pc 23) (f := 5) (I := Ou_isSpared_I) (by decide) rfl rfl Ou_isSpared_ck (List.forall_mem_cons.mpr ⟨ax_cwV St_copy_met (by decide) (by decide) rfl (by decide) rfl (ax_m4 85 (by decide +kernel) rfl) St_copy_w rfl St_copy_ds, List.forall_mem_cons.mpr ⟨ax_cwV St_change_met (by decide) (by decide) rfl (by decide) rfl (ax_m4 113 (by decide +kernel) rfl) St_change_w rfl St_change_ds, List.forall_mem_cons.mpr ⟨ax_cwV Fa_pass_met (by decide) (by decide) rfl (by decide) rfl (ax_m4 89 (by decide +kernel) rfl) Fa_pass_w rfl Fa_pass_ds, fun _ h => absurd h List.not_mem_nil⟩⟩⟩) ?_ ?_
  · intro as σ0 hp hH
    match as, hp with
    | [.inr (.inr (.inl (k, 0, 4))), .inr (.inr (.inl (q1, 0, 1))), .inr (.inr (.inl (q2, 0, 7))), .inl a3, .inl a4, .inl a5, .inl a6], hp => exact ⟨rfl, Ou_isSpared_p k q1 q2 a3 a4 a5 a6 σ0 hH hp⟩
  · intro as σ0 hp n pc st ls σ hH hI
    match as, hp, hI with
    | [.inr (.inr (.inl (k, 0, 4))), .inr (.inr (.inl (q1, 0, 1))), .inr (.inr (.inl (q2, 0, 7))), .inl a3, .inl a4, .inl a5, .inl a6], hp, hI =>
      rcases ax_bifE hI with ⟨hpc, hI⟩ | ⟨-, hI⟩
      · have := Nat.eq_of_beq_eq_true hpc
        subst this
        match st, ls, hI with
        | [], [.inr (.inr (.inl (k', 0, 4))), .inr (.inr (.inl (q1', 0, 1))), .inr (.inr (.inl (q2', 0, 7))), .inl a3', .inl a4', .inl a5', .inl a6', .inl v7], hI =>
          obtain ⟨rfl, rfl, rfl, rfl, rfl, rfl, rfl, hI⟩ := hI
          exact Ou_isSpared_p23 k q1 q2 a3 a4 a5 a6 σ0 hp n v7 σ hH hI
      exact False.elim hI
/-- the least of the first n that is so, or -1 -/
def Lst (P : Nat → Prop) (n : Nat) (r : Int) : Prop := (∃ i : Nat, i < n ∧ r = i ∧ P i ∧ ∀ j, j < i → ¬ P j) ∨ (r = -1 ∧ ∀ j, j < n → ¬ P j)
theorem Lst.uniq {P : Nat → Prop} {n : Nat} {r t : Int} (h : Lst P n r) (g : Lst P n t) : r = t := by
  rcases h with ⟨i, h1, rfl, h3, h4⟩ | ⟨rfl, h1⟩ <;> rcases g with ⟨j, g1, rfl, g3, g4⟩ | ⟨rfl, g1⟩
  · rcases Nat.lt_trichotomy i j with h | h | h
    · exact absurd h3 (g4 i h)
    · rw [h]
    · exact absurd g3 (h4 j h)
  · exact absurd h3 (g1 i (by assumption))
  · exact absurd g3 (h1 j (by assumption))
  · rfl
def Ou_findEasing_pre (k f q : Nat) (a : Int) (σ : Hp) : Prop := k = 3 ∧ q = 31 ∧ OW σ f ∧ 0 ≤ a ∧ a < 6
def Ou_findEasing_post (_k f _q : Nat) (a : Int) (σ : Hp) (r : Int) (σ' : Hp) : Prop := Fr (sg f 4) σ σ' ∧ Lst (fun l => Spd (famX σ f) (chg (stX σ 31) a.toNat (-(l : Int))) a 1) (((stX σ 31).1 a.toNat).toNat + 1) r
def Ou_findEasing_I3 (_k f _q : Nat) (a : Int) (σ0 : Hp) (n : Nat) (v4 : Int) (σ : Hp) : Prop := ∃ i : Nat, v4 = i ∧ (i : Int) ≤ (stX σ0 31).1 a.toNat + 1 ∧ n = 200 - i ∧ Fr (sg f 4) σ0 σ ∧ ∀ j, j < i → ¬ Spd (famX σ0 f) (chg (stX σ0 31) a.toNat (-(j : Int))) a 1
def Ou_findEasing_bk : List (Nat × List Item) := [(0, [(.iconst 0, 1, [], []), (.istore 4, 2, [], [])]),
  (3, [(.iload 4, 2, [], []), (.aload_n 2, 1, [], []), (.getfield 58, 3, [7, 0, 4, 1, 1, 6], []), (.iload_n 3, 1, [], []), (.iaload, 1, [], []), (.if_icmp .gt 27, 3, [38], []), (.aload_n 0, 1, [], []), (.aload_n 1, 1, [], []), (.aload_n 2, 1, [], []), (.iload_n 3, 1, [], []), (.iconst 1, 1, [], []), (.iload_n 3, 1, [], []), (.iload 4, 2, [], []), (.ineg, 1, [], []), (.invokevirtual 54, 3, [0], []), (.ifCond .eq 6, 3, [32], []), (.iload 4, 2, [], []), (.ireturn, 1, [], [])]),
  (32, [(.iinc 4 1, 3, [], []), (.goto (-32), 3, [3], [])]),
  (38, [(.iconst (-1), 1, [], []), (.ireturn, 1, [], [])])]
def Ou_findEasing_cl : List (Instr × Nat) := [(.invokevirtual 54, 0)]
set_option maxRecDepth 20000 in
theorem Ou_findEasing_ck : Ou_findEasing_bk.all (fun b => ax_chB 4 5 cX4_findEasing Ou_findEasing_cl b.1 b.2) = true := by decide +kernel
def Ou_findEasing_cs : Ct := (4, 5, 1, (0, 0), fun as σ => (match as with
    | [.inr (.inr (.inl (k, 0, 4))), .inr (.inr (.inl (q1, 0, 1))), .inr (.inr (.inl (q2, 0, 7))), .inl a3] => Ou_findEasing_pre k q1 q2 a3 σ
    | _ => False), fun as σ r σ' => (match as with
    | [.inr (.inr (.inl (k, 0, 4))), .inr (.inr (.inl (q1, 0, 1))), .inr (.inr (.inl (q2, 0, 7))), .inl a3] => Ou_findEasing_post k q1 q2 a3 σ r σ'
    | _ => False))
theorem Ou_findEasing_w : ∀ w ∈ ([.instanceMethod yX4_findEasing, .selects yX4_findEasing.cls yX4_findEasing yX4_findEasing, .initialized yX4_findEasing.cls, .code yX4_findEasing cX4_findEasing 5 (some .int)] : List Cond), w ∈ ax_tb := ax_w4 (ax_m4 119 (by decide +kernel) rfl) (ax_m4 120 (by decide +kernel) rfl) (ax_m1 3 (by decide +kernel) rfl) (ax_m4 121 (by decide +kernel) rfl)
theorem Ou_findEasing_ds : yX4_findEasing.cls ≠ "java/lang/invoke/MethodHandle" ∧ yX4_findEasing.cls ≠ "java/lang/invoke/VarHandle" ∧ (parseMethodDescriptor yX4_findEasing.desc).map (fun d => d.parameters.length) = some 3 := by decide +kernel
def Ou_findEasing_vc : Prop := ∀ (k : Nat) (q1 : Nat) (q2 : Nat) (a3 : Int) (σ : Hp), ax_H σ → Ou_findEasing_pre k q1 q2 a3 σ →
  ∃ n' : Nat, k = k ∧ q1 = q1 ∧ q2 = q2 ∧ a3 = a3 ∧ Ou_findEasing_I3 k q1 q2 a3 σ n' 0 σ
def Ou_findEasing_vc3 : Prop := ∀ (k : Nat) (q1 : Nat) (q2 : Nat) (a3 : Int) (σ0 : Hp), Ou_findEasing_pre k q1 q2 a3 σ0 → ∀ (n : Nat) (v4 : Int) (σ : Hp), ax_H σ → Ou_findEasing_I3 k q1 q2 a3 σ0 n v4 σ →
  (0 ≤ a3 ∧ a3 < 6) ∧
  (σ (q2 + 1) a3.toNat < v4 →
    Ou_findEasing_post k q1 q2 a3 σ0 (-1) σ) ∧
  (¬ (σ (q2 + 1) a3.toNat < v4) →
    Ou_isSpared_pre k q1 q2 a3 1 a3 (wr (-v4)) σ ∧
    ∀ (r2 : Int) (σ1 : Hp), Ou_isSpared_post k q1 q2 a3 1 a3 (wr (-v4)) σ r2 σ1 →
    (r2 = 0 →
      ∃ n' : Nat, n' < n ∧ k = k ∧ q1 = q1 ∧ q2 = q2 ∧ a3 = a3 ∧ Ou_findEasing_I3 k q1 q2 a3 σ0 n' (wr (v4 + 1)) σ1) ∧
    (¬ (r2 = 0) →
      Ou_findEasing_post k q1 q2 a3 σ0 v4 σ1))
theorem Ou_findEasing_p : Ou_findEasing_vc := by
  intro k f q a σ hH hp
  obtain ⟨rfl, rfl, hW, a0, a6⟩ := hp
  have := hW.2.2.1.1 a.toNat
  exact ⟨200, rfl, rfl, rfl, rfl, 0, rfl, by omega, rfl, Fr.rf, fun j hj => absurd hj (Nat.not_lt_zero j)⟩
theorem Ou_findEasing_p3 : Ou_findEasing_vc3 := by
  intro k f q a σ0 hp n v4 σ hH hI
  obtain ⟨rfl, rfl, hW, a0, a6⟩ := hp
  obtain ⟨i, rfl, hi, rfl, hf, hno⟩ := hI
  obtain ⟨hW1, hfam, hnow⟩ := hW.keep hf (fun c hc => Or.inl hc)
  have hcR := hW.2.2.1.1 a.toNat
  have e1 : σ (31 + 1) a.toNat = (stX σ0 31).1 a.toNat := by rw [hnow 1 (by omega)]; exact (tr_in (by omega)).symm
  have hst : stX σ 31 = stX σ0 31 := stX_eq hnow
  rw [e1]
  refine ⟨⟨a0, a6⟩, fun h => ⟨hf, Or.inr ⟨rfl, fun j hj => hno j (by omega)⟩⟩, fun h => ?_⟩
  have en : wr (-(i : Int)) = -(i : Int) := wr_id (by omega) (by omega)
  rw [en]
  refine ⟨⟨rfl, rfl, hW1, by decide, by decide, a0, a6, by omega, by omega⟩, ?_⟩
  rintro r σ1 ⟨hf1, hr⟩
  rw [hfam, hst] at hr
  rw [wr1 (by omega) (by omega)]
  refine ⟨fun h3 => ?_, fun h3 => ?_⟩
  · rcases hr with ⟨z, -⟩ | ⟨-, hr⟩
    · omega
    · refine ⟨200 - (i + 1), by omega, rfl, rfl, rfl, rfl, i + 1, by simp, by omega, rfl, hf.tr hf1, ?_⟩
      intro j hj
      by_cases hji : j = i
      · subst hji; exact hr
      · exact hno j (by omega)
  · rcases hr with ⟨-, hr⟩ | ⟨z, -⟩
    · exact ⟨hf.tr hf1, Or.inl ⟨i, by omega, rfl, hr, hno⟩⟩
    · exact absurd z h3
def Ou_findEasing_I : List AV → Hp → Nat → Nat → List AV → List AV → Hp → Prop := fun as σ0 pc n st ls σ => (match as with
    | [.inr (.inr (.inl (k, 0, 4))), .inr (.inr (.inl (q1, 0, 1))), .inr (.inr (.inl (q2, 0, 7))), .inl a3] => (bif Nat.beq pc 3 then (match st, ls with
      | [], [.inr (.inr (.inl (k', 0, 4))), .inr (.inr (.inl (q1', 0, 1))), .inr (.inr (.inl (q2', 0, 7))), .inl a3', .inl v4] => k = k' ∧ q1 = q1' ∧ q2 = q2' ∧ a3 = a3' ∧ Ou_findEasing_I3 k q1 q2 a3 σ0 n v4 σ
      | _, _ => False) else False)
    | _ => False)
def Ou_findEasing_ct : Nat → Ct := fun n => match n with
  | 0 => Ou_isSpared_cs
  | _ => Ou_findEasing_cs
set_option maxRecDepth 20000 in
set_option maxHeartbeats 4000000 in
theorem Ou_findEasing_met {l : Launch} {D : va_G} {ad : Nat → Nat} {ca : Nat → ClassId} {L : Nat} {fx : Nat → Int} : ax_MC l D ad ca L fx yX4_findEasing cX4_findEasing 5 (some .int) 7 Ou_findEasing_cs := by
  refine ax_met (oc := 4) (ct := Ou_findEasing_ct) (calls := Ou_findEasing_cl) (bs := Ou_findEasing_bk) (cut := fun pc => Nat.beq pc 3) (f := 5) (I := Ou_findEasing_I) (by decide) rfl rfl Ou_findEasing_ck (List.forall_mem_cons.mpr ⟨ax_cwV Ou_isSpared_met (by decide) (by decide) rfl (by decide) rfl (ax_m4 109 (by decide +kernel) rfl) Ou_isSpared_w rfl Ou_isSpared_ds, fun _ h => absurd h List.not_mem_nil⟩) ?_ ?_
  · intro as σ0 hp hH
    match as, hp with
    | [.inr (.inr (.inl (k, 0, 4))), .inr (.inr (.inl (q1, 0, 1))), .inr (.inr (.inl (q2, 0, 7))), .inl a3], hp => exact ⟨rfl, Ou_findEasing_p k q1 q2 a3 σ0 hH hp⟩
  · intro as σ0 hp n pc st ls σ hH hI
    match as, hp, hI with
    | [.inr (.inr (.inl (k, 0, 4))), .inr (.inr (.inl (q1, 0, 1))), .inr (.inr (.inl (q2, 0, 7))), .inl a3], hp, hI =>
      rcases ax_bifE hI with ⟨hpc, hI⟩ | ⟨-, hI⟩
      · have := Nat.eq_of_beq_eq_true hpc
        subst this
        match st, ls, hI with
        | [], [.inr (.inr (.inl (k', 0, 4))), .inr (.inr (.inl (q1', 0, 1))), .inr (.inr (.inl (q2', 0, 7))), .inl a3', .inl v4], hI =>
          obtain ⟨rfl, rfl, rfl, rfl, hI⟩ := hI
          exact Ou_findEasing_p3 k q1 q2 a3 σ0 hp n v4 σ hH hI
      exact False.elim hI
