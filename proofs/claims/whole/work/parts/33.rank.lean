-- THE OUTLOOK: rank
/-- q stands ahead of p -/
def bfr (F : Fam) (s : Sta) (q p : Nat) : Prop := wry F s p < wry F s q ∨ (wry F s q = wry F s p ∧ q < p)
def Rnk (F : Fam) (s : Sta) (n : Nat) (w : Nat → Int) : Prop := (∀ i, i < n → 0 ≤ w i ∧ w i < (n : Int)) ∧ (∀ i j, i < j → j < n → bfr F s (w i).toNat (w j).toNat) ∧ ∀ p, p < n → ∃ i, i < n ∧ w i = (p : Int)
theorem bfr_irr {F : Fam} {s : Sta} {p q : Nat} (h : bfr F s p q) (g : bfr F s q p) : False := by unfold bfr at *; omega
theorem Rnk.uniq {F : Fam} {s : Sta} {n : Nat} {w u : Nat → Int} (h : Rnk F s n w) (g : Rnk F s n u) : ∀ i, i < n → w i = u i := by
  intro i
  induction i using Nat.strongRecOn with
  | ind i ih =>
    intro hi
    have key : ∀ {w u : Nat → Int}, Rnk F s n w → Rnk F s n u → (∀ m, m < i → w m = u m) → ∃ j, i ≤ j ∧ j < n ∧ w i = u j := by
      intro w u h g e
      obtain ⟨h1, h2, h3⟩ := h
      obtain ⟨j, hj, hj2⟩ := g.2.2 (w i).toNat (by have := h1 i hi; omega)
      have e1 : w i = u j := by rw [hj2]; have := h1 i hi; omega
      by_cases hij : i ≤ j
      · exact ⟨j, hij, hj, e1⟩
      · have hb := h2 j i (by omega) hi
        rw [e1, e j (by omega)] at hb
        exact absurd hb (fun z => bfr_irr z z)
    obtain ⟨j, hj1, hj2, hj3⟩ := key h g (fun m hm => ih m hm (by omega))
    obtain ⟨l, hl1, hl2, hl3⟩ := key g h (fun m hm => (ih m hm (by omega)).symm)
    by_cases hij : j = i
    · rw [hj3, hij]
    · by_cases hil : l = i
      · rw [hl3, hil]
      · have a := g.2.1 i j (by omega) hj2
        have b := h.2.1 i l (by omega) hl2
        rw [← hj3, hl3] at a
        exact (bfr_irr a b).elim
theorem Rnk.ins {F : Fam} {s : Sta} {i a : Nat} {w u : Nat → Int} (h : Rnk F s i w) (ha : a ≤ i) (hu1 : ∀ j, j < a → u j = w j) (hu2 : u a = (i : Int)) (hu3 : ∀ j, a < j → j ≤ i → u j = w (j - 1) ∧ wry F s (w (j - 1)).toNat < wry F s i) (hge : a = 0 ∨ wry F s i ≤ wry F s (w (a - 1)).toNat) : Rnk F s (i + 1) u := by
  obtain ⟨h1, h2, h3⟩ := h
  refine ⟨fun j hj => ?_, fun j l hjl hl => ?_, fun p hp => ?_⟩
  · rcases Nat.lt_trichotomy j a with z | z | z
    · have := h1 j (by omega); rw [hu1 j z]; omega
    · subst z; rw [hu2]; omega
    · have := h1 (j - 1) (by omega); rw [(hu3 j z (by omega)).1]; omega
  · rcases Nat.lt_trichotomy l a with z | z | z
    · rw [hu1 l z, hu1 j (by omega)]; exact h2 j l hjl (by omega)
    · subst z
      rw [hu2, hu1 j hjl, Int.toNat_natCast]
      have hj := h1 j (by omega)
      have hw : wry F s (w (l - 1)).toNat ≤ wry F s (w j).toNat := by
        by_cases e : j = l - 1
        · rw [e]; exact Int.le_refl _
        · have := h2 j (l - 1) (by omega) (by omega)
          unfold bfr at this; omega
      unfold bfr
      rcases hge with hge | hge
      · omega
      · omega
    · obtain ⟨e1, e2⟩ := hu3 l z (by omega)
      rcases Nat.lt_trichotomy j a with y | y | y
      · rw [e1, hu1 j y]; exact h2 j (l - 1) (by omega) (by omega)
      · subst y; rw [e1, hu2, Int.toNat_natCast]; exact Or.inl e2
      · rw [e1, (hu3 j y (by omega)).1]; exact h2 (j - 1) (l - 1) (by omega) (by omega)
  · by_cases hpi : p = i
    · exact ⟨a, by omega, by rw [hu2, hpi]⟩
    · obtain ⟨j, hj, hj2⟩ := h3 p (by omega)
      by_cases hja : j < a
      · exact ⟨j, by omega, by rw [hu1 j hja, hj2]⟩
      · exact ⟨j + 1, by omega, by rw [(hu3 (j + 1) (by omega) (by omega)).1]; simpa using hj2⟩
def Ou_putInOrder_pre (k f q w n : Nat) (σ : Hp) : Prop := k = 3 ∧ q = 31 ∧ OW σ f ∧ w = 34 ∧ n = 6
def Ou_putInOrder_post (_k f _q _w _n : Nat) (σ σ' : Hp) : Prop := Fr (34 :: sg f 4) σ σ' ∧ Rnk (famX σ f) (stX σ 31) (fN (famX σ f)) (σ' 34)
def Ou_putInOrder_I3 (_k f _q _w _n : Nat) (σ0 : Hp) (m : Nat) (v4 : Int) (σ : Hp) : Prop := ∃ i : Nat, v4 = i ∧ i ≤ fN (famX σ0 f) ∧ m = 20 * (6 - i) + 10 ∧ Fr (34 :: sg f 4) σ0 σ ∧ Rnk (famX σ0 f) (stX σ0 31) i (σ 34)
def Ou_putInOrder_I32 (_k f _q _w _n : Nat) (σ0 : Hp) (m : Nat) (v4 v5 v6 : Int) (σ : Hp) : Prop := ∃ i a : Nat, v4 = i ∧ v6 = a ∧ a ≤ i ∧ i < fN (famX σ0 f) ∧ m = 20 * (6 - i) + a ∧ Fr (34 :: sg f 4) σ0 σ ∧ v5 = wry (famX σ0 f) (stX σ0 31) i ∧ ∃ w : Nat → Int, Rnk (famX σ0 f) (stX σ0 31) i w ∧ (∀ j, j < a → σ 34 j = w j) ∧ ∀ j, a < j → j ≤ i → σ 34 j = w (j - 1) ∧ wry (famX σ0 f) (stX σ0 31) (w (j - 1)).toNat < wry (famX σ0 f) (stX σ0 31) i
def Ou_putInOrder_bk : List (Nat × List Item) := [(0, [(.iconst 0, 1, [], []), (.istore 4, 2, [], [])]),
  (3, [(.iload 4, 2, [], []), (.aload_n 1, 1, [], []), (.getfield 50, 3, [1, 9, 0, 0, 0, 0], []), (.if_icmp .ge 72, 3, [81], []), (.iload 4, 2, [], []), (.aload_n 3, 1, [], []), (.arraylength, 1, [], []), (.if_icmp .ge 65, 3, [81], []), (.aload_n 1, 1, [], []), (.aload_n 2, 1, [], []), (.iload 4, 2, [], []), (.invokevirtual 107, 3, [0], []), (.istore 5, 2, [], []), (.iload 4, 2, [], []), (.istore 6, 2, [], [])]),
  (32, [(.iload 6, 2, [], []), (.ifCond .le 35, 3, [69], []), (.aload_n 1, 1, [], []), (.aload_n 2, 1, [], []), (.aload_n 3, 1, [], []), (.iload 6, 2, [], []), (.iconst 1, 1, [], []), (.isub, 1, [], []), (.iaload, 1, [], []), (.invokevirtual 107, 3, [0], []), (.iload 5, 2, [], []), (.if_icmp .ge 19, 3, [69], []), (.aload_n 3, 1, [], []), (.iload 6, 2, [], []), (.aload_n 3, 1, [], []), (.iload 6, 2, [], []), (.iconst 1, 1, [], []), (.isub, 1, [], []), (.iaload, 1, [], []), (.iastore, 1, [], []), (.iinc 6 (-1), 3, [], []), (.goto (-34), 3, [32], [])]),
  (69, [(.aload_n 3, 1, [], []), (.iload 6, 2, [], []), (.iload 4, 2, [], []), (.iastore, 1, [], []), (.iinc 4 1, 3, [], []), (.goto (-75), 3, [3], [])]),
  (81, [(.return_, 1, [], [])])]
def Ou_putInOrder_cl : List (Instr × Nat) := [(.invokevirtual 107, 0)]
set_option maxRecDepth 20000 in
theorem Ou_putInOrder_ck : Ou_putInOrder_bk.all (fun b => ax_chB 4 7 cX4_putInOrder Ou_putInOrder_cl b.1 b.2) = true := by decide +kernel
def Ou_putInOrder_cs : Ct := (4, 5, 0, (0, 0), fun as σ => (match as with
    | [.inr (.inr (.inl (k, 0, 4))), .inr (.inr (.inl (q1, 0, 1))), .inr (.inr (.inl (q2, 0, 7))), .inr (.inr (.inl (q3, 1, n3)))] => Ou_putInOrder_pre k q1 q2 q3 n3 σ
    | _ => False), fun as σ r σ' => (match as with
    | [.inr (.inr (.inl (k, 0, 4))), .inr (.inr (.inl (q1, 0, 1))), .inr (.inr (.inl (q2, 0, 7))), .inr (.inr (.inl (q3, 1, n3)))] => Ou_putInOrder_post k q1 q2 q3 n3 σ σ'
    | _ => False))
theorem Ou_putInOrder_w : ∀ w ∈ ([.instanceMethod yX4_putInOrder, .selects yX4_putInOrder.cls yX4_putInOrder yX4_putInOrder, .initialized yX4_putInOrder.cls, .code yX4_putInOrder cX4_putInOrder 7 none] : List Cond), w ∈ ax_tb := ax_w4 (ax_m4 199 (by decide +kernel) rfl) (ax_m4 200 (by decide +kernel) rfl) (ax_m1 3 (by decide +kernel) rfl) (ax_m4 201 (by decide +kernel) rfl)
theorem Ou_putInOrder_ds : yX4_putInOrder.cls ≠ "java/lang/invoke/MethodHandle" ∧ yX4_putInOrder.cls ≠ "java/lang/invoke/VarHandle" ∧ (parseMethodDescriptor yX4_putInOrder.desc).map (fun d => d.parameters.length) = some 3 := by decide +kernel
def Ou_putInOrder_vc : Prop := ∀ (k : Nat) (q1 : Nat) (q2 : Nat) (q3 : Nat) (n3 : Nat) (σ : Hp), ax_H σ → Ou_putInOrder_pre k q1 q2 q3 n3 σ →
  ∃ n' : Nat, k = k ∧ q1 = q1 ∧ q2 = q2 ∧ n3 = n3 ∧ q3 = q3 ∧ Ou_putInOrder_I3 k q1 q2 q3 n3 σ n' 0 σ
def Ou_putInOrder_vc3 : Prop := ∀ (k : Nat) (q1 : Nat) (q2 : Nat) (q3 : Nat) (n3 : Nat) (σ0 : Hp), Ou_putInOrder_pre k q1 q2 q3 n3 σ0 → ∀ (n : Nat) (v4 : Int) (σ : Hp), ax_H σ → Ou_putInOrder_I3 k q1 q2 q3 n3 σ0 n v4 σ →
  (σ q1 9 ≤ v4 →
    Ou_putInOrder_post k q1 q2 q3 n3 σ0 σ) ∧
  (¬ (σ q1 9 ≤ v4) →
    ((n3 : Int) ≤ v4 →
      Ou_putInOrder_post k q1 q2 q3 n3 σ0 σ) ∧
    (¬ ((n3 : Int) ≤ v4) →
      Fa_worryOf_pre q1 q2 v4 σ ∧
      ∀ (r2 : Int) (σ1 : Hp), Fa_worryOf_post q1 q2 v4 σ r2 σ1 →
      ∃ n' : Nat, n' < n ∧ k = k ∧ q1 = q1 ∧ q2 = q2 ∧ n3 = n3 ∧ q3 = q3 ∧ Ou_putInOrder_I32 k q1 q2 q3 n3 σ0 n' v4 r2 v4 σ1))
def Ou_putInOrder_vc32 : Prop := ∀ (k : Nat) (q1 : Nat) (q2 : Nat) (q3 : Nat) (n3 : Nat) (σ0 : Hp), Ou_putInOrder_pre k q1 q2 q3 n3 σ0 → ∀ (n : Nat) (v4 : Int) (v5 : Int) (v6 : Int) (σ : Hp), ax_H σ → Ou_putInOrder_I32 k q1 q2 q3 n3 σ0 n v4 v5 v6 σ →
  (v6 ≤ 0 →
    (0 ≤ v6 ∧ v6 < (n3 : Int)) ∧
    ∀ σ1 : Hp, σ1 = hp σ q3 v6.toNat v4 →
    ∃ n' : Nat, n' < n ∧ k = k ∧ q1 = q1 ∧ q2 = q2 ∧ n3 = n3 ∧ q3 = q3 ∧ Ou_putInOrder_I3 k q1 q2 q3 n3 σ0 n' (wr (v4 + 1)) σ1) ∧
  (¬ (v6 ≤ 0) →
    (0 ≤ wr (v6 - 1) ∧ wr (v6 - 1) < (n3 : Int)) ∧
    Fa_worryOf_pre q1 q2 (σ q3 (wr (v6 - 1)).toNat) σ ∧
    ∀ (r3 : Int) (σ2 : Hp), Fa_worryOf_post q1 q2 (σ q3 (wr (v6 - 1)).toNat) σ r3 σ2 →
    (v5 ≤ r3 →
      (0 ≤ v6 ∧ v6 < (n3 : Int)) ∧
      ∀ σ4 : Hp, σ4 = hp σ2 q3 v6.toNat v4 →
      ∃ n' : Nat, n' < n ∧ k = k ∧ q1 = q1 ∧ q2 = q2 ∧ n3 = n3 ∧ q3 = q3 ∧ Ou_putInOrder_I3 k q1 q2 q3 n3 σ0 n' (wr (v4 + 1)) σ4) ∧
    (¬ (v5 ≤ r3) →
      (0 ≤ wr (v6 - 1) ∧ wr (v6 - 1) < (n3 : Int)) ∧
      (0 ≤ v6 ∧ v6 < (n3 : Int)) ∧
      ∀ σ5 : Hp, σ5 = hp σ2 q3 v6.toNat (σ2 q3 (wr (v6 - 1)).toNat) →
      ∃ n' : Nat, n' < n ∧ k = k ∧ q1 = q1 ∧ q2 = q2 ∧ n3 = n3 ∧ q3 = q3 ∧ Ou_putInOrder_I32 k q1 q2 q3 n3 σ0 n' v4 v5 (wr (v6 + (-1))) σ5))
theorem c34 {f : Nat} : ∀ c ∈ 34 :: sg f 4, c ∈ sg f 4 ∨ c = 3 ∨ (7 ≤ c ∧ c ≤ 13) ∨ c = 34 := by
  intro c hc
  rcases List.mem_cons.mp hc with rfl | hc
  · exact Or.inr (Or.inr (Or.inr rfl))
  · exact Or.inl hc
theorem OW.wor {σ0 σ : Hp} {f : Nat} {cs : List Nat} (h : OW σ0 f) (hf : Fr cs σ0 σ) (hc : ∀ c ∈ cs, c ∈ sg f 4 ∨ c = 3 ∨ (7 ≤ c ∧ c ≤ 13) ∨ c = 34) {a : Int} (a0 : 0 ≤ a) (a6 : a < 6) :
    Fa_worryOf_pre f 31 a σ ∧ ∀ (r : Int) (σ1 : Hp), Fa_worryOf_post f 31 a σ r σ1 → Fr (sg f 4) σ σ1 ∧ r = wry (famX σ0 f) (stX σ0 31) a.toNat ∧ σ1 34 = σ 34 ∧ Fr (sc f) σ σ1 := by
  obtain ⟨⟨h1, h2, h3⟩, hfam, hnow⟩ := h.keep hf hc
  refine ⟨⟨h1, Or.inr (Or.inr rfl), a0, a6, h2, h3.1.ss.ws (by omega)⟩, ?_⟩
  rintro r σ1 ⟨g1, rfl⟩
  have g2 : Fr (sg f 4) σ σ1 := g1.mono (by intro c hc; simp only [sc, sg, List.mem_cons, List.not_mem_nil, or_false] at *; omega)
  exact ⟨g2, by rw [hfam, stX_eq hnow], g2 34 (fo34 h1), g1⟩
theorem Ou_putInOrder_p : Ou_putInOrder_vc := by
  intro k f q w n σ hH hp
  exact ⟨130, rfl, rfl, rfl, rfl, rfl, 0, rfl, Nat.zero_le _, rfl, Fr.rf, ⟨fun i hi => absurd hi (Nat.not_lt_zero i), fun i j _ hj => absurd hj (Nat.not_lt_zero j), fun p hp => absurd hp (Nat.not_lt_zero p)⟩⟩
theorem Ou_putInOrder_p3 : Ou_putInOrder_vc3 := by
  intro k f q w n σ0 hp m v4 σ hH hI
  obtain ⟨rfl, rfl, hW, rfl, rfl⟩ := hp
  obtain ⟨i, rfl, hi, rfl, hf, hR⟩ := hI
  have hn6 := hW.2.1.n6
  obtain ⟨hW1, hfam, hnow⟩ := hW.keep hf c34
  rw [hW1.2.1.e9, hfam]
  refine ⟨fun h => ⟨hf, by rw [show fN (famX σ0 f) = i by omega]; exact hR⟩, fun h => ⟨fun h2 => absurd h2 (by omega), fun h2 => ?_⟩⟩
  obtain ⟨p1, p2⟩ := hW.wor hf c34 (a := (i : Int)) (by omega) (by omega)
  refine ⟨p1, fun r σ1 h1 => ?_⟩
  obtain ⟨g1, rfl, g3, -⟩ := p2 r σ1 h1
  rw [Int.toNat_natCast]
  exact ⟨20 * (6 - i) + i, by omega, rfl, rfl, rfl, rfl, rfl, i, i, rfl, rfl, Nat.le_refl i, by omega, rfl, hf.tr (g1.mono (fun c hc => List.mem_cons_of_mem _ hc)), rfl, σ 34, hR, fun j hj => by rw [g3], fun j h1 h2 => by omega⟩
theorem Ou_putInOrder_p32 : Ou_putInOrder_vc32 := by
  intro k f q w n σ0 hp m v4 v5 v6 σ hH hI
  obtain ⟨rfl, rfl, hW, rfl, rfl⟩ := hp
  obtain ⟨i, a, rfl, rfl, ha, hi, rfl, hf, rfl, w, hR, hw1, hw2⟩ := hI
  have hn6 := hW.2.1.n6
  have go : ∀ σ1 : Hp, Fr (sg f 4) σ σ1 → σ1 34 = σ 34 → (a = 0 ∨ wry (famX σ0 f) (stX σ0 31) i ≤ wry (famX σ0 f) (stX σ0 31) (w (a - 1)).toNat) →
      ∃ n' : Nat, n' < 20 * (6 - i) + a ∧ (3 : Nat) = 3 ∧ f = f ∧ (31 : Nat) = 31 ∧ (6 : Nat) = 6 ∧ (34 : Nat) = 34 ∧ Ou_putInOrder_I3 3 f 31 34 6 σ0 n' (wr ((i : Int) + 1)) (hp σ1 34 a (i : Int)) := by
    intro σ1 g1 g3 hge
    refine ⟨20 * (6 - (i + 1)) + 10, by omega, rfl, rfl, rfl, rfl, rfl, i + 1, by rw [wr1 (by omega) (by omega)]; simp, by omega, rfl, Fr.hp (hf.tr (g1.mono (fun c hc => List.mem_cons_of_mem _ hc))) (by simp), ?_⟩
    refine hR.ins ha (fun j hj => ?_) hp_r1 (fun j h1 h2 => ?_) hge
    · rw [hp_r2 (by omega), g3]; exact hw1 j hj
    · rw [hp_r2 (by omega), g3]; exact hw2 j h1 h2
  refine ⟨fun h => ⟨⟨by omega, by omega⟩, ?_⟩, fun h => ?_⟩
  · rintro σ1 rfl
    rw [Int.toNat_natCast]
    exact go σ Fr.rf rfl (Or.inl (by omega))
  · have e1 : wr ((a : Int) - 1) = ((a - 1 : Nat) : Int) := by rw [wr_id (by omega) (by omega)]; omega
    rw [e1, Int.toNat_natCast, hw1 (a - 1) (by omega)]
    have hwR := hR.1 (a - 1) (by omega)
    obtain ⟨p1, p2⟩ := hW.wor hf c34 (a := w (a - 1)) (by omega) (by omega)
    refine ⟨⟨by omega, by omega⟩, p1, fun r σ2 h1 => ?_⟩
    obtain ⟨g1, rfl, g3, -⟩ := p2 r σ2 h1
    refine ⟨fun h2 => ⟨⟨by omega, by omega⟩, ?_⟩, fun h2 => ⟨⟨by omega, by omega⟩, ⟨by omega, by omega⟩, ?_⟩⟩
    · rintro σ4 rfl
      rw [Int.toNat_natCast]
      exact go σ2 g1 g3 (Or.inr h2)
    · rintro σ5 rfl
      rw [Int.toNat_natCast, show wr ((a : Int) + (-1)) = ((a - 1 : Nat) : Int) by rw [wr_id (by omega) (by omega)]; omega]
      refine ⟨20 * (6 - i) + (a - 1), by omega, rfl, rfl, rfl, rfl, rfl, i, a - 1, rfl, rfl, by omega, hi, rfl, Fr.hp (hf.tr (g1.mono (fun c hc => List.mem_cons_of_mem _ hc))) (by simp), rfl, w, hR, fun j hj => ?_, fun j h1 h3 => ?_⟩
      · rw [hp_r2 (by omega), g3]; exact hw1 j (by omega)
      · by_cases hja : j = a
        · subst hja
          rw [hp_r1, g3, hw1 (j - 1) (by omega)]
          exact ⟨rfl, by omega⟩
        · rw [hp_r2 (by omega), g3]; exact hw2 j (by omega) h3
def Ou_putInOrder_I : List AV → Hp → Nat → Nat → List AV → List AV → Hp → Prop := fun as σ0 pc n st ls σ => (match as with
    | [.inr (.inr (.inl (k, 0, 4))), .inr (.inr (.inl (q1, 0, 1))), .inr (.inr (.inl (q2, 0, 7))), .inr (.inr (.inl (q3, 1, n3)))] => (bif Nat.beq pc 3 then (match st, ls with
      | [], [.inr (.inr (.inl (k', 0, 4))), .inr (.inr (.inl (q1', 0, 1))), .inr (.inr (.inl (q2', 0, 7))), .inr (.inr (.inl (q3', 1, n3'))), .inl v4, _, _] => k = k' ∧ q1 = q1' ∧ q2 = q2' ∧ n3 = n3' ∧ q3 = q3' ∧ Ou_putInOrder_I3 k q1 q2 q3 n3 σ0 n v4 σ
      | _, _ => False) else (bif Nat.beq pc 32 then (match st, ls with
      | [], [.inr (.inr (.inl (k', 0, 4))), .inr (.inr (.inl (q1', 0, 1))), .inr (.inr (.inl (q2', 0, 7))), .inr (.inr (.inl (q3', 1, n3'))), .inl v4, .inl v5, .inl v6] => k = k' ∧ q1 = q1' ∧ q2 = q2' ∧ n3 = n3' ∧ q3 = q3' ∧ Ou_putInOrder_I32 k q1 q2 q3 n3 σ0 n v4 v5 v6 σ
      | _, _ => False) else False))
    | _ => False)
def Ou_putInOrder_ct : Nat → Ct := fun n => match n with
  | 0 => Fa_worryOf_cs
  | _ => Ou_putInOrder_cs
set_option maxRecDepth 20000 in
set_option maxHeartbeats 4000000 in
theorem Ou_putInOrder_met {l : Launch} {D : va_G} {ad : Nat → Nat} {ca : Nat → ClassId} {L : Nat} {fx : Nat → Int} : ax_MC l D ad ca L fx yX4_putInOrder cX4_putInOrder 7 none 4 Ou_putInOrder_cs := by
  refine ax_met (oc := 4) (ct := Ou_putInOrder_ct) (calls := Ou_putInOrder_cl) (bs := Ou_putInOrder_bk) (cut := fun pc => Nat.beq pc 3 || Nat.beq pc 32) (f := 6) (I := Ou_putInOrder_I) (by decide) rfl rfl Ou_putInOrder_ck (List.forall_mem_cons.mpr ⟨ax_cwV Fa_worryOf_met (by decide) (by decide) rfl (by decide) rfl (ax_m4 145 (by decide +kernel) rfl) Fa_worryOf_w rfl Fa_worryOf_ds, fun _ h => absurd h List.not_mem_nil⟩) ?_ ?_
  · intro as σ0 hp hH
    match as, hp with
    | [.inr (.inr (.inl (k, 0, 4))), .inr (.inr (.inl (q1, 0, 1))), .inr (.inr (.inl (q2, 0, 7))), .inr (.inr (.inl (q3, 1, n3)))], hp => exact ⟨rfl, Ou_putInOrder_p k q1 q2 q3 n3 σ0 hH hp⟩
  · intro as σ0 hp n pc st ls σ hH hI
    match as, hp, hI with
    | [.inr (.inr (.inl (k, 0, 4))), .inr (.inr (.inl (q1, 0, 1))), .inr (.inr (.inl (q2, 0, 7))), .inr (.inr (.inl (q3, 1, n3)))], hp, hI =>
      rcases ax_bifE hI with ⟨hpc, hI⟩ | ⟨-, hI⟩
      · have := Nat.eq_of_beq_eq_true hpc
        subst this
        match st, ls, hI with
        | [], [.inr (.inr (.inl (k', 0, 4))), .inr (.inr (.inl (q1', 0, 1))), .inr (.inr (.inl (q2', 0, 7))), .inr (.inr (.inl (q3', 1, n3'))), .inl v4, _, _], hI =>
          obtain ⟨rfl, rfl, rfl, rfl, rfl, hI⟩ := hI
          exact Ou_putInOrder_p3 k q1 q2 q3 n3 σ0 hp n v4 σ hH hI
      rcases ax_bifE hI with ⟨hpc, hI⟩ | ⟨-, hI⟩
      · have := Nat.eq_of_beq_eq_true hpc
        subst this
        match st, ls, hI with
        | [], [.inr (.inr (.inl (k', 0, 4))), .inr (.inr (.inl (q1', 0, 1))), .inr (.inr (.inl (q2', 0, 7))), .inr (.inr (.inl (q3', 1, n3'))), .inl v4, .inl v5, .inl v6], hI =>
          obtain ⟨rfl, rfl, rfl, rfl, rfl, hI⟩ := hI
          exact Ou_putInOrder_p32 k q1 q2 q3 n3 σ0 hp n v4 v5 v6 σ hH hI
      exact False.elim hI
