-- THE FAMILY: how much one worries, how cares grow, a day
abbrev Frm : Type := Int × Nat × (Nat → Int)
/-- persons, houses, cares, knows, news in 100, of how much, ease, draw, units, worry, grows -/
abbrev Fam : Type := Nat × (Nat → Int) × (Nat → Int) × (Nat → Int) × (Nat → Int) × (Nat → Int) × Int × Int × Int × Frm × Frm
abbrev fN (F : Fam) : Nat := F.1
abbrev fHou (F : Fam) : Nat → Int := F.2.1
abbrev fCar (F : Fam) : Nat → Int := F.2.2.1
abbrev fKno (F : Fam) : Nat → Int := F.2.2.2.1
abbrev fOdd (F : Fam) : Nat → Int := F.2.2.2.2.1
abbrev fAmt (F : Fam) : Nat → Int := F.2.2.2.2.2.1
abbrev fEas (F : Fam) : Int := F.2.2.2.2.2.2.1
abbrev fDra (F : Fam) : Int := F.2.2.2.2.2.2.2.1
abbrev fUni (F : Fam) : Int := F.2.2.2.2.2.2.2.2.1
abbrev fWor (F : Fam) : Frm := F.2.2.2.2.2.2.2.2.2.1
abbrev fGro (F : Fam) : Frm := F.2.2.2.2.2.2.2.2.2.2
def frX (σ : Hp) (f : Nat) : Frm := (σ f 5, (σ f 3).toNat, tr (σ f 3).toNat (σ (f + 1)))
def famX (σ : Hp) (k : Nat) : Fam := ((σ k 9).toNat, tr 6 (σ (k + 2)), tr 6 (σ (k + 3)), tr 6 (σ (k + 4)), tr 6 (σ (k + 5)), tr 6 (σ (k + 6)), σ k 12, σ k 13, σ k 14, frX σ (k + 8), frX σ (k + 12))
def fval (q : Frm) (e : Nat → Int) : Int := ev q.2.2 e q.2.1 0
def knw (s : Sta) (p : Nat) : Int := sm s.1 (s.2.1 p) 6
def wry (F : Fam) (s : Sta) (p : Nat) : Int :=
  wth (if ¬ (fWor F).1 = 0 then fval (fWor F) (env5 (s.1 p) (knw s p) (if s.2.2.1 = (p : Int) then 1 else 0) (fHou F p) s.2.2.2.1) else s.1 p + knw s p / 2) 999
/-- whom the hair goes to among the first i, and how much he worries; one is left out -/
def mwr (F : Fam) (s : Sta) (out : Int) : Nat → Int × Int
  | 0 => (-1, fEas F - 1)
  | i + 1 => if (i : Int) = out then mwr F s out i else if (mwr F s out i).2 < wry F s i then ((i : Int), wry F s i) else mwr F s out i
def goes (F : Fam) (s : Sta) (out : Int) : Int := (mwr F s out (fN F)).1
def grc (F : Fam) (s : Sta) (p : Nat) (set : Int) : Int :=
  if ¬ (fGro F).1 = 0 then wth (wr (s.1 p + fval (fGro F) (env5 (s.1 p) (sm s.1 set 6) (if s.2.2.1 = (p : Int) then 1 else 0) (fHou F p) s.2.2.2.1))) 99 else s.1 p
def grA (F : Fam) (s : Sta) : Nat → Int := fun j => if j < fN F then grc F s j (s.2.1 j) else s.1 j
/-- the news drawn among the first i: to whom they come, the seed -/
def dn (F : Fam) (seed : Int) : Nat → Nat × Int
  | 0 => (0, seed)
  | i + 1 => if fAmt F i ≤ 0 then dn F seed i else
    ((if ((dn F seed i).2 * 137 + 71) % 1000 % 100 < fOdd F i then (dn F seed i).1 ||| 2 ^ i else (dn F seed i).1), ((dn F seed i).2 * 137 + 71) % 1000)
def pssC (F : Fam) (s : Sta) (set : Int) : Nat → Int := fun j => if j < fN F ∧ bt set j = true then wth (grA F s j + fAmt F j) 99 else grA F s j
/-- a day; news come to a set -/
def pss (F : Fam) (s : Sta) (set seed : Int) : Sta :=
  (pssC F s set, s.2.1, if ¬ s.2.2.2.2.2 = 0 ∧ ¬ s.2.2.1 = -1 then s.2.2.1 else goes F (pssC F s set, s.2.1, s.2.2.1, s.2.2.2.1 + 1, seed, s.2.2.2.2.2) (-1), s.2.2.2.1 + 1, seed, 0)
def day0 (F : Fam) (s : Sta) : Sta := pss F s 0 s.2.2.2.2.1
def dayD (F : Fam) (s : Sta) : Sta := pss F s ((dn F s.2.2.2.2.1 (fN F)).1 : Nat) (dn F s.2.2.2.2.1 (fN F)).2
def bgn0 (F : Fam) (one care : Int) : Sta := (tr 6 (fun j => if (j : Int) = one then care else fCar F j), fKno F, -1, 0, fDra F, 0)
def bgn (F : Fam) (one care : Int) : Sta := ((bgn0 F one care).1, fKno F, goes F (bgn0 F one care) (-1), 0, fDra F, 0)
-- where families lie
def FO (k : Nat) : Prop := k = 35 ∨ k = 51
def sc (k : Nat) : List Nat := [k + 10, k + 11, k + 14, k + 15]
def okF (σ : Hp) (f : Nat) : Prop := 0 ≤ σ f 3 ∧ σ f 3 ≤ 280 ∧ (¬ σ f 5 = 0 → wfc (σ (f + 1)) (σ f 3).toNat ∧ 1 ≤ tp (σ (f + 1)) (σ f 3).toNat)
/-- how many of the first n have news told -/
def nwn (f : Nat → Int) : Nat → Nat
  | 0 => 0
  | n + 1 => nwn f n + (if 0 < f n then 1 else 0)
/-- a family is what it can be -/
def FS (σ : Hp) (k : Nat) : Prop := (0 ≤ σ k 9 ∧ σ k 9 ≤ 6 ∧ nwn (σ (k + 6)) 6 ≤ 4) ∧ (0 ≤ σ k 12 ∧ σ k 12 ≤ 999) ∧ (0 ≤ σ k 13 ∧ σ k 13 ≤ 999) ∧ (∀ j, j < 6 → (0 ≤ σ (k + 6) j ∧ σ (k + 6) j ≤ 20) ∧ (0 ≤ σ (k + 5) j ∧ σ (k + 5) j ≤ 100) ∧ (0 ≤ σ (k + 3) j ∧ σ (k + 3) j ≤ 99) ∧ (0 ≤ σ (k + 4) j ∧ σ (k + 4) j < 64)) ∧ okF σ (k + 8) ∧ okF σ (k + 12)
/-- a family's cells but for its scratch are as they were -/
def FK (k : Nat) (σ σ' : Hp) : Prop := σ' k = σ k ∧ (∀ d, 2 ≤ d → d ≤ 6 → σ' (k + d) = σ (k + d)) ∧ σ' (k + 8) = σ (k + 8) ∧ σ' (k + 9) = σ (k + 9) ∧ σ' (k + 12) = σ (k + 12) ∧ σ' (k + 13) = σ (k + 13)
theorem FK.fam {k : Nat} {σ σ' : Hp} (h : FK k σ σ') : famX σ' k = famX σ k := by
  obtain ⟨h0, hd, h8, h9, h12, h13⟩ := h
  unfold famX frX
  rw [h0, hd 2 (by omega) (by omega), hd 3 (by omega) (by omega), hd 4 (by omega) (by omega), hd 5 (by omega) (by omega), hd 6 (by omega) (by omega), h8, h12, show k + 8 + 1 = k + 9 from rfl, show k + 12 + 1 = k + 13 from rfl, h9, h13]
theorem FK.fs {k : Nat} {σ σ' : Hp} (h : FK k σ σ') (hs : FS σ k) : FS σ' k := by
  obtain ⟨h0, hd, h8, h9, h12, h13⟩ := h
  unfold FS okF at *
  rw [h0, hd 3 (by omega) (by omega), hd 4 (by omega) (by omega), hd 5 (by omega) (by omega), hd 6 (by omega) (by omega), h8, h12, show k + 8 + 1 = k + 9 from rfl, show k + 12 + 1 = k + 13 from rfl, h9, h13]
  exact hs
theorem FK.of {k q : Nat} {cs : List Nat} {σ σ' : Hp} (hk : FO k) (hf : Fr cs σ σ') (hc : ∀ c ∈ cs, c ∈ sc k ∨ c = k + 7 ∨ c = q ∨ c = q + 1 ∨ c = q + 2) (hq : SO q) : FK k σ σ' := by
  have key : ∀ d, d ≤ 15 → d ≠ 7 → d ≠ 10 → d ≠ 11 → d ≠ 14 → d ≠ 15 → σ' (k + d) = σ (k + d) := by
    intro d h1 h2 h3 h4 h5 h6
    refine hf _ (fun z => ?_)
    rcases hc _ z with h | h | h | h | h
    · simp only [sc, List.mem_cons, List.not_mem_nil, or_false] at h; omega
    · omega
    · rcases hk with rfl | rfl <;> rcases hq with rfl | rfl | rfl <;> omega
    · rcases hk with rfl | rfl <;> rcases hq with rfl | rfl | rfl <;> omega
    · rcases hk with rfl | rfl <;> rcases hq with rfl | rfl | rfl <;> omega
  exact ⟨key 0 (by omega) (by omega) (by omega) (by omega) (by omega) (by omega), fun d h1 h2 => key d (by omega) (by omega) (by omega) (by omega) (by omega) (by omega), key 8 (by omega) (by omega) (by omega) (by omega) (by omega) (by omega), key 9 (by omega) (by omega) (by omega) (by omega) (by omega) (by omega), key 12 (by omega) (by omega) (by omega) (by omega) (by omega) (by omega), key 13 (by omega) (by omega) (by omega) (by omega) (by omega) (by omega)⟩
theorem FK_sc {k : Nat} {σ σ' : Hp} (hk : FO k) (hf : Fr (sc k) σ σ') : FK k σ σ' := FK.of (q := 4) hk hf (fun _ h => Or.inl h) (Or.inl rfl)
theorem sc_st {k q : Nat} {σ σ' : Hp} (hk : FO k) (hq : SO q) (hf : Fr (sc k) σ σ') : ∀ d, d < 3 → σ' (q + d) = σ (q + d) := by
  intro d hd
  refine hf _ (fun z => ?_)
  simp only [sc, List.mem_cons, List.not_mem_nil, or_false] at z
  rcases hk with rfl | rfl <;> rcases hq with rfl | rfl | rfl <;> omega
theorem stX_eq {σ σ' : Hp} {q : Nat} (h : ∀ d, d < 3 → σ' (q + d) = σ (q + d)) : stX σ' q = stX σ q := by
  have h0 := h 0 (by omega)
  rw [Nat.add_zero] at h0
  unfold stX
  rw [h0, h 1 (by omega), h 2 (by omega)]
theorem SS_eq {σ σ' : Hp} {q : Nat} (h : ∀ d, d < 3 → σ' (q + d) = σ (q + d)) (hs : SS σ q) : SS σ' q := by
  intro j hj
  rw [h 1 (by omega), h 2 (by omega)]
  exact hs j hj
theorem fval_X {σ : Hp} {f : Nat} {e e' : Nat → Int} (h : okF σ f) (ht : ¬ σ f 5 = 0) (he : ∀ j, j < 5 → e j = e' j) : ev (σ (f + 1)) e (σ f 3).toNat 0 = fval (frX σ f) e' := by
  unfold fval frX
  exact congrFun (ev_ext (fun j hj => ⟨(tr_in hj).symm, ((h.2.2 ht).1 j hj).1⟩) he) 0
theorem sm_X {σ : Hp} {q : Nat} {x : Int} : sm (σ (q + 1)) x 6 = sm (stX σ q).1 x 6 := sm_ext (fun j hj => (tr_in hj).symm)
theorem wth_R (v m : Int) (hm : 0 ≤ m) : 0 ≤ wth v m ∧ wth v m ≤ m := by unfold wth; omega
def Fa_hearsNews_pre (_ : Nat) (a : Int) (_ : Hp) : Prop := 0 ≤ a ∧ a < 6
def Fa_hearsNews_post (k : Nat) (a : Int) (σ : Hp) (r : Int) (σ' : Hp) : Prop := σ' = σ ∧ r = if σ (k + 6) a.toNat ≤ 0 then 0 else 1
def Fa_hearsNews_bk : List (Nat × List Item) := [(0, [(.aload_n 0, 1, [], []), (.getfield 28, 3, [1, 5, 4, 6, 1, 6], []), (.iload_n 1, 1, [], []), (.iaload, 1, [], []), (.ifCond .le 7, 3, [13], []), (.iconst 1, 1, [], []), (.goto 4, 3, [14], [])]),
  (13, [(.iconst 0, 1, [], [])]),
  (14, [(.ireturn, 1, [], [])])]
def Fa_hearsNews_cl : List (Instr × Nat) := []
set_option maxRecDepth 20000 in
theorem Fa_hearsNews_ck : Fa_hearsNews_bk.all (fun b => ax_chB 1 2 cX1_hearsNews Fa_hearsNews_cl b.1 b.2) = true := by decide +kernel
def Fa_hearsNews_cs : Ct := (2, 2, 2, (0, 0), fun as σ => (match as with
    | [.inr (.inr (.inl (k, 0, 1))), .inl a1] => Fa_hearsNews_pre k a1 σ
    | _ => False), fun as σ r σ' => (match as with
    | [.inr (.inr (.inl (k, 0, 1))), .inl a1] => Fa_hearsNews_post k a1 σ r σ'
    | _ => False))
theorem Fa_hearsNews_w : ∀ w ∈ ([.instanceMethod yX1_hearsNews, .selects yX1_hearsNews.cls yX1_hearsNews yX1_hearsNews, .initialized yX1_hearsNews.cls, .code yX1_hearsNews cX1_hearsNews 2 (some .boolean)] : List Cond), w ∈ ax_tb := ax_w4 (ax_m3 238 (by decide +kernel) rfl) (ax_m3 239 (by decide +kernel) rfl) (ax_m1 8 (by decide +kernel) rfl) (ax_m4 0 (by decide +kernel) rfl)
theorem Fa_hearsNews_ds : yX1_hearsNews.cls ≠ "java/lang/invoke/MethodHandle" ∧ yX1_hearsNews.cls ≠ "java/lang/invoke/VarHandle" ∧ (parseMethodDescriptor yX1_hearsNews.desc).map (fun d => d.parameters.length) = some 1 := by decide +kernel
def Fa_hearsNews_vc : Prop := ∀ (k : Nat) (a1 : Int) (σ : Hp), ax_H σ → Fa_hearsNews_pre k a1 σ →
  (0 ≤ a1 ∧ a1 < 6) ∧
  (σ (k + 6) a1.toNat ≤ 0 →
    ((0 : Int) = 0 ∨ (0 : Int) = 1) ∧ Fa_hearsNews_post k a1 σ 0 σ) ∧
  (¬ (σ (k + 6) a1.toNat ≤ 0) →
    ((1 : Int) = 0 ∨ (1 : Int) = 1) ∧ Fa_hearsNews_post k a1 σ 1 σ)
theorem Fa_hearsNews_p : Fa_hearsNews_vc := by
  intro k a σ hH hp
  exact ⟨hp, fun h => ⟨Or.inl rfl, rfl, by rw [if_pos h]⟩, fun h => ⟨Or.inr rfl, rfl, by rw [if_neg h]⟩⟩
def Fa_hearsNews_I : List AV → Hp → Nat → Nat → List AV → List AV → Hp → Prop := fun as σ0 pc n st ls σ => (match as with
    | [.inr (.inr (.inl (k, 0, 1))), .inl a1] => False
    | _ => False)
def Fa_hearsNews_ct : Nat → Ct := fun n => match n with
  | _ => Fa_hearsNews_cs
set_option maxRecDepth 20000 in
set_option maxHeartbeats 4000000 in
theorem Fa_hearsNews_met {l : Launch} {D : va_G} {ad : Nat → Nat} {ca : Nat → ClassId} {L : Nat} {fx : Nat → Int} : ax_MC l D ad ca L fx yX1_hearsNews cX1_hearsNews 2 (some .boolean) 1 Fa_hearsNews_cs := by
  refine ax_met (oc := 1) (ct := Fa_hearsNews_ct) (calls := Fa_hearsNews_cl) (bs := Fa_hearsNews_bk) (cut := fun pc => false) (f := 4) (I := Fa_hearsNews_I) (by decide) rfl rfl Fa_hearsNews_ck (fun _ h => absurd h List.not_mem_nil) ?_ ?_
  · intro as σ0 hp hH
    match as, hp with
    | [.inr (.inr (.inl (k, 0, 1))), .inl a1], hp => exact ⟨rfl, Fa_hearsNews_p k a1 σ0 hH hp⟩
  · intro as σ0 hp n pc st ls σ hH hI
    match as, hp, hI with
    | [.inr (.inr (.inl (k, 0, 1))), .inl a1], hp, hI => exact False.elim hI
def Fa_worryOf_pre (k q : Nat) (a : Int) (σ : Hp) : Prop := FO k ∧ SO q ∧ 0 ≤ a ∧ a < 6 ∧ FS σ k ∧ WS σ q a.toNat
def Fa_worryOf_post (k q : Nat) (a : Int) (σ : Hp) (r : Int) (σ' : Hp) : Prop := Fr (sc k) σ σ' ∧ r = wry (famX σ k) (stX σ q) a.toNat
def Fa_worryOf_bk : List (Nat × List Item) := [(0, [(.aload_n 1, 1, [], []), (.getfield 73, 3, [7, 0, 4, 1, 1, 6], []), (.iload_n 2, 1, [], []), (.iaload, 1, [], []), (.istore_n 3, 1, [], []), (.aload_n 1, 1, [], []), (.aload_n 1, 1, [], []), (.getfield 78, 3, [7, 1, 4, 2, 1, 6], []), (.iload_n 2, 1, [], []), (.iaload, 1, [], []), (.invokevirtual 97, 3, [0], []), (.istore 4, 2, [], []), (.aload_n 0, 1, [], []), (.getfield 37, 3, [1, 7, 4, 8, 0, 2], []), (.getfield 101, 3, [2, 5, 1, 0, 0, 0], []), (.ifCond .ne 16, 3, [42], []), (.iload_n 3, 1, [], []), (.iload 4, 2, [], []), (.iconst 2, 1, [], []), (.idiv, 1, [], []), (.iadd, 1, [], []), (.sipush 999, 3, [], []), (.invokestatic 104, 3, [1], []), (.ireturn, 1, [], [])]),
  (42, [(.aload_n 1, 1, [], []), (.getfield 90, 3, [7, 2, 0, 0, 0, 0], []), (.iload_n 2, 1, [], []), (.if_icmp .ne 7, 3, [54], []), (.iconst 1, 1, [], []), (.goto 4, 3, [55], [])]),
  (54, [(.iconst 0, 1, [], [])]),
  (55, [(.istore 5, 2, [], []), (.aload_n 0, 1, [], []), (.getfield 37, 3, [1, 7, 4, 8, 0, 2], []), (.iload_n 3, 1, [], []), (.iload 4, 2, [], []), (.iload 5, 2, [], []), (.aload_n 0, 1, [], []), (.getfield 15, 3, [1, 1, 4, 2, 1, 6], []), (.iload_n 2, 1, [], []), (.iaload, 1, [], []), (.aload_n 1, 1, [], []), (.getfield 81, 3, [7, 3, 0, 0, 0, 0], []), (.invokevirtual 108, 3, [2], []), (.sipush 999, 3, [], []), (.invokestatic 104, 3, [1], []), (.ireturn, 1, [], [])])]
def Fa_worryOf_cl : List (Instr × Nat) := [(.invokevirtual 97, 0), (.invokestatic 104, 1), (.invokevirtual 108, 2)]
set_option maxRecDepth 20000 in
theorem Fa_worryOf_ck : Fa_worryOf_bk.all (fun b => ax_chB 1 6 cX1_worryOf Fa_worryOf_cl b.1 b.2) = true := by decide +kernel
def Fa_worryOf_cs : Ct := (3, 2, 1, (0, 0), fun as σ => (match as with
    | [.inr (.inr (.inl (k, 0, 1))), .inr (.inr (.inl (q1, 0, 7))), .inl a2] => Fa_worryOf_pre k q1 a2 σ
    | _ => False), fun as σ r σ' => (match as with
    | [.inr (.inr (.inl (k, 0, 1))), .inr (.inr (.inl (q1, 0, 7))), .inl a2] => Fa_worryOf_post k q1 a2 σ r σ'
    | _ => False))
theorem Fa_worryOf_w : ∀ w ∈ ([.instanceMethod yX1_worryOf, .selects yX1_worryOf.cls yX1_worryOf yX1_worryOf, .initialized yX1_worryOf.cls, .code yX1_worryOf cX1_worryOf 6 (some .int)] : List Cond), w ∈ ax_tb := ax_w4 (ax_m3 149 (by decide +kernel) rfl) (ax_m3 150 (by decide +kernel) rfl) (ax_m1 8 (by decide +kernel) rfl) (ax_m3 151 (by decide +kernel) rfl)
theorem Fa_worryOf_ds : yX1_worryOf.cls ≠ "java/lang/invoke/MethodHandle" ∧ yX1_worryOf.cls ≠ "java/lang/invoke/VarHandle" ∧ (parseMethodDescriptor yX1_worryOf.desc).map (fun d => d.parameters.length) = some 2 := by decide +kernel
def Fa_worryOf_vc : Prop := ∀ (k : Nat) (q1 : Nat) (a2 : Int) (σ : Hp), ax_H σ → Fa_worryOf_pre k q1 a2 σ →
  (0 ≤ a2 ∧ a2 < 6) ∧
  (0 ≤ a2 ∧ a2 < 6) ∧
  St_sumOf_pre q1 (σ (q1 + 2) a2.toNat) σ ∧
  ∀ (r2 : Int) (σ1 : Hp), St_sumOf_post q1 (σ (q1 + 2) a2.toNat) σ r2 σ1 →
  (¬ σ1 (k + 8) 5 = 0 →
    (¬ σ1 q1 2 = a2 →
      (0 ≤ a2 ∧ a2 < 6) ∧
      Fo_value_pre (k + 8) (σ (q1 + 1) a2.toNat) r2 0 (σ1 (k + 2) a2.toNat) (σ1 q1 3) σ1 ∧
      ∀ (r4 : Int) (σ3 : Hp), Fo_value_post (k + 8) (σ (q1 + 1) a2.toNat) r2 0 (σ1 (k + 2) a2.toNat) (σ1 q1 3) σ1 r4 σ3 →
      Gh_within_pre r4 999 σ3 ∧
      ∀ (r6 : Int) (σ5 : Hp), Gh_within_post r4 999 σ3 r6 σ5 →
      Fa_worryOf_post k q1 a2 σ r6 σ5) ∧
    (¬ (¬ σ1 q1 2 = a2) →
      (0 ≤ a2 ∧ a2 < 6) ∧
      Fo_value_pre (k + 8) (σ (q1 + 1) a2.toNat) r2 1 (σ1 (k + 2) a2.toNat) (σ1 q1 3) σ1 ∧
      ∀ (r8 : Int) (σ7 : Hp), Fo_value_post (k + 8) (σ (q1 + 1) a2.toNat) r2 1 (σ1 (k + 2) a2.toNat) (σ1 q1 3) σ1 r8 σ7 →
      Gh_within_pre r8 999 σ7 ∧
      ∀ (r10 : Int) (σ9 : Hp), Gh_within_post r8 999 σ7 r10 σ9 →
      Fa_worryOf_post k q1 a2 σ r10 σ9)) ∧
  (¬ (¬ σ1 (k + 8) 5 = 0) →
    ¬ (2 : Int) = 0 ∧
    Gh_within_pre (wr ((σ (q1 + 1) a2.toNat) + (iDiv r2 2))) 999 σ1 ∧
    ∀ (r12 : Int) (σ11 : Hp), Gh_within_post (wr ((σ (q1 + 1) a2.toNat) + (iDiv r2 2))) 999 σ1 r12 σ11 →
    Fa_worryOf_post k q1 a2 σ r12 σ11)
theorem Fa_worryOf_p : Fa_worryOf_vc := by
  intro k q a σ hH hp
  obtain ⟨hk, hq, a0, a6, hF, hS⟩ := hp
  obtain ⟨hs1, hs2, hs3⟩ := hS
  refine ⟨⟨a0, a6⟩, ⟨a0, a6⟩, ⟨hs2.1, hs2.2, hs3⟩, ?_⟩
  rintro r1 σ1 ⟨rfl, rfl⟩
  have eK : sm (σ1 (q + 1)) (σ1 (q + 2) a.toNat) 6 = knw (stX σ1 q) a.toNat := by
    unfold knw
    rw [sm_X]
    show _ = sm _ (tr 6 (σ1 (q + 2)) a.toNat) 6
    rw [tr_in (by omega)]
  have eC : σ1 (q + 1) a.toNat = (stX σ1 q).1 a.toNat := (tr_in (by omega)).symm
  have eH : σ1 (k + 2) a.toNat = fHou (famX σ1 k) a.toNat := (tr_in (by omega)).symm
  have hK := sm_Rb (c := σ1 (q + 1)) (x := σ1 (q + 2) a.toNat) (n := 6) hs3
  have hW : ∀ has : Int, has = (if (stX σ1 q).2.2.1 = ((a.toNat : Nat) : Int) then 1 else 0) → ¬ σ1 (k + 8) 5 = 0 → ∀ (r4 : Int) (σ3 : Hp), Fo_value_post (k + 8) (σ1 (q + 1) a.toNat) (sm (σ1 (q + 1)) (σ1 (q + 2) a.toNat) 6) has (σ1 (k + 2) a.toNat) (σ1 q 3) σ1 r4 σ3 →
      Gh_within_pre r4 999 σ3 ∧ ∀ (r6 : Int) (σ5 : Hp), Gh_within_post r4 999 σ3 r6 σ5 → Fa_worryOf_post k q a σ1 r6 σ5 := by
    intro has hhas ht r4 σ3 hv
    obtain ⟨hf, rfl⟩ := hv
    refine ⟨trivial, ?_⟩
    rintro r6 σ5 ⟨rfl, rfl⟩
    refine ⟨hf.mono (by simp [sc]), ?_⟩
    unfold wry
    rw [if_pos (show ¬ (fWor (famX σ1 k)).1 = 0 from ht)]
    rw [fval_X (e' := env5 (σ1 (q + 1) a.toNat) (sm (σ1 (q + 1)) (σ1 (q + 2) a.toNat) 6) has (σ1 (k + 2) a.toNat) (σ1 q 3)) hF.2.2.2.2.1 ht (fun _ _ => rfl), eK, eC, eH, hhas]
    rfl
  refine ⟨fun ht => ⟨fun h2 => ⟨⟨a0, a6⟩, ?_, ?_⟩, fun h2 => ⟨⟨a0, a6⟩, ?_, ?_⟩⟩, fun ht => ⟨by decide, trivial, ?_⟩⟩
  · exact ⟨hF.2.2.2.2.1.1, hF.2.2.2.2.1.2.1, hF.2.2.2.2.1.2.2 ht⟩
  · exact hW 0 (by rw [if_neg]; rw [← e_nat a0]; exact h2) ht
  · exact ⟨hF.2.2.2.2.1.1, hF.2.2.2.2.1.2.1, hF.2.2.2.2.1.2.2 ht⟩
  · exact hW 1 (by rw [if_pos]; rw [← e_nat a0]; exact Classical.not_not.mp h2) ht
  · rintro r12 σ11 ⟨rfl, rfl⟩
    refine ⟨Fr.rf, ?_⟩
    unfold wry
    have ht0 : σ11 (k + 8) 5 = 0 := Classical.not_not.mp ht
    rw [if_neg (show ¬ ¬ (fWor (famX σ11 k)).1 = 0 from fun z => z ht0), ← eK, ← eC]
    rw [show (2 : Int) = ((2 : Nat) : Int) from rfl, iDiv_p hK.1 (by omega) (by omega) (by omega), wr_id (by omega) (by omega)]
def Fa_worryOf_I : List AV → Hp → Nat → Nat → List AV → List AV → Hp → Prop := fun as σ0 pc n st ls σ => (match as with
    | [.inr (.inr (.inl (k, 0, 1))), .inr (.inr (.inl (q1, 0, 7))), .inl a2] => False
    | _ => False)
def Fa_worryOf_ct : Nat → Ct := fun n => match n with
  | 0 => St_sumOf_cs
  | 1 => Gh_within_cs
  | 2 => Fo_value_cs
  | _ => Fa_worryOf_cs
set_option maxRecDepth 20000 in
set_option maxHeartbeats 4000000 in
theorem Fa_worryOf_met {l : Launch} {D : va_G} {ad : Nat → Nat} {ca : Nat → ClassId} {L : Nat} {fx : Nat → Int} : ax_MC l D ad ca L fx yX1_worryOf cX1_worryOf 6 (some .int) 3 Fa_worryOf_cs := by
  refine ax_met (oc := 1) (ct := Fa_worryOf_ct) (calls := Fa_worryOf_cl) (bs := Fa_worryOf_bk) (cut := fun pc => false) (f := 5) (I := Fa_worryOf_I) (by decide) rfl rfl Fa_worryOf_ck (List.forall_mem_cons.mpr ⟨ax_cwV St_sumOf_met (by decide) (by decide) rfl (by decide) rfl (ax_m3 152 (by decide +kernel) rfl) St_sumOf_w rfl St_sumOf_ds, List.forall_mem_cons.mpr ⟨ax_cwN Gh_within_met (by decide) (by decide) (by decide) Gh_within_w rfl Gh_within_ds, List.forall_mem_cons.mpr ⟨ax_cwV Fo_value_met (by decide) (by decide) rfl (by decide) rfl (ax_m3 161 (by decide +kernel) rfl) Fo_value_w rfl Fo_value_ds, fun _ h => absurd h List.not_mem_nil⟩⟩⟩) ?_ ?_
  · intro as σ0 hp hH
    match as, hp with
    | [.inr (.inr (.inl (k, 0, 1))), .inr (.inr (.inl (q1, 0, 7))), .inl a2], hp => exact ⟨rfl, Fa_worryOf_p k q1 a2 σ0 hH hp⟩
  · intro as σ0 hp n pc st ls σ hH hI
    match as, hp, hI with
    | [.inr (.inr (.inl (k, 0, 1))), .inr (.inr (.inl (q1, 0, 7))), .inl a2], hp, hI => exact False.elim hI
theorem mwr_s (F : Fam) (s : Sta) (out : Int) (i : Nat) : mwr F s out (i + 1) = if (i : Int) = out then mwr F s out i else if (mwr F s out i).2 < wry F s i then ((i : Int), wry F s i) else mwr F s out i := rfl
def Fa_mostWorried_pre (k q : Nat) (_ : Int) (σ : Hp) : Prop := FO k ∧ SO q ∧ FS σ k ∧ SS σ q
def Fa_mostWorried_post (k q : Nat) (a : Int) (σ : Hp) (r : Int) (σ' : Hp) : Prop := Fr (sc k) σ σ' ∧ r = goes (famX σ k) (stX σ q) a
def Fa_mostWorried_I13 (k q : Nat) (a : Int) (σ0 : Hp) (n : Nat) (v3 v4 v5 : Int) (σ : Hp) : Prop := ∃ i : Nat, v5 = i ∧ i ≤ fN (famX σ0 k) ∧ n = 6 - i ∧ Fr (sc k) σ0 σ ∧ (v3, v4) = mwr (famX σ0 k) (stX σ0 q) a i
def Fa_mostWorried_bk : List (Nat × List Item) := [(0, [(.iconst (-1), 1, [], []), (.istore_n 3, 1, [], []), (.aload_n 0, 1, [], []), (.getfield 44, 3, [1, 12, 0, 0, 0, 0], []), (.iconst 1, 1, [], []), (.isub, 1, [], []), (.istore 4, 2, [], []), (.iconst 0, 1, [], []), (.istore 5, 2, [], [])]),
  (13, [(.iload 5, 2, [], []), (.aload_n 0, 1, [], []), (.getfield 51, 3, [1, 9, 0, 0, 0, 0], []), (.if_icmp .ge 48, 3, [67], []), (.iload 5, 2, [], []), (.bipush 6, 2, [], []), (.if_icmp .ge 41, 3, [67], []), (.iload 5, 2, [], []), (.iload_n 2, 1, [], []), (.if_icmp .ne 6, 3, [38], []), (.goto 26, 3, [61], [])]),
  (38, [(.aload_n 0, 1, [], []), (.aload_n 1, 1, [], []), (.iload 5, 2, [], []), (.invokevirtual 112, 3, [0], []), (.istore 6, 2, [], []), (.iload 6, 2, [], []), (.iload 4, 2, [], []), (.if_icmp .le 10, 3, [61], []), (.iload 6, 2, [], []), (.istore 4, 2, [], []), (.iload 5, 2, [], []), (.istore_n 3, 1, [], [])]),
  (61, [(.iinc 5 1, 3, [], []), (.goto (-51), 3, [13], [])]),
  (67, [(.iload_n 3, 1, [], []), (.ireturn, 1, [], [])])]
def Fa_mostWorried_cl : List (Instr × Nat) := [(.invokevirtual 112, 0)]
set_option maxRecDepth 20000 in
theorem Fa_mostWorried_ck : Fa_mostWorried_bk.all (fun b => ax_chB 1 7 cX1_mostWorried Fa_mostWorried_cl b.1 b.2) = true := by decide +kernel
def Fa_mostWorried_cs : Ct := (3, 2, 1, (0, 0), fun as σ => (match as with
    | [.inr (.inr (.inl (k, 0, 1))), .inr (.inr (.inl (q1, 0, 7))), .inl a2] => Fa_mostWorried_pre k q1 a2 σ
    | _ => False), fun as σ r σ' => (match as with
    | [.inr (.inr (.inl (k, 0, 1))), .inr (.inr (.inl (q1, 0, 7))), .inl a2] => Fa_mostWorried_post k q1 a2 σ r σ'
    | _ => False))
theorem Fa_mostWorried_w : ∀ w ∈ ([.instanceMethod yX1_mostWorried, .selects yX1_mostWorried.cls yX1_mostWorried yX1_mostWorried, .initialized yX1_mostWorried.cls, .code yX1_mostWorried cX1_mostWorried 7 (some .int)] : List Cond), w ∈ ax_tb := ax_w4 (ax_m3 145 (by decide +kernel) rfl) (ax_m3 146 (by decide +kernel) rfl) (ax_m1 8 (by decide +kernel) rfl) (ax_m3 147 (by decide +kernel) rfl)
theorem Fa_mostWorried_ds : yX1_mostWorried.cls ≠ "java/lang/invoke/MethodHandle" ∧ yX1_mostWorried.cls ≠ "java/lang/invoke/VarHandle" ∧ (parseMethodDescriptor yX1_mostWorried.desc).map (fun d => d.parameters.length) = some 2 := by decide +kernel
def Fa_mostWorried_vc : Prop := ∀ (k : Nat) (q1 : Nat) (a2 : Int) (σ : Hp), ax_H σ → Fa_mostWorried_pre k q1 a2 σ →
  ∃ n' : Nat, k = k ∧ q1 = q1 ∧ a2 = a2 ∧ Fa_mostWorried_I13 k q1 a2 σ n' (-1) (wr ((σ k 12) - 1)) 0 σ
def Fa_mostWorried_vc13 : Prop := ∀ (k : Nat) (q1 : Nat) (a2 : Int) (σ0 : Hp), Fa_mostWorried_pre k q1 a2 σ0 → ∀ (n : Nat) (v3 : Int) (v4 : Int) (v5 : Int) (σ : Hp), ax_H σ → Fa_mostWorried_I13 k q1 a2 σ0 n v3 v4 v5 σ →
  (σ k 9 ≤ v5 →
    Fa_mostWorried_post k q1 a2 σ0 v3 σ) ∧
  (¬ (σ k 9 ≤ v5) →
    (6 ≤ v5 →
      Fa_mostWorried_post k q1 a2 σ0 v3 σ) ∧
    (¬ (6 ≤ v5) →
      (¬ v5 = a2 →
        Fa_worryOf_pre k q1 v5 σ ∧
        ∀ (r2 : Int) (σ1 : Hp), Fa_worryOf_post k q1 v5 σ r2 σ1 →
        (r2 ≤ v4 →
          ∃ n' : Nat, n' < n ∧ k = k ∧ q1 = q1 ∧ a2 = a2 ∧ Fa_mostWorried_I13 k q1 a2 σ0 n' v3 v4 (wr (v5 + 1)) σ1) ∧
        (¬ (r2 ≤ v4) →
          ∃ n' : Nat, n' < n ∧ k = k ∧ q1 = q1 ∧ a2 = a2 ∧ Fa_mostWorried_I13 k q1 a2 σ0 n' v5 r2 (wr (v5 + 1)) σ1)) ∧
      (¬ (¬ v5 = a2) →
        ∃ n' : Nat, n' < n ∧ k = k ∧ q1 = q1 ∧ a2 = a2 ∧ Fa_mostWorried_I13 k q1 a2 σ0 n' v3 v4 (wr (v5 + 1)) σ)))
theorem Fa_mostWorried_p : Fa_mostWorried_vc := by
  intro k q a σ hH hp
  obtain ⟨hk, hq, hF, hS⟩ := hp
  refine ⟨6, rfl, rfl, rfl, 0, rfl, Nat.zero_le _, rfl, Fr.rf, ?_⟩
  have := hF.2.1
  rw [wr_id (by omega) (by omega)]
  rfl
theorem Fa_mostWorried_p13 : Fa_mostWorried_vc13 := by
  intro k q a σ0 hp n v3 v4 v5 σ hH hI
  obtain ⟨hk, hq, hF, hS⟩ := hp
  obtain ⟨i, rfl, hi, rfl, hf, hm⟩ := hI
  have hK := FK_sc hk hf
  have hst := sc_st hk hq hf
  have e9 : σ k 9 = (fN (famX σ0 k) : Int) := by
    rw [hK.1]; show _ = ((σ0 k 9).toNat : Int); have := hF.1; omega
  have hN : fN (famX σ0 k) ≤ 6 := by show (σ0 k 9).toNat ≤ 6; have := hF.1; omega
  rw [e9]
  have fin : (fN (famX σ0 k) : Int) ≤ (i : Int) → Fa_mostWorried_post k q a σ0 v3 σ := by
    intro h
    have : i = fN (famX σ0 k) := by omega
    subst this
    exact ⟨hf, by unfold goes; rw [← hm]⟩
  refine ⟨fin, fun h => ⟨fun h2 => absurd h2 (by omega), fun h2 => ⟨fun h3 => ⟨⟨hk, hq, by omega, by omega, hK.fs hF, (SS_eq hst hS).ws (by omega)⟩, ?_⟩, fun h3 => ?_⟩⟩⟩
  · rintro r σ1 ⟨hf1, rfl⟩
    rw [hK.fam, stX_eq hst, Int.toNat_natCast, wr1 (by omega) (by omega)]
    have hm2 : mwr (famX σ0 k) (stX σ0 q) a (i + 1) = if v4 < wry (famX σ0 k) (stX σ0 q) i then ((i : Int), wry (famX σ0 k) (stX σ0 q) i) else (v3, v4) := by
      rw [mwr_s, if_neg h3, ← hm]
    refine ⟨fun h4 => ⟨6 - (i + 1), by omega, rfl, rfl, rfl, i + 1, by simp, by omega, rfl, hf.tr hf1, ?_⟩, fun h4 => ⟨6 - (i + 1), by omega, rfl, rfl, rfl, i + 1, by simp, by omega, rfl, hf.tr hf1, ?_⟩⟩
    · rw [hm2, if_neg (by omega)]
    · rw [hm2, if_pos (by omega)]
  · rw [wr1 (by omega) (by omega)]
    refine ⟨6 - (i + 1), by omega, rfl, rfl, rfl, i + 1, by simp, by omega, rfl, hf, ?_⟩
    rw [mwr_s, if_pos (Classical.not_not.mp h3)]
    exact hm
def Fa_mostWorried_I : List AV → Hp → Nat → Nat → List AV → List AV → Hp → Prop := fun as σ0 pc n st ls σ => (match as with
    | [.inr (.inr (.inl (k, 0, 1))), .inr (.inr (.inl (q1, 0, 7))), .inl a2] => (bif Nat.beq pc 13 then (match st, ls with
      | [], [.inr (.inr (.inl (k', 0, 1))), .inr (.inr (.inl (q1', 0, 7))), .inl a2', .inl v3, .inl v4, .inl v5, _] => k = k' ∧ q1 = q1' ∧ a2 = a2' ∧ Fa_mostWorried_I13 k q1 a2 σ0 n v3 v4 v5 σ
      | _, _ => False) else False)
    | _ => False)
def Fa_mostWorried_ct : Nat → Ct := fun n => match n with
  | 0 => Fa_worryOf_cs
  | _ => Fa_mostWorried_cs
set_option maxRecDepth 20000 in
set_option maxHeartbeats 4000000 in
theorem Fa_mostWorried_met {l : Launch} {D : va_G} {ad : Nat → Nat} {ca : Nat → ClassId} {L : Nat} {fx : Nat → Int} : ax_MC l D ad ca L fx yX1_mostWorried cX1_mostWorried 7 (some .int) 4 Fa_mostWorried_cs := by
  refine ax_met (oc := 1) (ct := Fa_mostWorried_ct) (calls := Fa_mostWorried_cl) (bs := Fa_mostWorried_bk) (cut := fun pc => Nat.beq pc 13) (f := 6) (I := Fa_mostWorried_I) (by decide) rfl rfl Fa_mostWorried_ck (List.forall_mem_cons.mpr ⟨ax_cwV Fa_worryOf_met (by decide) (by decide) rfl (by decide) rfl (ax_m3 148 (by decide +kernel) rfl) Fa_worryOf_w rfl Fa_worryOf_ds, fun _ h => absurd h List.not_mem_nil⟩) ?_ ?_
  · intro as σ0 hp hH
    match as, hp with
    | [.inr (.inr (.inl (k, 0, 1))), .inr (.inr (.inl (q1, 0, 7))), .inl a2], hp => exact ⟨rfl, Fa_mostWorried_p k q1 a2 σ0 hH hp⟩
  · intro as σ0 hp n pc st ls σ hH hI
    match as, hp, hI with
    | [.inr (.inr (.inl (k, 0, 1))), .inr (.inr (.inl (q1, 0, 7))), .inl a2], hp, hI =>
      rcases ax_bifE hI with ⟨hpc, hI⟩ | ⟨-, hI⟩
      · have := Nat.eq_of_beq_eq_true hpc
        subst this
        match st, ls, hI with
        | [], [.inr (.inr (.inl (k', 0, 1))), .inr (.inr (.inl (q1', 0, 7))), .inl a2', .inl v3, .inl v4, .inl v5, _], hI =>
          obtain ⟨rfl, rfl, rfl, hI⟩ := hI
          exact Fa_mostWorried_p13 k q1 a2 σ0 hp n v3 v4 v5 σ hH hI
      exact False.elim hI
def Fa_grownCare_pre (k q : Nat) (a b : Int) (σ : Hp) : Prop := FO k ∧ SO q ∧ 0 ≤ a ∧ a < 6 ∧ 0 ≤ b ∧ b < 64 ∧ FS σ k ∧ SS σ q
def Fa_grownCare_post (k q : Nat) (a b : Int) (σ : Hp) (r : Int) (σ' : Hp) : Prop := Fr (sc k) σ σ' ∧ r = grc (famX σ k) (stX σ q) a.toNat b
def Fa_grownCare_bk : List (Nat × List Item) := [(0, [(.aload_n 1, 1, [], []), (.getfield 73, 3, [7, 0, 4, 1, 1, 6], []), (.iload_n 2, 1, [], []), (.iaload, 1, [], []), (.istore 4, 2, [], []), (.aload_n 0, 1, [], []), (.getfield 41, 3, [1, 8, 4, 12, 0, 2], []), (.getfield 101, 3, [2, 5, 1, 0, 0, 0], []), (.ifCond .ne 6, 3, [21], []), (.iload 4, 2, [], []), (.ireturn, 1, [], [])]),
  (21, [(.aload_n 1, 1, [], []), (.getfield 90, 3, [7, 2, 0, 0, 0, 0], []), (.iload_n 2, 1, [], []), (.if_icmp .ne 7, 3, [33], []), (.iconst 1, 1, [], []), (.goto 4, 3, [34], [])]),
  (33, [(.iconst 0, 1, [], [])]),
  (34, [(.istore 5, 2, [], []), (.aload_n 0, 1, [], []), (.getfield 41, 3, [1, 8, 4, 12, 0, 2], []), (.iload 4, 2, [], []), (.aload_n 1, 1, [], []), (.iload_n 3, 1, [], []), (.invokevirtual 97, 3, [0], []), (.iload 5, 2, [], []), (.aload_n 0, 1, [], []), (.getfield 15, 3, [1, 1, 4, 2, 1, 6], []), (.iload_n 2, 1, [], []), (.iaload, 1, [], []), (.aload_n 1, 1, [], []), (.getfield 81, 3, [7, 3, 0, 0, 0, 0], []), (.invokevirtual 108, 3, [1], []), (.istore 6, 2, [], []), (.iload 4, 2, [], []), (.iload 6, 2, [], []), (.iadd, 1, [], []), (.bipush 99, 2, [], []), (.invokestatic 104, 3, [2], []), (.ireturn, 1, [], [])])]
def Fa_grownCare_cl : List (Instr × Nat) := [(.invokevirtual 97, 0), (.invokevirtual 108, 1), (.invokestatic 104, 2)]
set_option maxRecDepth 20000 in
theorem Fa_grownCare_ck : Fa_grownCare_bk.all (fun b => ax_chB 1 7 cX1_grownCare Fa_grownCare_cl b.1 b.2) = true := by decide +kernel
def Fa_grownCare_cs : Ct := (4, 2, 1, (0, 0), fun as σ => (match as with
    | [.inr (.inr (.inl (k, 0, 1))), .inr (.inr (.inl (q1, 0, 7))), .inl a2, .inl a3] => Fa_grownCare_pre k q1 a2 a3 σ
    | _ => False), fun as σ r σ' => (match as with
    | [.inr (.inr (.inl (k, 0, 1))), .inr (.inr (.inl (q1, 0, 7))), .inl a2, .inl a3] => Fa_grownCare_post k q1 a2 a3 σ r σ'
    | _ => False))
theorem Fa_grownCare_w : ∀ w ∈ ([.instanceMethod yX1_grownCare, .selects yX1_grownCare.cls yX1_grownCare yX1_grownCare, .initialized yX1_grownCare.cls, .code yX1_grownCare cX1_grownCare 7 (some .int)] : List Cond), w ∈ ax_tb := ax_w4 (ax_m3 230 (by decide +kernel) rfl) (ax_m3 231 (by decide +kernel) rfl) (ax_m1 8 (by decide +kernel) rfl) (ax_m3 232 (by decide +kernel) rfl)
theorem Fa_grownCare_ds : yX1_grownCare.cls ≠ "java/lang/invoke/MethodHandle" ∧ yX1_grownCare.cls ≠ "java/lang/invoke/VarHandle" ∧ (parseMethodDescriptor yX1_grownCare.desc).map (fun d => d.parameters.length) = some 3 := by decide +kernel
def Fa_grownCare_vc : Prop := ∀ (k : Nat) (q1 : Nat) (a2 : Int) (a3 : Int) (σ : Hp), ax_H σ → Fa_grownCare_pre k q1 a2 a3 σ →
  (0 ≤ a2 ∧ a2 < 6) ∧
  (¬ σ (k + 12) 5 = 0 →
    (¬ σ q1 2 = a2 →
      St_sumOf_pre q1 a3 σ ∧
      ∀ (r2 : Int) (σ1 : Hp), St_sumOf_post q1 a3 σ r2 σ1 →
      (0 ≤ a2 ∧ a2 < 6) ∧
      Fo_value_pre (k + 12) (σ (q1 + 1) a2.toNat) r2 0 (σ1 (k + 2) a2.toNat) (σ1 q1 3) σ1 ∧
      ∀ (r4 : Int) (σ3 : Hp), Fo_value_post (k + 12) (σ (q1 + 1) a2.toNat) r2 0 (σ1 (k + 2) a2.toNat) (σ1 q1 3) σ1 r4 σ3 →
      Gh_within_pre (wr ((σ (q1 + 1) a2.toNat) + r4)) 99 σ3 ∧
      ∀ (r6 : Int) (σ5 : Hp), Gh_within_post (wr ((σ (q1 + 1) a2.toNat) + r4)) 99 σ3 r6 σ5 →
      Fa_grownCare_post k q1 a2 a3 σ r6 σ5) ∧
    (¬ (¬ σ q1 2 = a2) →
      St_sumOf_pre q1 a3 σ ∧
      ∀ (r8 : Int) (σ7 : Hp), St_sumOf_post q1 a3 σ r8 σ7 →
      (0 ≤ a2 ∧ a2 < 6) ∧
      Fo_value_pre (k + 12) (σ (q1 + 1) a2.toNat) r8 1 (σ7 (k + 2) a2.toNat) (σ7 q1 3) σ7 ∧
      ∀ (r10 : Int) (σ9 : Hp), Fo_value_post (k + 12) (σ (q1 + 1) a2.toNat) r8 1 (σ7 (k + 2) a2.toNat) (σ7 q1 3) σ7 r10 σ9 →
      Gh_within_pre (wr ((σ (q1 + 1) a2.toNat) + r10)) 99 σ9 ∧
      ∀ (r12 : Int) (σ11 : Hp), Gh_within_post (wr ((σ (q1 + 1) a2.toNat) + r10)) 99 σ9 r12 σ11 →
      Fa_grownCare_post k q1 a2 a3 σ r12 σ11)) ∧
  (¬ (¬ σ (k + 12) 5 = 0) →
    Fa_grownCare_post k q1 a2 a3 σ (σ (q1 + 1) a2.toNat) σ)
theorem Fa_grownCare_p : Fa_grownCare_vc := by
  intro k q a b σ hH hp
  obtain ⟨hk, hq, a0, a6, b0, b6, hF, hS⟩ := hp
  have eC : σ (q + 1) a.toNat = (stX σ q).1 a.toNat := (tr_in (by omega)).symm
  have eH : σ (k + 2) a.toNat = fHou (famX σ k) a.toNat := (tr_in (by omega)).symm
  have hW : ∀ has : Int, has = (if (stX σ q).2.2.1 = ((a.toNat : Nat) : Int) then 1 else 0) → ¬ σ (k + 12) 5 = 0 → ∀ (r4 : Int) (σ3 : Hp), Fo_value_post (k + 12) (σ (q + 1) a.toNat) (sm (σ (q + 1)) b 6) has (σ (k + 2) a.toNat) (σ q 3) σ r4 σ3 →
      Gh_within_pre (wr ((σ (q + 1) a.toNat) + r4)) 99 σ3 ∧ ∀ (r6 : Int) (σ5 : Hp), Gh_within_post (wr ((σ (q + 1) a.toNat) + r4)) 99 σ3 r6 σ5 → Fa_grownCare_post k q a b σ r6 σ5 := by
    intro has hhas ht r4 σ3 hv
    obtain ⟨hf, rfl⟩ := hv
    refine ⟨trivial, ?_⟩
    rintro r6 σ5 ⟨rfl, rfl⟩
    refine ⟨hf.mono (by simp [sc]), ?_⟩
    unfold grc
    rw [if_pos (show ¬ (fGro (famX σ k)).1 = 0 from ht)]
    rw [fval_X (e' := env5 (σ (q + 1) a.toNat) (sm (σ (q + 1)) b 6) has (σ (k + 2) a.toNat) (σ q 3)) hF.2.2.2.2.2 ht (fun _ _ => rfl), sm_X, eC, eH, hhas]
    rfl
  refine ⟨⟨a0, a6⟩, fun ht => ⟨fun h2 => ⟨⟨b0, b6, hS.sb b⟩, ?_⟩, fun h2 => ⟨⟨b0, b6, hS.sb b⟩, ?_⟩⟩, fun ht => ?_⟩
  · rintro r2 σ1 ⟨rfl, rfl⟩
    exact ⟨⟨a0, a6⟩, ⟨hF.2.2.2.2.2.1, hF.2.2.2.2.2.2.1, hF.2.2.2.2.2.2.2 ht⟩, hW 0 (by rw [if_neg]; rw [← e_nat a0]; exact h2) ht⟩
  · rintro r2 σ1 ⟨rfl, rfl⟩
    exact ⟨⟨a0, a6⟩, ⟨hF.2.2.2.2.2.1, hF.2.2.2.2.2.2.1, hF.2.2.2.2.2.2.2 ht⟩, hW 1 (by rw [if_pos]; rw [← e_nat a0]; exact Classical.not_not.mp h2) ht⟩
  · refine ⟨Fr.rf, ?_⟩
    unfold grc
    rw [if_neg (show ¬ ¬ (fGro (famX σ k)).1 = 0 from ht), ← eC]
def Fa_grownCare_I : List AV → Hp → Nat → Nat → List AV → List AV → Hp → Prop := fun as σ0 pc n st ls σ => (match as with
    | [.inr (.inr (.inl (k, 0, 1))), .inr (.inr (.inl (q1, 0, 7))), .inl a2, .inl a3] => False
    | _ => False)
def Fa_grownCare_ct : Nat → Ct := fun n => match n with
  | 0 => St_sumOf_cs
  | 1 => Fo_value_cs
  | 2 => Gh_within_cs
  | _ => Fa_grownCare_cs
set_option maxRecDepth 20000 in
set_option maxHeartbeats 4000000 in
theorem Fa_grownCare_met {l : Launch} {D : va_G} {ad : Nat → Nat} {ca : Nat → ClassId} {L : Nat} {fx : Nat → Int} : ax_MC l D ad ca L fx yX1_grownCare cX1_grownCare 7 (some .int) 3 Fa_grownCare_cs := by
  refine ax_met (oc := 1) (ct := Fa_grownCare_ct) (calls := Fa_grownCare_cl) (bs := Fa_grownCare_bk) (cut := fun pc => false) (f := 5) (I := Fa_grownCare_I) (by decide) rfl rfl Fa_grownCare_ck (List.forall_mem_cons.mpr ⟨ax_cwV St_sumOf_met (by decide) (by decide) rfl (by decide) rfl (ax_m3 152 (by decide +kernel) rfl) St_sumOf_w rfl St_sumOf_ds, List.forall_mem_cons.mpr ⟨ax_cwV Fo_value_met (by decide) (by decide) rfl (by decide) rfl (ax_m3 161 (by decide +kernel) rfl) Fo_value_w rfl Fo_value_ds, List.forall_mem_cons.mpr ⟨ax_cwN Gh_within_met (by decide) (by decide) (by decide) Gh_within_w rfl Gh_within_ds, fun _ h => absurd h List.not_mem_nil⟩⟩⟩) ?_ ?_
  · intro as σ0 hp hH
    match as, hp with
    | [.inr (.inr (.inl (k, 0, 1))), .inr (.inr (.inl (q1, 0, 7))), .inl a2, .inl a3], hp => exact ⟨rfl, Fa_grownCare_p k q1 a2 a3 σ0 hH hp⟩
  · intro as σ0 hp n pc st ls σ hH hI
    match as, hp, hI with
    | [.inr (.inr (.inl (k, 0, 1))), .inr (.inr (.inl (q1, 0, 7))), .inl a2, .inl a3], hp, hI => exact False.elim hI
