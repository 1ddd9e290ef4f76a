-- THE OUTLOOK: the fewest things to be forgotten
def kfr (w : Nat → Int) (x p : Nat) : Nat → Nat
  | 0 => 0
  | o + 1 => kfr w x p o ||| (if (bt (w p) o && !x.testBit (ix w p o)) = true then 2 ^ o else 0)
theorem kfr_s (w : Nat → Int) (x p o : Nat) : kfr w x p (o + 1) = kfr w x p o ||| (if (bt (w p) o && !x.testBit (ix w p o)) = true then 2 ^ o else 0) := rfl
theorem kfr_t (w : Nat → Int) (x p : Nat) : ∀ m o, (kfr w x p m).testBit o = (decide (o < m) && (bt (w p) o && !x.testBit (ix w p o))) := by
  intro m
  induction m with
  | zero => intro o; rw [show kfr w x p 0 = 0 from rfl, Nat.zero_testBit]; simp
  | succ m ih =>
    intro o
    rw [kfr_s, Nat.testBit_or, ih o]
    by_cases e : o = m
    · subst e
      by_cases z : (bt (w p) o && !x.testBit (ix w p o)) = true
      · rw [if_pos z, Nat.testBit_two_pow, z]; simp
      · rw [if_neg z, Nat.zero_testBit, Bool.eq_false_iff.mpr z]; simp
    · have h1 : decide (o < m + 1) = decide (o < m) := by
        by_cases y : o < m
        · simp [y]; omega
        · simp [y]; omega
      rw [h1]
      by_cases z : (bt (w p) m && !x.testBit (ix w p m)) = true
      · rw [if_pos z, Nat.testBit_two_pow]
        have : decide (m = o) = false := by simp; omega
        rw [this, Bool.or_false]
      · rw [if_neg z, Nat.zero_testBit, Bool.or_false]
theorem kfr_lt (w : Nat → Int) (x p m : Nat) : kfr w x p m < 2 ^ m := by
  induction m with
  | zero => exact Nat.one_pos
  | succ m ih =>
    rw [kfr_s]
    apply Nat.or_lt_two_pow
    · exact Nat.lt_of_lt_of_le ih (Nat.pow_le_pow_right (by decide) (by omega))
    · split
      · exact Nat.pow_lt_pow_right (by decide) (by omega)
      · exact Nat.two_pow_pos _
theorem kfr_sub (w : Nat → Int) (x p : Nat) : ndf (kfr w x p 6) (w p).toNat = 0 := by
  apply Nat.eq_of_testBit_eq
  intro o
  rw [ndf_t, kfr_t, Nat.zero_testBit]
  show (decide (o < 6) && (bt (w p) o && !x.testBit (ix w p o)) && !bt (w p) o) = false
  cases bt (w p) o <;> simp
/-- the state with these of the knows forgotten -/
def kfS (s : Sta) (x : Nat) : Sta := (s.1, (fun p => ((kfr s.2.1 x p 6 : Nat) : Int)), s.2.2)
def hsS (F : Fam) (s : Sta) (x : Nat) : Sta := (grA F (kfS s x), (kfS s x).2.1, s.2.2.1, s.2.2.2.1 + 1, s.2.2.2.2.1, s.2.2.2.2.2)
def husP (F : Fam) (s : Sta) (x : Nat) : Prop := (itr F 0 (kfS s x) 1).2.2.1 = -1
def Hsd (F : Fam) (s : Sta) (x : Nat) : Prop := ∀ p, p < fN F → wry F (hsS F s x) p < fEas F
theorem mwr_none (F : Fam) (s : Sta) : ∀ i, ((mwr F s (-1) i).1 = -1 ∧ (mwr F s (-1) i).2 = fEas F - 1 ∧ ∀ j, j < i → wry F s j < fEas F) ∨ (0 ≤ (mwr F s (-1) i).1 ∧ ∃ j, j < i ∧ fEas F ≤ wry F s j) := by
  intro i
  induction i with
  | zero => exact Or.inl ⟨rfl, rfl, fun j hj => absurd hj (Nat.not_lt_zero j)⟩
  | succ i ih =>
    rw [mwr_s, if_neg (by omega)]
    rcases ih with ⟨h1, h2, h3⟩ | ⟨h1, j, h2, h3⟩
    · by_cases z : (mwr F s (-1) i).2 < wry F s i
      · rw [if_pos z]
        exact Or.inr ⟨by show 0 ≤ (i : Int); omega, i, by omega, by omega⟩
      · rw [if_neg z]
        refine Or.inl ⟨h1, h2, fun j hj => ?_⟩
        by_cases e : j = i
        · subst e; omega
        · exact h3 j (by omega)
    · by_cases z : (mwr F s (-1) i).2 < wry F s i
      · rw [if_pos z]
        exact Or.inr ⟨by show 0 ≤ (i : Int); omega, j, by omega, h3⟩
      · rw [if_neg z]
        exact Or.inr ⟨h1, j, by omega, h3⟩
theorem goes_none (F : Fam) (s : Sta) : goes F s (-1) = -1 ↔ ∀ j, j < fN F → wry F s j < fEas F := by
  unfold goes
  rcases mwr_none F s (fN F) with ⟨h1, -, h3⟩ | ⟨h1, j, h2, h3⟩
  · exact ⟨fun _ => h3, fun _ => h1⟩
  · exact ⟨fun z => by omega, fun z => by have := z j h2; omega⟩
theorem pssC_0 (F : Fam) (s : Sta) : pssC F s 0 = grA F s := by
  funext j
  unfold pssC
  rw [if_neg]
  intro z
  have : bt 0 j = false := by unfold bt; exact Nat.zero_testBit j
  rw [this] at z
  exact absurd z.2 (by decide)
theorem hush_iff {F : Fam} {s : Sta} (h : ¬ (¬ s.2.2.2.2.2 = 0 ∧ ¬ s.2.2.1 = -1)) (x : Nat) : husP F s x ↔ Hsd F s x := by
  unfold husP
  have e : (itr F 0 (kfS s x) 1).2.2.1 = goes F (hsS F s x) (-1) := by
    show (pss F (kfS s x) (nws F (kfS s x) 0) (nwd F (kfS s x) 0)).2.2.1 = _
    unfold nws nwd
    rw [if_neg (by decide), if_neg (by decide)]
    unfold pss
    rw [pssC_0]
    show (if ¬ s.2.2.2.2.2 = 0 ∧ ¬ s.2.2.1 = -1 then s.2.2.1 else _) = _
    rw [if_neg h]
    rfl
  rw [e]
  exact goes_none F (hsS F s x)
theorem hush_not {F : Fam} {s : Sta} (h : ¬ s.2.2.2.2.2 = 0 ∧ ¬ s.2.2.1 = -1) (x : Nat) : ¬ husP F s x := by
  unfold husP
  have e : (itr F 0 (kfS s x) 1).2.2.1 = s.2.2.1 := by
    show (pss F (kfS s x) (nws F (kfS s x) 0) (nwd F (kfS s x) 0)).2.2.1 = _
    unfold pss
    show (if ¬ s.2.2.2.2.2 = 0 ∧ ¬ s.2.2.1 = -1 then s.2.2.1 else _) = _
    rw [if_pos h]
  rw [e]
  exact h.2
theorem sm_extb {c d : Nat → Int} {x : Int} {n : Nat} (h : ∀ j, j < n → bt x j = true → c j = d j) : sm c x n = sm d x n := by
  induction n with
  | zero => rfl
  | succ n ih =>
    rw [sm_s, sm_s, ih (fun j hj => h j (by omega))]
    by_cases z : bt x n = true
    · rw [h n (by omega) z]
    · rw [if_neg z, if_neg z]
theorem wry_ext {F : Fam} {s t : Sta} {p : Nat} (h1 : s.1 p = t.1 p) (h2 : s.2.1 p = t.2.1 p) (h3 : s.2.2.1 = t.2.2.1) (h4 : s.2.2.2.1 = t.2.2.2.1) (h5 : ∀ o, o < 6 → bt (t.2.1 p) o = true → s.1 o = t.1 o) : wry F s p = wry F t p := by
  unfold wry knw
  rw [h1, h2, h3, h4, sm_extb h5]
theorem grc_R {F : Fam} {s : Sta} (h : ∀ j, 0 ≤ s.1 j ∧ s.1 j ≤ 99) (p : Nat) (set : Int) : 0 ≤ grc F s p set ∧ grc F s p set ≤ 99 := by
  unfold grc
  split
  · exact wth_R _ 99 (by decide)
  · exact h p
/-- the trial state holds what would be -/
def TS (σ : Hp) (F : Fam) (s : Sta) (x n : Nat) : Prop := σ 4 2 = s.2.2.1 ∧ σ 4 3 = s.2.2.2.1 + 1 ∧ ∀ p, p < n → σ 5 p = grc F s p (kfr s.2.1 x p 6 : Nat) ∧ σ 6 p = (kfr s.2.1 x p 6 : Nat)
theorem kfr_in {n : Nat} {s : Sta} (h : VN n s) {x p o : Nat} (hb : bt ((kfr s.2.1 x p 6 : Nat) : Int) o = true) : o < n := by
  rw [bt_n, kfr_t] at hb
  cases hq : bt (s.2.1 p) o with
  | false => rw [hq] at hb; simp at hb
  | true => exact (h.2.1 p o hq).2.1
theorem TS.ws {σ : Hp} {F : Fam} {s : Sta} {x : Nat} (h : TS σ F s x (fN F)) (hn : fN F ≤ 6) (hok : OKs 999 s) (hv : VN (fN F) s) {p : Nat} (hp : p < fN F) : WS σ 4 p ∧ wry F (stX σ 4) p = wry F (hsS F s x) p := by
  obtain ⟨h1, h2, h3⟩ := h
  have hl := kfr_lt s.2.1 x p 6
  have hR : ∀ j, j < fN F → 0 ≤ σ (4 + 1) j ∧ σ (4 + 1) j ≤ 99 := by
    intro j hj
    show 0 ≤ σ 5 j ∧ σ 5 j ≤ 99
    rw [(h3 j hj).1]
    exact grc_R hok.1 j _
  refine ⟨⟨hR p hp, ?_, fun j hj hb => hR j ?_⟩, ?_⟩
  · show 0 ≤ σ 6 p ∧ σ 6 p < 64
    rw [(h3 p hp).2]; omega
  · have hb' : bt (σ 6 p) j = true := hb
    rw [(h3 p hp).2] at hb'
    exact kfr_in hv hb'
  · have e1 : ∀ j, j < fN F → (stX σ 4).1 j = (hsS F s x).1 j := by
      intro j hj
      show tr 6 (σ 5) j = grA F (kfS s x) j
      rw [tr_in (by omega), (h3 j hj).1]
      unfold grA
      rw [if_pos hj]
      rfl
    refine wry_ext (e1 p hp) ?_ h1 h2 (fun o ho hb => e1 o ?_)
    · show tr 6 (σ 6) p = ((kfr s.2.1 x p 6 : Nat) : Int)
      rw [tr_in (by omega), (h3 p hp).2]
    · exact kfr_in hv hb
theorem TS.keep {σ σ' : Hp} {F : Fam} {s : Sta} {x n : Nat} (h : TS σ F s x n) (h4 : σ' 4 = σ 4) (h5 : σ' 5 = σ 5) (h6 : σ' 6 = σ 6) : TS σ' F s x n := by
  unfold TS; rw [h4, h5, h6]; exact h
def hs (f : Nat) : List Nat := 3 :: 9 :: sg f 4
def Ou_isHushed_pre (k f q : Nat) (a : Int) (σ : Hp) : Prop := k = 3 ∧ q = 31 ∧ OW σ f ∧ LK σ (stX σ 31).2.1 ∧ kn (stX σ 31).2.1 6 ≤ 12 ∧ TB σ (famX σ f) (stX σ 31) (fN (famX σ f)) ∧ 0 ≤ σ 3 9 ∧ 0 ≤ a ∧ a < 4096
def Ou_isHushed_post (_k f _q : Nat) (a : Int) (σ : Hp) (r : Int) (σ' : Hp) : Prop := Fr (hs f) σ σ' ∧ σ' 3 8 = σ 3 8 ∧ 0 ≤ σ' 3 9 ∧ ((r = 1 ∧ Hsd (famX σ f) (stX σ 31) a.toNat) ∨ (r = 0 ∧ ¬ Hsd (famX σ f) (stX σ 31) a.toNat))
def Ou_isHushed_I3 (_k f _q : Nat) (_a : Int) (σ0 : Hp) (m : Nat) (v4 : Int) (σ : Hp) : Prop := ∃ i : Nat, v4 = i ∧ i ≤ 6 ∧ m = 1000 - i ∧ Fr (hs f) σ0 σ ∧ σ 3 = σ0 3 ∧ ∀ j, j < i → σ 9 j = 0
def Ou_isHushed_I27 (_k f _q : Nat) (a : Int) (σ0 : Hp) (m : Nat) (v4 : Int) (σ : Hp) : Prop := ∃ i : Nat, v4 = i ∧ i ≤ kn (stX σ0 31).2.1 6 ∧ m = 500 - i ∧ Fr (hs f) σ0 σ ∧ σ 3 = σ0 3 ∧ ∀ p, p < 6 → 0 ≤ σ 9 p ∧ σ 9 p < 64 ∧ ∀ o, o < 6 → bt (σ 9 p) o = (bt ((stX σ0 31).2.1 p) o && (decide (ix (stX σ0 31).2.1 p o < i) && !a.toNat.testBit (ix (stX σ0 31).2.1 p o)))
def Ou_isHushed_I109 (_k f _q : Nat) (a : Int) (σ0 : Hp) (m : Nat) (v4 : Int) (σ : Hp) : Prop := ∃ i : Nat, v4 = i ∧ i ≤ fN (famX σ0 f) ∧ m = 200 - i ∧ Fr (hs f) σ0 σ ∧ σ 3 = σ0 3 ∧ (∀ p, p < 6 → σ 9 p = (kfr (stX σ0 31).2.1 a.toNat p 6 : Nat)) ∧ TS σ (famX σ0 f) (stX σ0 31) a.toNat i
def Ou_isHushed_I204 (_k f _q : Nat) (a : Int) (σ0 : Hp) (m : Nat) (v4 : Int) (σ : Hp) : Prop := ∃ i : Nat, v4 = i ∧ i ≤ fN (famX σ0 f) ∧ m = 50 - i ∧ Fr (hs f) σ0 σ ∧ σ 3 = σ0 3 ∧ TS σ (famX σ0 f) (stX σ0 31) a.toNat (fN (famX σ0 f)) ∧ (∀ p : Nat, p < i → ¬ (p : Int) = σ0 3 9 → wry (famX σ0 f) (hsS (famX σ0 f) (stX σ0 31) a.toNat) p < fEas (famX σ0 f)) ∧ (σ0 3 9 < (fN (famX σ0 f) : Int) → wry (famX σ0 f) (hsS (famX σ0 f) (stX σ0 31) a.toNat) (σ0 3 9).toNat < fEas (famX σ0 f))
def Ou_isHushed_bk : List (Nat × List Item) := [(0, [(.iconst 0, 1, [], []), (.istore 4, 2, [], [])]),
  (3, [(.iload 4, 2, [], []), (.bipush 6, 2, [], []), (.if_icmp .ge 17, 3, [24], []), (.aload_n 0, 1, [], []), (.getfield 25, 3, [4, 3, 4, 6, 1, 6], []), (.iload 4, 2, [], []), (.iconst 0, 1, [], []), (.iastore, 1, [], []), (.iinc 4 1, 3, [], []), (.goto (-18), 3, [3], [])]),
  (24, [(.iconst 0, 1, [], []), (.istore 4, 2, [], [])]),
  (27, [(.iload 4, 2, [], []), (.aload_n 0, 1, [], []), (.getfield 86, 3, [4, 8, 0, 0, 0, 0], []), (.if_icmp .ge 49, 3, [82], []), (.iload 4, 2, [], []), (.bipush 12, 2, [], []), (.if_icmp .ge 42, 3, [82], []), (.iload_n 3, 1, [], []), (.iload 4, 2, [], []), (.ishr, 1, [], []), (.iconst 1, 1, [], []), (.iand, 1, [], []), (.ifCond .ne 27, 3, [76], []), (.aload_n 0, 1, [], []), (.getfield 25, 3, [4, 3, 4, 6, 1, 6], []), (.aload_n 0, 1, [], []), (.getfield 18, 3, [4, 1, 4, 4, 1, 12], []), (.iload 4, 2, [], []), (.iaload, 1, [], []), (.dup2, 1, [], []), (.iaload, 1, [], []), (.iconst 1, 1, [], []), (.aload_n 0, 1, [], []), (.getfield 22, 3, [4, 2, 4, 5, 1, 12], []), (.iload 4, 2, [], []), (.iaload, 1, [], []), (.ishl, 1, [], []), (.ior, 1, [], []), (.iastore, 1, [], [])]),
  (76, [(.iinc 4 1, 3, [], []), (.goto (-52), 3, [27], [])]),
  (82, [(.aload_n 0, 1, [], []), (.getfield 12, 3, [4, 0, 4, 1, 0, 7], []), (.aload_n 2, 1, [], []), (.getfield 65, 3, [7, 2, 0, 0, 0, 0], []), (.putfield 65, 3, [7, 2, 0, 0, 0, 0], []), (.aload_n 0, 1, [], []), (.getfield 12, 3, [4, 0, 4, 1, 0, 7], []), (.aload_n 2, 1, [], []), (.getfield 104, 3, [7, 3, 0, 0, 0, 0], []), (.iconst 1, 1, [], []), (.iadd, 1, [], []), (.putfield 104, 3, [7, 3, 0, 0, 0, 0], []), (.iconst 0, 1, [], []), (.istore 4, 2, [], [])]),
  (109, [(.iload 4, 2, [], []), (.aload_n 1, 1, [], []), (.getfield 50, 3, [1, 9, 0, 0, 0, 0], []), (.if_icmp .ge 54, 3, [169], []), (.aload_n 0, 1, [], []), (.getfield 12, 3, [4, 0, 4, 1, 0, 7], []), (.getfield 58, 3, [7, 0, 4, 1, 1, 6], []), (.iload 4, 2, [], []), (.aload_n 0, 1, [], []), (.getfield 28, 3, [4, 4, 4, 7, 1, 384], []), (.iload 4, 2, [], []), (.bipush 64, 2, [], []), (.imul, 1, [], []), (.aload_n 0, 1, [], []), (.getfield 25, 3, [4, 3, 4, 6, 1, 6], []), (.iload 4, 2, [], []), (.iaload, 1, [], []), (.iadd, 1, [], []), (.iaload, 1, [], []), (.iastore, 1, [], []), (.aload_n 0, 1, [], []), (.getfield 12, 3, [4, 0, 4, 1, 0, 7], []), (.getfield 97, 3, [7, 1, 4, 2, 1, 6], []), (.iload 4, 2, [], []), (.aload_n 0, 1, [], []), (.getfield 25, 3, [4, 3, 4, 6, 1, 6], []), (.iload 4, 2, [], []), (.iaload, 1, [], []), (.iastore, 1, [], []), (.iinc 4 1, 3, [], []), (.goto (-57), 3, [109], [])]),
  (169, [(.aload_n 0, 1, [], []), (.getfield 79, 3, [4, 9, 0, 0, 0, 0], []), (.aload_n 1, 1, [], []), (.getfield 50, 3, [1, 9, 0, 0, 0, 0], []), (.if_icmp .ge 24, 3, [201], []), (.aload_n 1, 1, [], []), (.aload_n 0, 1, [], []), (.getfield 12, 3, [4, 0, 4, 1, 0, 7], []), (.aload_n 0, 1, [], []), (.getfield 79, 3, [4, 9, 0, 0, 0, 0], []), (.invokevirtual 107, 3, [0], []), (.aload_n 1, 1, [], []), (.getfield 111, 3, [1, 12, 0, 0, 0, 0], []), (.if_icmp .lt 5, 3, [201], []), (.iconst 0, 1, [], []), (.ireturn, 1, [], [])]),
  (201, [(.iconst 0, 1, [], []), (.istore 4, 2, [], [])]),
  (204, [(.iload 4, 2, [], []), (.aload_n 1, 1, [], []), (.getfield 50, 3, [1, 9, 0, 0, 0, 0], []), (.if_icmp .ge 43, 3, [253], []), (.iload 4, 2, [], []), (.aload_n 0, 1, [], []), (.getfield 79, 3, [4, 9, 0, 0, 0, 0], []), (.if_icmp .eq 28, 3, [247], []), (.aload_n 1, 1, [], []), (.aload_n 0, 1, [], []), (.getfield 12, 3, [4, 0, 4, 1, 0, 7], []), (.iload 4, 2, [], []), (.invokevirtual 107, 3, [0], []), (.aload_n 1, 1, [], []), (.getfield 111, 3, [1, 12, 0, 0, 0, 0], []), (.if_icmp .lt 11, 3, [247], []), (.aload_n 0, 1, [], []), (.iload 4, 2, [], []), (.putfield 79, 3, [4, 9, 0, 0, 0, 0], []), (.iconst 0, 1, [], []), (.ireturn, 1, [], [])]),
  (247, [(.iinc 4 1, 3, [], []), (.goto (-46), 3, [204], [])]),
  (253, [(.iconst 1, 1, [], []), (.ireturn, 1, [], [])])]
def Ou_isHushed_cl : List (Instr × Nat) := [(.invokevirtual 107, 0)]
set_option maxRecDepth 20000 in
theorem Ou_isHushed_ck : Ou_isHushed_bk.all (fun b => ax_chB 4 5 cX4_isHushed Ou_isHushed_cl b.1 b.2) = true := by decide +kernel
def Ou_isHushed_cs : Ct := (4, 5, 2, (0, 0), fun as σ => (match as with
    | [.inr (.inr (.inl (k, 0, 4))), .inr (.inr (.inl (q1, 0, 1))), .inr (.inr (.inl (q2, 0, 7))), .inl a3] => Ou_isHushed_pre k q1 q2 a3 σ
    | _ => False), fun as σ r σ' => (match as with
    | [.inr (.inr (.inl (k, 0, 4))), .inr (.inr (.inl (q1, 0, 1))), .inr (.inr (.inl (q2, 0, 7))), .inl a3] => Ou_isHushed_post k q1 q2 a3 σ r σ'
    | _ => False))
theorem Ou_isHushed_w : ∀ w ∈ ([.instanceMethod yX4_isHushed, .selects yX4_isHushed.cls yX4_isHushed yX4_isHushed, .initialized yX4_isHushed.cls, .code yX4_isHushed cX4_isHushed 5 (some .boolean)] : List Cond), w ∈ ax_tb := ax_w4 (ax_m4 142 (by decide +kernel) rfl) (ax_m4 143 (by decide +kernel) rfl) (ax_m1 3 (by decide +kernel) rfl) (ax_m4 144 (by decide +kernel) rfl)
theorem Ou_isHushed_ds : yX4_isHushed.cls ≠ "java/lang/invoke/MethodHandle" ∧ yX4_isHushed.cls ≠ "java/lang/invoke/VarHandle" ∧ (parseMethodDescriptor yX4_isHushed.desc).map (fun d => d.parameters.length) = some 3 := by decide +kernel
def Ou_isHushed_vc : Prop := ∀ (k : Nat) (q1 : Nat) (q2 : Nat) (a3 : Int) (σ : Hp), ax_H σ → Ou_isHushed_pre k q1 q2 a3 σ →
  ∃ n' : Nat, k = k ∧ q1 = q1 ∧ q2 = q2 ∧ a3 = a3 ∧ Ou_isHushed_I3 k q1 q2 a3 σ n' 0 σ
def Ou_isHushed_vc3 : Prop := ∀ (k : Nat) (q1 : Nat) (q2 : Nat) (a3 : Int) (σ0 : Hp), Ou_isHushed_pre k q1 q2 a3 σ0 → ∀ (n : Nat) (v4 : Int) (σ : Hp), ax_H σ → Ou_isHushed_I3 k q1 q2 a3 σ0 n v4 σ →
  (6 ≤ v4 →
    ∃ n' : Nat, n' < n ∧ k = k ∧ q1 = q1 ∧ q2 = q2 ∧ a3 = a3 ∧ Ou_isHushed_I27 k q1 q2 a3 σ0 n' 0 σ) ∧
  (¬ (6 ≤ v4) →
    (0 ≤ v4 ∧ v4 < 6) ∧
    ∀ σ1 : Hp, σ1 = hp σ (k + 6) v4.toNat 0 →
    ∃ n' : Nat, n' < n ∧ k = k ∧ q1 = q1 ∧ q2 = q2 ∧ a3 = a3 ∧ Ou_isHushed_I3 k q1 q2 a3 σ0 n' (wr (v4 + 1)) σ1)
def Ou_isHushed_vc27 : Prop := ∀ (k : Nat) (q1 : Nat) (q2 : Nat) (a3 : Int) (σ0 : Hp), Ou_isHushed_pre k q1 q2 a3 σ0 → ∀ (n : Nat) (v4 : Int) (σ : Hp), ax_H σ → Ou_isHushed_I27 k q1 q2 a3 σ0 n v4 σ →
  (σ k 8 ≤ v4 →
    ∀ σ1 : Hp, σ1 = hp σ (k + 1) 2 (σ q2 2) →
    ∀ σ2 : Hp, σ2 = hp σ1 (k + 1) 3 (wr ((σ1 q2 3) + 1)) →
    ∃ n' : Nat, n' < n ∧ k = k ∧ q1 = q1 ∧ q2 = q2 ∧ a3 = a3 ∧ Ou_isHushed_I109 k q1 q2 a3 σ0 n' 0 σ2) ∧
  (¬ (σ k 8 ≤ v4) →
    (12 ≤ v4 →
      ∀ σ3 : Hp, σ3 = hp σ (k + 1) 2 (σ q2 2) →
      ∀ σ4 : Hp, σ4 = hp σ3 (k + 1) 3 (wr ((σ3 q2 3) + 1)) →
      ∃ n' : Nat, n' < n ∧ k = k ∧ q1 = q1 ∧ q2 = q2 ∧ a3 = a3 ∧ Ou_isHushed_I109 k q1 q2 a3 σ0 n' 0 σ4) ∧
    (¬ (12 ≤ v4) →
      (¬ iAnd (iShr a3 v4) 1 = 0 →
        ∃ n' : Nat, n' < n ∧ k = k ∧ q1 = q1 ∧ q2 = q2 ∧ a3 = a3 ∧ Ou_isHushed_I27 k q1 q2 a3 σ0 n' (wr (v4 + 1)) σ) ∧
      (¬ (¬ iAnd (iShr a3 v4) 1 = 0) →
        (0 ≤ v4 ∧ v4 < 12) ∧
        (0 ≤ σ (k + 4) v4.toNat ∧ σ (k + 4) v4.toNat < 6) ∧
        (0 ≤ v4 ∧ v4 < 12) ∧
        (0 ≤ σ (k + 4) v4.toNat ∧ σ (k + 4) v4.toNat < 6) ∧
        ∀ σ5 : Hp, σ5 = hp σ (k + 6) (σ (k + 4) v4.toNat).toNat (iOr (σ (k + 6) (σ (k + 4) v4.toNat).toNat) (iShl 1 (σ (k + 5) v4.toNat))) →
        ∃ n' : Nat, n' < n ∧ k = k ∧ q1 = q1 ∧ q2 = q2 ∧ a3 = a3 ∧ Ou_isHushed_I27 k q1 q2 a3 σ0 n' (wr (v4 + 1)) σ5)))
def Ou_isHushed_vc109 : Prop := ∀ (k : Nat) (q1 : Nat) (q2 : Nat) (a3 : Int) (σ0 : Hp), Ou_isHushed_pre k q1 q2 a3 σ0 → ∀ (n : Nat) (v4 : Int) (σ : Hp), ax_H σ → Ou_isHushed_I109 k q1 q2 a3 σ0 n v4 σ →
  (σ q1 9 ≤ v4 →
    (σ q1 9 ≤ σ k 9 →
      ∃ n' : Nat, n' < n ∧ k = k ∧ q1 = q1 ∧ q2 = q2 ∧ a3 = a3 ∧ Ou_isHushed_I204 k q1 q2 a3 σ0 n' 0 σ) ∧
    (¬ (σ q1 9 ≤ σ k 9) →
      Fa_worryOf_pre q1 (k + 1) (σ k 9) σ ∧
      ∀ (r2 : Int) (σ1 : Hp), Fa_worryOf_post q1 (k + 1) (σ k 9) σ r2 σ1 →
      (r2 < σ1 q1 12 →
        ∃ n' : Nat, n' < n ∧ k = k ∧ q1 = q1 ∧ q2 = q2 ∧ a3 = a3 ∧ Ou_isHushed_I204 k q1 q2 a3 σ0 n' 0 σ1) ∧
      (¬ (r2 < σ1 q1 12) →
        ((0 : Int) = 0 ∨ (0 : Int) = 1) ∧ Ou_isHushed_post k q1 q2 a3 σ0 0 σ1))) ∧
  (¬ (σ q1 9 ≤ v4) →
    (0 ≤ v4 ∧ v4 < 6) ∧
    (0 ≤ wr ((wr (v4 * 64)) + (σ (k + 6) v4.toNat)) ∧ wr ((wr (v4 * 64)) + (σ (k + 6) v4.toNat)) < 384) ∧
    (0 ≤ v4 ∧ v4 < 6) ∧
    ∀ σ3 : Hp, σ3 = hp σ (k + 2) v4.toNat (σ (k + 7) (wr ((wr (v4 * 64)) + (σ (k + 6) v4.toNat))).toNat) →
    (0 ≤ v4 ∧ v4 < 6) ∧
    (0 ≤ v4 ∧ v4 < 6) ∧
    ∀ σ4 : Hp, σ4 = hp σ3 (k + 3) v4.toNat (σ3 (k + 6) v4.toNat) →
    ∃ n' : Nat, n' < n ∧ k = k ∧ q1 = q1 ∧ q2 = q2 ∧ a3 = a3 ∧ Ou_isHushed_I109 k q1 q2 a3 σ0 n' (wr (v4 + 1)) σ4)
def Ou_isHushed_vc204 : Prop := ∀ (k : Nat) (q1 : Nat) (q2 : Nat) (a3 : Int) (σ0 : Hp), Ou_isHushed_pre k q1 q2 a3 σ0 → ∀ (n : Nat) (v4 : Int) (σ : Hp), ax_H σ → Ou_isHushed_I204 k q1 q2 a3 σ0 n v4 σ →
  (σ q1 9 ≤ v4 →
    ((1 : Int) = 0 ∨ (1 : Int) = 1) ∧ Ou_isHushed_post k q1 q2 a3 σ0 1 σ) ∧
  (¬ (σ q1 9 ≤ v4) →
    (v4 = σ k 9 →
      ∃ n' : Nat, n' < n ∧ k = k ∧ q1 = q1 ∧ q2 = q2 ∧ a3 = a3 ∧ Ou_isHushed_I204 k q1 q2 a3 σ0 n' (wr (v4 + 1)) σ) ∧
    (¬ (v4 = σ k 9) →
      Fa_worryOf_pre q1 (k + 1) v4 σ ∧
      ∀ (r2 : Int) (σ1 : Hp), Fa_worryOf_post q1 (k + 1) v4 σ r2 σ1 →
      (r2 < σ1 q1 12 →
        ∃ n' : Nat, n' < n ∧ k = k ∧ q1 = q1 ∧ q2 = q2 ∧ a3 = a3 ∧ Ou_isHushed_I204 k q1 q2 a3 σ0 n' (wr (v4 + 1)) σ1) ∧
      (¬ (r2 < σ1 q1 12) →
        ∀ σ3 : Hp, σ3 = hp σ1 k 9 v4 →
        ((0 : Int) = 0 ∨ (0 : Int) = 1) ∧ Ou_isHushed_post k q1 q2 a3 σ0 0 σ3)))
theorem chs {f : Nat} : ∀ c ∈ hs f, c ∈ sg f 4 ∨ c = 3 ∨ (7 ≤ c ∧ c ≤ 13) ∨ c = 34 := by
  intro c hc
  rcases List.mem_cons.mp hc with rfl | hc
  · exact Or.inr (Or.inl rfl)
  · rcases List.mem_cons.mp hc with rfl | hc
    · exact Or.inr (Or.inr (Or.inl ⟨by decide, by decide⟩))
    · exact Or.inl hc
theorem hs_no {f c : Nat} (hk : FO f) (h : c = 7 ∨ c = 8 ∨ c = 10 ∨ (31 ≤ c ∧ c < 35)) : c ∉ hs f := by
  intro z
  simp only [hs, sg, List.mem_cons, List.not_mem_nil, or_false] at z
  rcases hk with rfl | rfl <;> omega
theorem hs_in {f c : Nat} (h : c = 3 ∨ c = 9 ∨ c = 4 ∨ c = 5 ∨ c = 6) : c ∈ hs f := by
  simp only [hs, sg, List.mem_cons, List.not_mem_nil, or_false]
  omega
theorem Ou_isHushed_p : Ou_isHushed_vc := by
  intro k f q a σ hH hp
  exact ⟨1000, rfl, rfl, rfl, rfl, 0, rfl, by omega, rfl, Fr.rf, rfl, fun j hj => absurd hj (Nat.not_lt_zero j)⟩
theorem Ou_isHushed_p3 : Ou_isHushed_vc3 := by
  intro k f q a σ0 hp m v4 σ hH hI
  obtain ⟨rfl, rfl, hW, hL, h12, hT, hs0, a0, a1⟩ := hp
  obtain ⟨i, rfl, hi, rfl, hf, h3, hr⟩ := hI
  refine ⟨fun h => ⟨500, by omega, rfl, rfl, rfl, rfl, 0, rfl, by omega, rfl, hf, h3, fun p hp => ?_⟩, fun h => ⟨⟨by omega, by omega⟩, ?_⟩⟩
  · rw [hr p (by omega)]
    refine ⟨by omega, by omega, fun o ho => ?_⟩
    have : bt 0 o = false := by unfold bt; exact Nat.zero_testBit o
    rw [this]; simp
  · rintro σ1 rfl
    rw [Int.toNat_natCast, wr1 (by omega) (by omega)]
    refine ⟨1000 - (i + 1), by omega, rfl, rfl, rfl, rfl, i + 1, by simp, by omega, rfl, Fr.hp hf (hs_in (by omega)), ?_, fun j hj => ?_⟩
    · rw [hp_ne (show (3 : Nat) ≠ 3 + 6 by decide)]; exact h3
    · rw [hp_rd]
      by_cases e : j = i
      · rw [if_pos ⟨rfl, e⟩]
      · rw [if_neg (fun z => e z.2)]; exact hr j (by omega)
theorem Ou_isHushed_p27 : Ou_isHushed_vc27 := by
  intro k f q a σ0 hp m v4 σ hH hI
  obtain ⟨rfl, rfl, hW, hL, h12, hT, hs0, a0, a1⟩ := hp
  obtain ⟨i, rfl, hi, rfl, hf, h3, hr⟩ := hI
  have e8 : σ 3 8 = (kn (stX σ0 31).2.1 6 : Nat) := by rw [h3]; exact hL.1
  have e31 : σ 31 = σ0 31 := hf 31 (hs_no hW.1 (by omega))
  have hday : 0 ≤ σ0 31 3 ∧ σ0 31 3 ≤ 999 := hW.2.2.1.2.2.1
  have go : ((kn (stX σ0 31).2.1 6 : Nat) : Int) ≤ (i : Int) → ∀ σ1 : Hp, σ1 = hp σ (3 + 1) 2 (σ 31 2) → ∀ σ2 : Hp, σ2 = hp σ1 (3 + 1) 3 (wr ((σ1 31 3) + 1)) → ∃ n' : Nat, n' < 500 - i ∧ (3 : Nat) = 3 ∧ f = f ∧ (31 : Nat) = 31 ∧ a = a ∧ Ou_isHushed_I109 3 f 31 a σ0 n' 0 σ2 := by
    intro hle
    rintro σ1 rfl σ2 rfl
    rw [hp_ne (show (31 : Nat) ≠ 3 + 1 by decide), e31, wr1 hday.1 (by omega)]
    refine ⟨200, by omega, rfl, rfl, rfl, rfl, 0, rfl, by omega, rfl, Fr.hp (Fr.hp hf (hs_in (by omega))) (hs_in (by omega)), ?_, fun p hp => ?_, ?_, ?_, fun p hp => absurd hp (Nat.not_lt_zero p)⟩
    · rw [hp_ne (show (3 : Nat) ≠ 3 + 1 by decide), hp_ne (show (3 : Nat) ≠ 3 + 1 by decide)]; exact h3
    · rw [hp_ne (show (9 : Nat) ≠ 3 + 1 by decide), hp_ne (show (9 : Nat) ≠ 3 + 1 by decide)]
      obtain ⟨q1, q2, q3⟩ := hr p hp
      obtain ⟨z, hz⟩ := Int.eq_ofNat_of_zero_le q1
      rw [hz] at q2 q3 ⊢
      have : z = kfr (stX σ0 31).2.1 a.toNat p 6 := by
        apply Nat.eq_of_testBit_eq
        intro o
        rw [kfr_t]
        by_cases ho : o < 6
        · have q4 := q3 o ho
          rw [bt_n] at q4
          rw [q4]
          cases hb : bt ((stX σ0 31).2.1 p) o with
          | false => simp
          | true =>
            have hlt := ix_lt hp (show o < 12 by omega) hb
            have d1 : decide (ix (stX σ0 31).2.1 p o < i) = true := decide_eq_true (by omega)
            rw [d1]; simp [ho]
        · rw [Nat.testBit_lt_two_pow (Nat.lt_of_lt_of_le (show z < 2 ^ 6 by omega) (Nat.pow_le_pow_right (by decide) (by omega)))]
          simp [ho]
      rw [this]
    · rw [hp_r2 (by omega)]; exact hp_r1
    · exact hp_r1
  rw [e8]
  refine ⟨go, fun h => ⟨fun h2 => absurd h2 (by omega), fun h2 => ?_⟩⟩
  obtain ⟨p0, o0, hp0, ho0, h7, h8, hb0, hix⟩ := hL.2 i (by omega)
  have e7 : σ 7 = σ0 7 := hf 7 (hs_no hW.1 (by omega))
  have e8' : σ 8 = σ0 8 := hf 8 (hs_no hW.1 (by omega))
  rw [bit_t a0 (by omega) (by omega) (by omega), Int.toNat_natCast, wr1 (by omega) (by omega)]
  have hx : bt a i = a.toNat.testBit i := rfl
  have key : ∀ (p o : Nat), o < 6 → ¬ (p = p0 ∧ o = o0) → (bt ((stX σ0 31).2.1 p) o && (decide (ix (stX σ0 31).2.1 p o < i + 1) && !a.toNat.testBit (ix (stX σ0 31).2.1 p o))) = (bt ((stX σ0 31).2.1 p) o && (decide (ix (stX σ0 31).2.1 p o < i) && !a.toNat.testBit (ix (stX σ0 31).2.1 p o))) := by
    intro p o ho hne
    cases hb : bt ((stX σ0 31).2.1 p) o with
    | false => rfl
    | true =>
      have hni : ¬ ix (stX σ0 31).2.1 p o = i := fun z => hne (ix_inj (by omega) (by omega) hb hb0 (by omega))
      have d1 : decide (ix (stX σ0 31).2.1 p o < i + 1) = decide (ix (stX σ0 31).2.1 p o < i) := by
        by_cases y : ix (stX σ0 31).2.1 p o < i
        · simp [y]; omega
        · simp [y]; omega
      rw [d1]
  refine ⟨fun h3' => ⟨500 - (i + 1), by omega, rfl, rfl, rfl, rfl, i + 1, by simp, by omega, rfl, hf, h3, fun p hp => ⟨(hr p hp).1, (hr p hp).2.1, fun o ho => ?_⟩⟩, fun h3' => ⟨⟨by omega, by omega⟩, ?_⟩⟩
  · have hxt : a.toNat.testBit i = true := by
      rw [hx] at h3'
      cases hq : a.toNat.testBit i with
      | true => rfl
      | false => rw [hq] at h3'; exact absurd rfl h3'
    rw [(hr p hp).2.2 o ho]
    by_cases e : p = p0 ∧ o = o0
    · obtain ⟨rfl, rfl⟩ := e
      rw [hix, hxt]; simp
    · exact (key p o ho e).symm
  · have hxf : a.toNat.testBit i = false := by
      rw [hx] at h3'
      cases hq : a.toNat.testBit i with
      | false => rfl
      | true => rw [hq] at h3'; exact absurd (by simp) h3'
    have e7i : σ (3 + 4) i = (p0 : Int) := by show σ 7 i = _; rw [e7]; exact h7
    have e8i : σ (3 + 5) i = (o0 : Int) := by show σ 8 i = _; rw [e8']; exact h8
    rw [e7i, e8i, Int.toNat_natCast]
    refine ⟨⟨by omega, by omega⟩, ⟨by omega, by omega⟩, ⟨by omega, by omega⟩, ?_⟩
    rintro σ5 rfl
    obtain ⟨q1, q2, q3⟩ := hr p0 hp0
    obtain ⟨z, hz⟩ := Int.eq_ofNat_of_zero_le q1
    have hz' : σ (3 + 6) p0 = (z : Int) := hz
    rw [hz', shl_1 (by omega) (by omega), Int.toNat_natCast, iOr_n (by omega) (Nat.pow_lt_pow_right (by decide) (by omega))]
    have hzl : z ||| 2 ^ o0 < 2 ^ 6 := Nat.or_lt_two_pow (by omega) (Nat.pow_lt_pow_right (by decide) (by omega))
    refine ⟨500 - (i + 1), by omega, rfl, rfl, rfl, rfl, i + 1, by simp, by omega, rfl, Fr.hp hf (hs_in (by omega)), ?_, fun p hp => ?_⟩
    · rw [hp_ne (show (3 : Nat) ≠ 3 + 6 by decide)]; exact h3
    · by_cases e : p = p0
      · subst e
        rw [hp_r1]
        refine ⟨by omega, by omega, fun o ho => ?_⟩
        rw [bt_n, Nat.testBit_or, Nat.testBit_two_pow]
        by_cases eo : o = o0
        · subst eo
          rw [hix, hxf, hb0]; simp
        · rw [key p o ho (fun y => eo y.2), ← q3 o ho, hz, bt_n]
          have : decide (o0 = o) = false := by simp; omega
          rw [this, Bool.or_false]
      · rw [hp_r2 (by omega)]
        obtain ⟨t1, t2, t3⟩ := hr p hp
        exact ⟨t1, t2, fun o ho => by rw [key p o ho (fun y => e y.1)]; exact t3 o ho⟩
theorem Ou_isHushed_p109 : Ou_isHushed_vc109 := by
  intro k f q a σ0 hp m v4 σ hH hI
  obtain ⟨rfl, rfl, hW, hL, h12, hT, hs0, a0, a1⟩ := hp
  obtain ⟨i, rfl, hi, rfl, hf, h3, h9, hTS⟩ := hI
  have hn6 := hW.2.1.n6
  obtain ⟨hW1, hfam, hnow⟩ := hW.keep hf chs
  have hk := hW.1
  rw [hW1.2.1.e9, hfam, h3]
  refine ⟨fun h => ?_, fun h => ?_⟩
  · have ei : i = fN (famX σ0 f) := by omega
    rw [ei] at hTS
    refine ⟨fun h2 => ⟨50, by omega, rfl, rfl, rfl, rfl, 0, rfl, by omega, rfl, hf, h3, hTS, fun p hp => absurd hp (Nat.not_lt_zero p), fun z => absurd z (by omega)⟩, fun h2 => ?_⟩
    obtain ⟨w1, w2⟩ := hTS.ws hn6 hW.2.2.1 hW.2.2.2 (p := (σ0 3 9).toNat) (by omega)
    refine ⟨⟨hk, Or.inl rfl, hs0, by omega, hW1.2.1, w1⟩, ?_⟩
    rintro r2 σ1 ⟨g1, rfl⟩
    have ef : σ1 f = σ f := g1 f (by intro z; simp only [sc, List.mem_cons, List.not_mem_nil, or_false] at z; omega)
    have g1' : Fr (hs f) σ σ1 := g1.mono (fun c hc => List.mem_cons_of_mem _ (List.mem_cons_of_mem _ (sc_in hc)))
    have ee : σ f 12 = fEas (famX σ0 f) := by rw [← hfam]; rfl
    rw [hfam, ef, ee]
    have ew : wry (famX σ0 f) (stX σ (3 + 1)) (σ0 3 9).toNat = wry (famX σ0 f) (hsS (famX σ0 f) (stX σ0 31) a.toNat) (σ0 3 9).toNat := w2
    rw [ew]
    have e3 : σ1 3 = σ 3 := g1 3 (fo_sc hk (by decide))
    refine ⟨fun h4 => ⟨50, by omega, rfl, rfl, rfl, rfl, 0, rfl, by omega, rfl, hf.tr g1', e3.trans h3, hTS.keep (g1 4 (fo_sc hk (by decide))) (g1 5 (fo_sc hk (by decide))) (g1 6 (fo_sc hk (by decide))), fun p hp => absurd hp (Nat.not_lt_zero p), fun _ => h4⟩, fun h4 => ⟨Or.inl rfl, hf.tr g1', by rw [e3, h3], by rw [e3, h3]; exact hs0, Or.inr ⟨rfl, fun z => h4 (z _ (by omega))⟩⟩⟩
  · have e9 : σ (3 + 6) i = (kfr (stX σ0 31).2.1 a.toNat i 6 : Nat) := h9 i (by omega)
    have hl := kfr_lt (stX σ0 31).2.1 a.toNat i 6
    rw [Int.toNat_natCast, e9]
    have ei : wr (wr ((i : Int) * 64) + ((kfr (stX σ0 31).2.1 a.toNat i 6 : Nat) : Int)) = ((i * 64 + kfr (stX σ0 31).2.1 a.toNat i 6 : Nat) : Int) := by
      rw [wr_id (x := (i : Int) * 64) (by omega) (by omega), wr_id (by omega) (by omega)]; simp
    rw [ei, Int.toNat_natCast]
    have e10 : σ (3 + 7) = σ0 10 := hf 10 (hs_no hk (by omega))
    rw [e10, hT i (by omega) _ (by omega) (kfr_sub _ _ _)]
    refine ⟨⟨by omega, by omega⟩, ⟨by omega, by omega⟩, ⟨by omega, by omega⟩, ?_⟩
    rintro σ3 rfl
    rw [hp_ne (show (3 + 6 : Nat) ≠ 3 + 2 by decide), e9]
    refine ⟨⟨by omega, by omega⟩, ⟨by omega, by omega⟩, ?_⟩
    rintro σ4 rfl
    rw [wr1 (by omega) (by omega)]
    refine ⟨200 - (i + 1), by omega, rfl, rfl, rfl, rfl, i + 1, by simp, by omega, rfl, Fr.hp (Fr.hp hf (hs_in (by omega))) (hs_in (by omega)), ?_, fun p hp => ?_, ?_, ?_, fun p hp => ?_⟩
    · rw [hp_ne (show (3 : Nat) ≠ 3 + 3 by decide), hp_ne (show (3 : Nat) ≠ 3 + 2 by decide)]; exact h3
    · rw [hp_ne (show (9 : Nat) ≠ 3 + 3 by decide), hp_ne (show (9 : Nat) ≠ 3 + 2 by decide)]; exact h9 p hp
    · rw [hp_ne (show (4 : Nat) ≠ 3 + 3 by decide), hp_ne (show (4 : Nat) ≠ 3 + 2 by decide)]; exact hTS.1
    · rw [hp_ne (show (4 : Nat) ≠ 3 + 3 by decide), hp_ne (show (4 : Nat) ≠ 3 + 2 by decide)]; exact hTS.2.1
    · rw [hp_ne (show (5 : Nat) ≠ 3 + 3 by decide), hp_rd, hp_rd]
      by_cases e : p = i
      · subst e
        rw [if_pos ⟨rfl, rfl⟩, if_pos ⟨rfl, rfl⟩]
        exact ⟨rfl, rfl⟩
      · rw [if_neg (fun z => e z.2), if_neg (fun z => e z.2), hp_ne (show (6 : Nat) ≠ 3 + 2 by decide)]
        exact hTS.2.2 p (by omega)
theorem Ou_isHushed_p204 : Ou_isHushed_vc204 := by
  intro k f q a σ0 hp m v4 σ hH hI
  obtain ⟨rfl, rfl, hW, hL, h12, hT, hs0, a0, a1⟩ := hp
  obtain ⟨i, rfl, hi, rfl, hf, h3, hTS, hno, hsus⟩ := hI
  have hn6 := hW.2.1.n6
  obtain ⟨hW1, hfam, hnow⟩ := hW.keep hf chs
  have hk := hW.1
  rw [hW1.2.1.e9, hfam, h3]
  refine ⟨fun h => ⟨Or.inr rfl, hf, by rw [h3], by rw [h3]; exact hs0, Or.inl ⟨rfl, fun p hp => ?_⟩⟩, fun h => ⟨fun h2 => ?_, fun h2 => ?_⟩⟩
  · by_cases e : (p : Int) = σ0 3 9
    · have := hsus (by omega)
      rw [← e, Int.toNat_natCast] at this
      exact this
    · exact hno p (by omega) e
  · refine ⟨50 - (i + 1), by omega, rfl, rfl, rfl, rfl, i + 1, by rw [wr1 (by omega) (by omega)]; simp, by omega, rfl, hf, h3, hTS, fun p hp hne => ?_, hsus⟩
    by_cases e : p = i
    · subst e; exact absurd h2 hne
    · exact hno p (by omega) hne
  · obtain ⟨w1, w2⟩ := hTS.ws hn6 hW.2.2.1 hW.2.2.2 (p := i) (by omega)
    refine ⟨⟨hk, Or.inl rfl, by omega, by omega, hW1.2.1, by rw [Int.toNat_natCast]; exact w1⟩, ?_⟩
    rintro r2 σ1 ⟨g1, rfl⟩
    have ef : σ1 f = σ f := g1 f (by intro z; simp only [sc, List.mem_cons, List.not_mem_nil, or_false] at z; omega)
    have g1' : Fr (hs f) σ σ1 := g1.mono (fun c hc => List.mem_cons_of_mem _ (List.mem_cons_of_mem _ (sc_in hc)))
    have ee : σ f 12 = fEas (famX σ0 f) := by rw [← hfam]; rfl
    rw [hfam, ef, ee, Int.toNat_natCast]
    have ew : wry (famX σ0 f) (stX σ (3 + 1)) i = wry (famX σ0 f) (hsS (famX σ0 f) (stX σ0 31) a.toNat) i := w2
    rw [ew]
    have e3 : σ1 3 = σ 3 := g1 3 (fo_sc hk (by decide))
    refine ⟨fun h4 => ⟨50 - (i + 1), by omega, rfl, rfl, rfl, rfl, i + 1, by rw [wr1 (by omega) (by omega)]; simp, by omega, rfl, hf.tr g1', e3.trans h3, hTS.keep (g1 4 (fo_sc hk (by decide))) (g1 5 (fo_sc hk (by decide))) (g1 6 (fo_sc hk (by decide))), fun p hp hne => ?_, hsus⟩, fun h4 => ?_⟩
    · by_cases e : p = i
      · subst e; exact h4
      · exact hno p (by omega) hne
    · rintro σ3 rfl
      refine ⟨Or.inl rfl, Fr.hp (hf.tr g1') (hs_in (by omega)), by rw [hp_r2 (by omega), e3, h3], by rw [hp_r1]; omega, Or.inr ⟨rfl, fun z => h4 (z i (by omega))⟩⟩
def Ou_isHushed_I : List AV → Hp → Nat → Nat → List AV → List AV → Hp → Prop := fun as σ0 pc n st ls σ => (match as with
    | [.inr (.inr (.inl (k, 0, 4))), .inr (.inr (.inl (q1, 0, 1))), .inr (.inr (.inl (q2, 0, 7))), .inl a3] => (bif Nat.beq pc 3 then (match st, ls with
      | [], [.inr (.inr (.inl (k', 0, 4))), .inr (.inr (.inl (q1', 0, 1))), .inr (.inr (.inl (q2', 0, 7))), .inl a3', .inl v4] => k = k' ∧ q1 = q1' ∧ q2 = q2' ∧ a3 = a3' ∧ Ou_isHushed_I3 k q1 q2 a3 σ0 n v4 σ
      | _, _ => False) else (bif Nat.beq pc 27 then (match st, ls with
      | [], [.inr (.inr (.inl (k', 0, 4))), .inr (.inr (.inl (q1', 0, 1))), .inr (.inr (.inl (q2', 0, 7))), .inl a3', .inl v4] => k = k' ∧ q1 = q1' ∧ q2 = q2' ∧ a3 = a3' ∧ Ou_isHushed_I27 k q1 q2 a3 σ0 n v4 σ
      | _, _ => False) else (bif Nat.beq pc 109 then (match st, ls with
      | [], [.inr (.inr (.inl (k', 0, 4))), .inr (.inr (.inl (q1', 0, 1))), .inr (.inr (.inl (q2', 0, 7))), .inl a3', .inl v4] => k = k' ∧ q1 = q1' ∧ q2 = q2' ∧ a3 = a3' ∧ Ou_isHushed_I109 k q1 q2 a3 σ0 n v4 σ
      | _, _ => False) else (bif Nat.beq pc 204 then (match st, ls with
      | [], [.inr (.inr (.inl (k', 0, 4))), .inr (.inr (.inl (q1', 0, 1))), .inr (.inr (.inl (q2', 0, 7))), .inl a3', .inl v4] => k = k' ∧ q1 = q1' ∧ q2 = q2' ∧ a3 = a3' ∧ Ou_isHushed_I204 k q1 q2 a3 σ0 n v4 σ
      | _, _ => False) else False))))
    | _ => False)
def Ou_isHushed_ct : Nat → Ct := fun n => match n with
  | 0 => Fa_worryOf_cs
  | _ => Ou_isHushed_cs
set_option maxRecDepth 20000 in
set_option maxHeartbeats 4000000 in
theorem Ou_isHushed_met {l : Launch} {D : va_G} {ad : Nat → Nat} {ca : Nat → ClassId} {L : Nat} {fx : Nat → Int} : ax_MC l D ad ca L fx yX4_isHushed cX4_isHushed 5 (some .boolean) 4 Ou_isHushed_cs := by
  refine ax_met (oc := 4) (ct := Ou_isHushed_ct) (calls := Ou_isHushed_cl) (bs := Ou_isHushed_bk) (cut := fun pc => Nat.beq pc 3 || Nat.beq pc 27 || Nat.beq pc 109 || Nat.beq pc 204) (f := 13) (I := Ou_isHushed_I) (by decide) rfl rfl Ou_isHushed_ck (List.forall_mem_cons.mpr ⟨ax_cwV Fa_worryOf_met (by decide) (by decide) rfl (by decide) rfl (ax_m4 145 (by decide +kernel) rfl) Fa_worryOf_w rfl Fa_worryOf_ds, fun _ h => absurd h List.not_mem_nil⟩) ?_ ?_
  · intro as σ0 hp hH
    match as, hp with
    | [.inr (.inr (.inl (k, 0, 4))), .inr (.inr (.inl (q1, 0, 1))), .inr (.inr (.inl (q2, 0, 7))), .inl a3], hp => exact ⟨rfl, Ou_isHushed_p k q1 q2 a3 σ0 hH hp⟩
  · intro as σ0 hp n pc st ls σ hH hI
    match as, hp, hI with
    | [.inr (.inr (.inl (k, 0, 4))), .inr (.inr (.inl (q1, 0, 1))), .inr (.inr (.inl (q2, 0, 7))), .inl a3], hp, hI =>
      rcases ax_bifE hI with ⟨hpc, hI⟩ | ⟨-, hI⟩
      · have := Nat.eq_of_beq_eq_true hpc
        subst this
        match st, ls, hI with
        | [], [.inr (.inr (.inl (k', 0, 4))), .inr (.inr (.inl (q1', 0, 1))), .inr (.inr (.inl (q2', 0, 7))), .inl a3', .inl v4], hI =>
          obtain ⟨rfl, rfl, rfl, rfl, hI⟩ := hI
          exact Ou_isHushed_p3 k q1 q2 a3 σ0 hp n v4 σ hH hI
      rcases ax_bifE hI with ⟨hpc, hI⟩ | ⟨-, hI⟩
      · have := Nat.eq_of_beq_eq_true hpc
        subst this
        match st, ls, hI with
        | [], [.inr (.inr (.inl (k', 0, 4))), .inr (.inr (.inl (q1', 0, 1))), .inr (.inr (.inl (q2', 0, 7))), .inl a3', .inl v4], hI =>
          obtain ⟨rfl, rfl, rfl, rfl, hI⟩ := hI
          exact Ou_isHushed_p27 k q1 q2 a3 σ0 hp n v4 σ hH hI
      rcases ax_bifE hI with ⟨hpc, hI⟩ | ⟨-, hI⟩
      · have := Nat.eq_of_beq_eq_true hpc
        subst this
        match st, ls, hI with
        | [], [.inr (.inr (.inl (k', 0, 4))), .inr (.inr (.inl (q1', 0, 1))), .inr (.inr (.inl (q2', 0, 7))), .inl a3', .inl v4], hI =>
          obtain ⟨rfl, rfl, rfl, rfl, hI⟩ := hI
          exact Ou_isHushed_p109 k q1 q2 a3 σ0 hp n v4 σ hH hI
      rcases ax_bifE hI with ⟨hpc, hI⟩ | ⟨-, hI⟩
      · have := Nat.eq_of_beq_eq_true hpc
        subst this
        match st, ls, hI with
        | [], [.inr (.inr (.inl (k', 0, 4))), .inr (.inr (.inl (q1', 0, 1))), .inr (.inr (.inl (q2', 0, 7))), .inl a3', .inl v4], hI =>
          obtain ⟨rfl, rfl, rfl, rfl, hI⟩ := hI
          exact Ou_isHushed_p204 k q1 q2 a3 σ0 hp n v4 σ hH hI
      exact False.elim hI
