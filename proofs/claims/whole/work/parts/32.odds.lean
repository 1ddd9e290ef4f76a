-- THE OUTLOOK: odds
/-- the factor of one person in the weight of a set -/
def wfc1 (F : Fam) (x j : Nat) : Nat := if j < fN F ∧ 0 < fAmt F j then (if x.testBit j then (fOdd F j).toNat else 100 - (fOdd F j).toNat) else (if x.testBit j then 0 else 1)
def wgt (F : Fam) (x : Nat) : Nat → Nat
  | 0 => 1
  | i + 1 => wgt F x i * wfc1 F x i
theorem wgt_s (F : Fam) (x i : Nat) : wgt F x (i + 1) = wgt F x i * wfc1 F x i := rfl
def lwr (F : Fam) : Nat → Nat
  | 0 => 1
  | i + 1 => lwr F i * (if 0 < fAmt F i then 100 else 1)
theorem lwr_s (F : Fam) (i : Nat) : lwr F (i + 1) = lwr F i * (if 0 < fAmt F i then 100 else 1) := rfl
def own (F : Fam) (s : Sta) (p : Int) : Nat → Nat
  | 0 => 0
  | x + 1 => own F s p x + (if (pss F s (x : Int) s.2.2.2.2.1).2.2.1 = p then wgt F x 6 else 0)
theorem own_s (F : Fam) (s : Sta) (p : Int) (x : Nat) : own F s p (x + 1) = own F s p x + (if (pss F s (x : Int) s.2.2.2.2.1).2.2.1 = p then wgt F x 6 else 0) := rfl
def sW (F : Fam) (i : Nat) : Nat → Nat
  | 0 => 0
  | m + 1 => sW F i m + wgt F m i
def okO (F : Fam) : Prop := ∀ j, 0 ≤ fOdd F j ∧ fOdd F j ≤ 100
theorem nwn_s (f : Nat → Int) (n : Nat) : nwn f (n + 1) = nwn f n + (if 0 < f n then 1 else 0) := rfl
theorem nwn_le (f : Nat → Int) (n : Nat) : nwn f n ≤ n := by
  induction n with
  | zero => exact Nat.le_refl 0
  | succ n ih => rw [nwn_s]; split <;> omega
theorem lwr_pow (F : Fam) (i : Nat) : lwr F i = 100 ^ nwn (fAmt F) i := by
  induction i with
  | zero => rfl
  | succ i ih =>
    rw [lwr_s, ih, nwn_s]
    split
    · rw [Nat.pow_succ]
    · simp
theorem wgt_le {F : Fam} (ho : okO F) (x i : Nat) : wgt F x i ≤ 100 ^ nwn (fAmt F) i := by
  induction i with
  | zero => exact Nat.le_refl 1
  | succ i ih =>
    have h0 := ho i
    rw [wgt_s, nwn_s]
    unfold wfc1
    by_cases ha : 0 < fAmt F i
    · rw [if_pos ha, Nat.pow_succ]
      refine Nat.mul_le_mul ih ?_
      split
      · split <;> omega
      · split <;> omega
    · rw [if_neg ha, if_neg (fun z => ha z.2), Nat.add_zero]
      split
      · simp
      · simpa using ih
theorem sW_split (F : Fam) (i m k : Nat) (g : Nat → Nat) (hg : ∀ x, x < k → wgt F (m + x) i = g x) : ∀ j, j ≤ k → sW F i (m + j) = sW F i m + (List.range j).foldl (fun a x => a + g x) 0 := by
  intro j
  induction j with
  | zero => intro _; simp
  | succ j ih =>
    intro hj
    rw [show m + (j + 1) = (m + j) + 1 from rfl]
    show sW F i (m + j) + wgt F (m + j) i = _
    rw [ih (by omega), hg j (by omega), List.range_succ, List.foldl_append]
    simp; omega
theorem tb_low {x i j : Nat} (h : j < i) : (2 ^ i + x).testBit j = x.testBit j := by
  rw [Nat.add_comm, Nat.testBit_eq_decide_div_mod_eq, Nat.testBit_eq_decide_div_mod_eq]
  have : (x + 2 ^ i) / 2 ^ j % 2 = x / 2 ^ j % 2 := by
    obtain ⟨d, rfl⟩ : ∃ d, i = j + 1 + d := ⟨i - j - 1, by omega⟩
    rw [show 2 ^ (j + 1 + d) = 2 ^ j * (2 * 2 ^ d) by rw [Nat.pow_add, Nat.pow_succ, Nat.mul_assoc], Nat.add_mul_div_left _ _ (Nat.two_pow_pos j), Nat.add_mul_mod_self_left]
  rw [this]
theorem tb_at {x i : Nat} (h : x < 2 ^ i) : (2 ^ i + x).testBit i = true ∧ x.testBit i = false := by
  constructor
  · rw [Nat.testBit_two_pow_add_eq, Nat.testBit_lt_two_pow h]; rfl
  · exact Nat.testBit_lt_two_pow h
theorem wgt_low (F : Fam) {x i : Nat} : ∀ j, j ≤ i → wgt F (2 ^ i + x) j = wgt F x j := by
  intro j
  induction j with
  | zero => intro _; rfl
  | succ j ih =>
    intro hj
    rw [wgt_s, wgt_s, ih (by omega)]
    unfold wfc1
    rw [tb_low (by omega)]
theorem sum_mul (c : Nat) (g : Nat → Nat) : ∀ n, (List.range n).foldl (fun a x => a + g x * c) 0 = (List.range n).foldl (fun a x => a + g x) 0 * c := by
  intro n
  induction n with
  | zero => simp
  | succ n ih => rw [List.range_succ, List.foldl_append, List.foldl_append, ih]; simp [Nat.add_mul]
theorem sW_f (F : Fam) (i n : Nat) : sW F i n = (List.range n).foldl (fun a x => a + wgt F x i) 0 := by
  have := sW_split F i 0 n (fun x => wgt F x i) (fun x _ => by rw [Nat.zero_add]) n (Nat.le_refl n)
  rw [Nat.zero_add] at this
  rw [this]
  show sW F i 0 + _ = _
  unfold sW
  omega
theorem fold_ext {g h : Nat → Nat} : ∀ n, (∀ x, x < n → g x = h x) → (List.range n).foldl (fun a x => a + g x) 0 = (List.range n).foldl (fun a x => a + h x) 0 := by
  intro n
  induction n with
  | zero => intro _; rfl
  | succ n ih => intro hx; rw [List.range_succ, List.foldl_append, List.foldl_append, ih (fun x h => hx x (by omega))]; simp [hx n (by omega)]
theorem sW_tot {F : Fam} (ho : okO F) (i : Nat) : sW F i (2 ^ i) ≤ 100 ^ nwn (fAmt F) i := by
  induction i with
  | zero => exact Nat.le_refl 1
  | succ i ih =>
    have h0 := ho i
    rw [Nat.pow_succ, Nat.mul_two]
    rw [sW_split F (i + 1) (2 ^ i) (2 ^ i) (fun x => wgt F x i * (if i < fN F ∧ 0 < fAmt F i then (fOdd F i).toNat else 0)) (fun x hx => by
      rw [wgt_s, wgt_low F i (Nat.le_refl i)]
      unfold wfc1
      rw [(tb_at hx).1]
      simp) (2 ^ i) (Nat.le_refl _)]
    rw [sum_mul, ← sW_f]
    have e1 : sW F (i + 1) (2 ^ i) = sW F i (2 ^ i) * (if i < fN F ∧ 0 < fAmt F i then 100 - (fOdd F i).toNat else 1) := by
      rw [sW_f, sW_f, ← sum_mul]
      refine fold_ext _ (fun x hx => ?_)
      rw [wgt_s]
      unfold wfc1
      rw [(tb_at hx).2]
      simp
    rw [e1, ← Nat.mul_add, nwn_s]
    by_cases ha : 0 < fAmt F i
    · rw [if_pos ha, Nat.pow_succ]
      refine Nat.mul_le_mul ih ?_
      split <;> omega
    · rw [if_neg ha, if_neg (fun z => ha z.2), if_neg (fun z => ha z.2), Nat.add_zero, Nat.add_zero, Nat.mul_one]
      exact ih
theorem own_le (F : Fam) (s : Sta) (p : Int) (m : Nat) : own F s p m ≤ sW F 6 m := by
  induction m with
  | zero => exact Nat.le_refl 0
  | succ m ih =>
    rw [own_s]
    show _ ≤ sW F 6 m + wgt F m 6
    split <;> omega
theorem sW_mono (F : Fam) (i : Nat) {m n : Nat} (h : m ≤ n) : sW F i m ≤ sW F i n := by
  induction n with
  | zero => have : m = 0 := by omega
            subst this; exact Nat.le_refl _
  | succ n ih =>
    by_cases hmn : m = n + 1
    · subst hmn; exact Nat.le_refl _
    · have := ih (by omega)
      show _ ≤ sW F i n + wgt F n i
      omega
theorem nwn_ext {f g : Nat → Int} {n : Nat} (h : ∀ j, j < n → f j = g j) : nwn f n = nwn g n := by
  induction n with
  | zero => rfl
  | succ n ih => rw [nwn_s, nwn_s, ih (fun j hj => h j (by omega)), h n (by omega)]
theorem nwn_mono (f : Nat → Int) {m n : Nat} (h : m ≤ n) : nwn f m ≤ nwn f n := by
  induction n with
  | zero => have : m = 0 := by omega
            subst this; exact Nat.le_refl _
  | succ n ih =>
    by_cases hmn : m = n + 1
    · subst hmn; exact Nat.le_refl _
    · have := ih (by omega)
      rw [nwn_s]
      split <;> omega
theorem FS.nw {σ : Hp} {k : Nat} (h : FS σ k) {i : Nat} (hi : i ≤ 6) : 100 ^ nwn (fAmt (famX σ k)) i ≤ 100000000 := by
  have e : nwn (fAmt (famX σ k)) 6 = nwn (σ (k + 6)) 6 := nwn_ext (fun j hj => tr_in hj)
  have h4 := h.1.2.2
  have hm := nwn_mono (fAmt (famX σ k)) hi
  exact Nat.pow_le_pow_right (n := 100) (by decide) (show nwn (fAmt (famX σ k)) i ≤ 4 by omega)
theorem FS.okO {σ : Hp} {k : Nat} (h : FS σ k) : okO (famX σ k) := by
  intro j
  show 0 ≤ tr 6 (σ (k + 5)) j ∧ tr 6 (σ (k + 5)) j ≤ 100
  by_cases hj : j < 6
  · rw [tr_in hj]; exact (h.2.2.2.1 j hj).2.1
  · rw [tr_out (by omega)]; decide
def Ou_weightOf_pre (f : Nat) (a : Int) (σ : Hp) : Prop := FO f ∧ FS σ f ∧ 0 ≤ a ∧ a < 64
def Ou_weightOf_post (f : Nat) (a : Int) (σ : Hp) (r : Int) (σ' : Hp) : Prop := σ' = σ ∧ r = (wgt (famX σ f) a.toNat 6 : Nat)
def Ou_weightOf_I4 (f : Nat) (a : Int) (σ0 : Hp) (m : Nat) (v2 v3 : Int) (σ : Hp) : Prop := ∃ i : Nat, v3 = i ∧ i ≤ 6 ∧ m = 6 - i ∧ σ = σ0 ∧ v2 = (wgt (famX σ0 f) a.toNat i : Nat)
def Ou_weightOf_bk : List (Nat × List Item) := [(0, [(.iconst 1, 1, [], []), (.istore_n 2, 1, [], []), (.iconst 0, 1, [], []), (.istore_n 3, 1, [], [])]),
  (4, [(.iload_n 3, 1, [], []), (.bipush 6, 2, [], []), (.if_icmp .ge 77, 3, [84], []), (.iload_n 1, 1, [], []), (.iload_n 3, 1, [], []), (.ishr, 1, [], []), (.iconst 1, 1, [], []), (.iand, 1, [], []), (.iconst 1, 1, [], []), (.if_icmp .ne 7, 3, [23], []), (.iconst 1, 1, [], []), (.goto 4, 3, [24], [])]),
  (23, [(.iconst 0, 1, [], [])]),
  (24, [(.istore 4, 2, [], []), (.iload_n 3, 1, [], []), (.aload_n 0, 1, [], []), (.getfield 50, 3, [1, 9, 0, 0, 0, 0], []), (.if_icmp .ge 40, 3, [71], []), (.aload_n 0, 1, [], []), (.iload_n 3, 1, [], []), (.invokevirtual 144, 3, [0], []), (.ifCond .eq 32, 3, [71], []), (.iload_n 2, 1, [], []), (.iload 4, 2, [], []), (.ifCond .eq 12, 3, [57], []), (.aload_n 0, 1, [], []), (.getfield 155, 3, [1, 4, 4, 5, 1, 6], []), (.iload_n 3, 1, [], []), (.iaload, 1, [], []), (.goto 12, 3, [66], [])]),
  (57, [(.bipush 100, 2, [], []), (.aload_n 0, 1, [], []), (.getfield 155, 3, [1, 4, 4, 5, 1, 6], []), (.iload_n 3, 1, [], []), (.iaload, 1, [], []), (.isub, 1, [], [])]),
  (66, [(.imul, 1, [], []), (.istore_n 2, 1, [], []), (.goto 10, 3, [78], [])]),
  (71, [(.iload 4, 2, [], []), (.ifCond .eq 5, 3, [78], []), (.iconst 0, 1, [], []), (.ireturn, 1, [], [])]),
  (78, [(.iinc 3 1, 3, [], []), (.goto (-77), 3, [4], [])]),
  (84, [(.iload_n 2, 1, [], []), (.ireturn, 1, [], [])])]
def Ou_weightOf_cl : List (Instr × Nat) := [(.invokevirtual 144, 0)]
set_option maxRecDepth 20000 in
theorem Ou_weightOf_ck : Ou_weightOf_bk.all (fun b => ax_chB 4 5 cX4_weightOf Ou_weightOf_cl b.1 b.2) = true := by decide +kernel
def Ou_weightOf_cs : Ct := (2, 0, 1, (0, 0), fun as σ => (match as with
    | [.inr (.inr (.inl (q1, 0, 1))), .inl a2] => Ou_weightOf_pre q1 a2 σ
    | _ => False), fun as σ r σ' => (match as with
    | [.inr (.inr (.inl (q1, 0, 1))), .inl a2] => Ou_weightOf_post q1 a2 σ r σ'
    | _ => False))
theorem Ou_weightOf_w : ∀ w ∈ ([.static yX4_weightOf, .initialized yX4_weightOf.cls, .code yX4_weightOf cX4_weightOf 5 (some .int)] : List Cond), w ∈ ax_tb := ax_w3 (ax_m5 7 (by decide +kernel) rfl) (ax_m1 3 (by decide +kernel) rfl) (ax_m5 8 (by decide +kernel) rfl)
theorem Ou_weightOf_ds : yX4_weightOf.cls ≠ "java/lang/invoke/MethodHandle" ∧ yX4_weightOf.cls ≠ "java/lang/invoke/VarHandle" ∧ (parseMethodDescriptor yX4_weightOf.desc).map (fun d => d.parameters.length) = some 2 := by decide +kernel
def Ou_weightOf_vc : Prop := ∀ (q1 : Nat) (a2 : Int) (σ : Hp), ax_H σ → Ou_weightOf_pre q1 a2 σ →
  ∃ n' : Nat, q1 = q1 ∧ a2 = a2 ∧ Ou_weightOf_I4 q1 a2 σ n' 1 0 σ
def Ou_weightOf_vc4 : Prop := ∀ (q1 : Nat) (a2 : Int) (σ0 : Hp), Ou_weightOf_pre q1 a2 σ0 → ∀ (n : Nat) (v2 : Int) (v3 : Int) (σ : Hp), ax_H σ → Ou_weightOf_I4 q1 a2 σ0 n v2 v3 σ →
  (6 ≤ v3 →
    Ou_weightOf_post q1 a2 σ0 v2 σ) ∧
  (¬ (6 ≤ v3) →
    (¬ iAnd (iShr a2 v3) 1 = 1 →
      (σ q1 9 ≤ v3 →
        ((0 : Int) = (0 : Int) →
          ∃ n' : Nat, n' < n ∧ q1 = q1 ∧ a2 = a2 ∧ Ou_weightOf_I4 q1 a2 σ0 n' v2 (wr (v3 + 1)) σ) ∧
        (¬ ((0 : Int) = (0 : Int)) →
          Ou_weightOf_post q1 a2 σ0 0 σ)) ∧
      (¬ (σ q1 9 ≤ v3) →
        Fa_hearsNews_pre q1 v3 σ ∧
        ∀ (r2 : Int) (σ1 : Hp), Fa_hearsNews_post q1 v3 σ r2 σ1 →
        (r2 = 0 →
          ((0 : Int) = (0 : Int) →
            ∃ n' : Nat, n' < n ∧ q1 = q1 ∧ a2 = a2 ∧ Ou_weightOf_I4 q1 a2 σ0 n' v2 (wr (v3 + 1)) σ1) ∧
          (¬ ((0 : Int) = (0 : Int)) →
            Ou_weightOf_post q1 a2 σ0 0 σ1)) ∧
        (¬ (r2 = 0) →
          ((0 : Int) = (0 : Int) →
            (0 ≤ v3 ∧ v3 < 6) ∧
            ∃ n' : Nat, n' < n ∧ q1 = q1 ∧ a2 = a2 ∧ Ou_weightOf_I4 q1 a2 σ0 n' (wr (v2 * (wr (100 - (σ1 (q1 + 5) v3.toNat))))) (wr (v3 + 1)) σ1) ∧
          (¬ ((0 : Int) = (0 : Int)) →
            (0 ≤ v3 ∧ v3 < 6) ∧
            ∃ n' : Nat, n' < n ∧ q1 = q1 ∧ a2 = a2 ∧ Ou_weightOf_I4 q1 a2 σ0 n' (wr (v2 * (σ1 (q1 + 5) v3.toNat))) (wr (v3 + 1)) σ1)))) ∧
    (¬ (¬ iAnd (iShr a2 v3) 1 = 1) →
      (σ q1 9 ≤ v3 →
        ((1 : Int) = (0 : Int) →
          ∃ n' : Nat, n' < n ∧ q1 = q1 ∧ a2 = a2 ∧ Ou_weightOf_I4 q1 a2 σ0 n' v2 (wr (v3 + 1)) σ) ∧
        (¬ ((1 : Int) = (0 : Int)) →
          Ou_weightOf_post q1 a2 σ0 0 σ)) ∧
      (¬ (σ q1 9 ≤ v3) →
        Fa_hearsNews_pre q1 v3 σ ∧
        ∀ (r4 : Int) (σ3 : Hp), Fa_hearsNews_post q1 v3 σ r4 σ3 →
        (r4 = 0 →
          ((1 : Int) = (0 : Int) →
            ∃ n' : Nat, n' < n ∧ q1 = q1 ∧ a2 = a2 ∧ Ou_weightOf_I4 q1 a2 σ0 n' v2 (wr (v3 + 1)) σ3) ∧
          (¬ ((1 : Int) = (0 : Int)) →
            Ou_weightOf_post q1 a2 σ0 0 σ3)) ∧
        (¬ (r4 = 0) →
          ((1 : Int) = (0 : Int) →
            (0 ≤ v3 ∧ v3 < 6) ∧
            ∃ n' : Nat, n' < n ∧ q1 = q1 ∧ a2 = a2 ∧ Ou_weightOf_I4 q1 a2 σ0 n' (wr (v2 * (wr (100 - (σ3 (q1 + 5) v3.toNat))))) (wr (v3 + 1)) σ3) ∧
          (¬ ((1 : Int) = (0 : Int)) →
            (0 ≤ v3 ∧ v3 < 6) ∧
            ∃ n' : Nat, n' < n ∧ q1 = q1 ∧ a2 = a2 ∧ Ou_weightOf_I4 q1 a2 σ0 n' (wr (v2 * (σ3 (q1 + 5) v3.toNat))) (wr (v3 + 1)) σ3)))))
theorem Ou_weightOf_p : Ou_weightOf_vc := by
  intro f a σ hH hp
  exact ⟨6, rfl, rfl, 0, rfl, by omega, rfl, rfl, rfl⟩
theorem wgt_0 {F : Fam} {x i : Nat} (h : wfc1 F x i = 0) : ∀ j, i < j → wgt F x j = 0 := by
  intro j
  induction j with
  | zero => intro hj; omega
  | succ j ih =>
    intro hj
    rw [wgt_s]
    by_cases hij : i = j
    · subst hij; rw [h, Nat.mul_zero]
    · rw [ih (by omega), Nat.zero_mul]
theorem Ou_weightOf_p4 : Ou_weightOf_vc4 := by
  intro f a σ0 hp m v2 v3 σ hH hI
  obtain ⟨hk, hF, a0, a6⟩ := hp
  obtain ⟨i, rfl, hi, rfl, rfl, rfl⟩ := hI
  refine ⟨fun h => ⟨rfl, by rw [show (6 : Nat) = i by omega]⟩, fun h => ?_⟩
  have hb := bit_01 (x := a) (j := (i : Int)) a0 (by omega) (by omega) (by omega)
  rw [Int.toNat_natCast] at hb
  have hbt : bt a i = a.toNat.testBit i := rfl
  rw [hbt] at hb
  have e9 := hF.e9
  have hn6 := hF.n6
  have eA : fAmt (famX σ f) i = σ (f + 6) i := tr_in (by omega)
  have eO : fOdd (famX σ f) i = σ (f + 5) i := tr_in (by omega)
  have hFi := hF.2.2.2.1 i (by omega)
  have hwl := wgt_le hF.okO a.toNat i
  have hnw := hF.nw (i := i) (by omega)
  have hwl2 := wgt_le hF.okO a.toNat (i + 1)
  have hnw2 := hF.nw (i := i + 1) (by omega)
  rw [wgt_s] at hwl2
  rw [e9, Int.toNat_natCast]
  have go : ∀ (v : Int), v = (wgt (famX σ f) a.toNat (i + 1) : Nat) → ∃ n' : Nat, n' < 6 - i ∧ f = f ∧ a = a ∧ Ou_weightOf_I4 f a σ n' v (wr ((i : Int) + 1)) σ := by
    intro v hv
    exact ⟨6 - (i + 1), by omega, rfl, rfl, i + 1, by rw [wr1 (by omega) (by omega)]; simp, by omega, rfl, rfl, hv⟩
  have zero : wfc1 (famX σ f) a.toNat i = 0 → Ou_weightOf_post f a σ 0 σ := fun z => ⟨rfl, by rw [wgt_0 z 6 (by omega)]; rfl⟩
  refine ⟨fun h1 => ?_, fun h1 => ?_⟩
  · have hbf : a.toNat.testBit i = false := by
      cases hq : a.toNat.testBit i with
      | false => rfl
      | true => exact absurd (hb.mpr hq) h1
    refine ⟨fun h2 => ⟨fun _ => go _ ?_, fun z => absurd rfl z⟩, fun h2 => ⟨⟨by omega, by omega⟩, ?_⟩⟩
    · rw [wgt_s]; unfold wfc1; rw [if_neg (by omega), hbf]; simp
    · rintro r2 σ1 ⟨rfl, rfl⟩
      rw [Int.toNat_natCast]
      refine ⟨fun h3 => ⟨fun _ => go _ ?_, fun z => absurd rfl z⟩, fun h3 => ⟨fun _ => ⟨⟨by omega, by omega⟩, go _ ?_⟩, fun z => absurd rfl z⟩⟩
      · have : σ1 (f + 6) i ≤ 0 := by
          by_cases z : σ1 (f + 6) i ≤ 0
          · exact z
          · rw [if_neg z] at h3; omega
        rw [wgt_s]; unfold wfc1; rw [eA, if_neg (by omega), hbf]; simp
      · have h3' : ¬ σ1 (f + 6) i ≤ 0 := fun z => h3 (by rw [if_pos z])
        have ew : wfc1 (famX σ1 f) a.toNat i = 100 - (σ1 (f + 5) i).toNat := by
          unfold wfc1; rw [eA, eO, if_pos ⟨by omega, by omega⟩, hbf]; simp
        rw [ew] at hwl2
        rw [wgt_s, ew, show wr (100 - σ1 (f + 5) i) = ((100 - (σ1 (f + 5) i).toNat : Nat) : Int) by unfold wr; omega, ← Int.natCast_mul, wr_id (by omega) (by omega)]
  · have hbf : a.toNat.testBit i = true := hb.mp (Classical.not_not.mp h1)
    refine ⟨fun h2 => ⟨fun z => absurd z (by decide), fun _ => zero ?_⟩, fun h2 => ⟨⟨by omega, by omega⟩, ?_⟩⟩
    · unfold wfc1; rw [if_neg (by omega), hbf]; simp
    · rintro r2 σ1 ⟨rfl, rfl⟩
      rw [Int.toNat_natCast]
      refine ⟨fun h3 => ⟨fun z => absurd z (by decide), fun _ => zero ?_⟩, fun h3 => ⟨fun z => absurd z (by decide), fun _ => ⟨⟨by omega, by omega⟩, go _ ?_⟩⟩⟩
      · have : σ1 (f + 6) i ≤ 0 := by
          by_cases z : σ1 (f + 6) i ≤ 0
          · exact z
          · rw [if_neg z] at h3; omega
        unfold wfc1; rw [eA, if_neg (by omega), hbf]; simp
      · have h3' : ¬ σ1 (f + 6) i ≤ 0 := fun z => h3 (by rw [if_pos z])
        have ew : wfc1 (famX σ1 f) a.toNat i = (σ1 (f + 5) i).toNat := by
          unfold wfc1; rw [eA, eO, if_pos ⟨by omega, by omega⟩, hbf]; simp
        rw [ew] at hwl2
        rw [wgt_s, ew, show σ1 (f + 5) i = ((σ1 (f + 5) i).toNat : Int) by omega, ← Int.natCast_mul, Int.toNat_natCast, wr_id (by omega) (by omega)]
def Ou_weightOf_I : List AV → Hp → Nat → Nat → List AV → List AV → Hp → Prop := fun as σ0 pc n st ls σ => (match as with
    | [.inr (.inr (.inl (q1, 0, 1))), .inl a2] => (bif Nat.beq pc 4 then (match st, ls with
      | [], [.inr (.inr (.inl (q1', 0, 1))), .inl a2', .inl v2, .inl v3, _] => q1 = q1' ∧ a2 = a2' ∧ Ou_weightOf_I4 q1 a2 σ0 n v2 v3 σ
      | _, _ => False) else False)
    | _ => False)
def Ou_weightOf_ct : Nat → Ct := fun n => match n with
  | 0 => Fa_hearsNews_cs
  | _ => Ou_weightOf_cs
set_option maxRecDepth 20000 in
set_option maxHeartbeats 4000000 in
theorem Ou_weightOf_met {l : Launch} {D : va_G} {ad : Nat → Nat} {ca : Nat → ClassId} {L : Nat} {fx : Nat → Int} : ax_MC l D ad ca L fx yX4_weightOf cX4_weightOf 5 (some .int) 2 Ou_weightOf_cs := by
  refine ax_met (oc := 4) (ct := Ou_weightOf_ct) (calls := Ou_weightOf_cl) (bs := Ou_weightOf_bk) (cut := fun pc => Nat.beq pc 4) (f := 10) (I := Ou_weightOf_I) (by decide) rfl rfl Ou_weightOf_ck (List.forall_mem_cons.mpr ⟨ax_cwV Fa_hearsNews_met (by decide) (by decide) rfl (by decide) rfl (ax_m5 5 (by decide +kernel) rfl) Fa_hearsNews_w rfl Fa_hearsNews_ds, fun _ h => absurd h List.not_mem_nil⟩) ?_ ?_
  · intro as σ0 hp hH
    match as, hp with
    | [.inr (.inr (.inl (q1, 0, 1))), .inl a2], hp => exact ⟨rfl, Ou_weightOf_p q1 a2 σ0 hH hp⟩
  · intro as σ0 hp n pc st ls σ hH hI
    match as, hp, hI with
    | [.inr (.inr (.inl (q1, 0, 1))), .inl a2], hp, hI =>
      rcases ax_bifE hI with ⟨hpc, hI⟩ | ⟨-, hI⟩
      · have := Nat.eq_of_beq_eq_true hpc
        subst this
        match st, ls, hI with
        | [], [.inr (.inr (.inl (q1', 0, 1))), .inl a2', .inl v2, .inl v3, _], hI =>
          obtain ⟨rfl, rfl, hI⟩ := hI
          exact Ou_weightOf_p4 q1 a2 σ0 hp n v2 v3 σ hH hI
      exact False.elim hI
def Ou_commonDivisor_pre (a b : Int) (_ : Hp) : Prop := 0 ≤ a ∧ a < 2147483648 ∧ 0 ≤ b ∧ b < 2147483648
def Ou_commonDivisor_post (a b : Int) (σ : Hp) (r : Int) (σ' : Hp) : Prop := σ' = σ ∧ r = (Nat.gcd a.toNat b.toNat : Nat)
def Ou_commonDivisor_I7 (a b : Int) (σ0 : Hp) (m : Nat) (v2 v3 v4 : Int) (σ : Hp) : Prop := ∃ i g l : Nat, v4 = i ∧ v2 = g ∧ v3 = l ∧ i ≤ 64 ∧ m = 64 - i ∧ σ = σ0 ∧ g < 2147483648 ∧ l < 2147483648 ∧ Nat.gcd g l = Nat.gcd a.toNat b.toNat ∧ (i = 0 ∨ ∃ e, i = e + 1 ∧ l ≤ g ∧ g * l * 2 ^ e < 2 ^ 62)
def Ou_commonDivisor_bk : List (Nat × List Item) := [(0, [(.iload_n 0, 1, [], []), (.istore_n 2, 1, [], []), (.iload_n 1, 1, [], []), (.istore_n 3, 1, [], []), (.iconst 0, 1, [], []), (.istore 4, 2, [], [])]),
  (7, [(.iload 4, 2, [], []), (.bipush 64, 2, [], []), (.if_icmp .ge 23, 3, [34], []), (.iload_n 3, 1, [], []), (.ifCond .eq 19, 3, [34], []), (.iload_n 2, 1, [], []), (.iload_n 3, 1, [], []), (.irem, 1, [], []), (.istore 5, 2, [], []), (.iload_n 3, 1, [], []), (.istore_n 2, 1, [], []), (.iload 5, 2, [], []), (.istore_n 3, 1, [], []), (.iinc 4 1, 3, [], []), (.goto (-24), 3, [7], [])]),
  (34, [(.iload_n 2, 1, [], []), (.ireturn, 1, [], [])])]
def Ou_commonDivisor_cl : List (Instr × Nat) := []
set_option maxRecDepth 20000 in
theorem Ou_commonDivisor_ck : Ou_commonDivisor_bk.all (fun b => ax_chB 4 6 cX4_commonDivisor Ou_commonDivisor_cl b.1 b.2) = true := by decide +kernel
def Ou_commonDivisor_cs : Ct := (2, 0, 1, (0, 0), fun as σ => (match as with
    | [.inl a1, .inl a2] => Ou_commonDivisor_pre a1 a2 σ
    | _ => False), fun as σ r σ' => (match as with
    | [.inl a1, .inl a2] => Ou_commonDivisor_post a1 a2 σ r σ'
    | _ => False))
theorem Ou_commonDivisor_w : ∀ w ∈ ([.static yX4_commonDivisor, .initialized yX4_commonDivisor.cls, .code yX4_commonDivisor cX4_commonDivisor 6 (some .int)] : List Cond), w ∈ ax_tb := ax_w3 (ax_m5 10 (by decide +kernel) rfl) (ax_m1 3 (by decide +kernel) rfl) (ax_m5 11 (by decide +kernel) rfl)
theorem Ou_commonDivisor_ds : yX4_commonDivisor.cls ≠ "java/lang/invoke/MethodHandle" ∧ yX4_commonDivisor.cls ≠ "java/lang/invoke/VarHandle" ∧ (parseMethodDescriptor yX4_commonDivisor.desc).map (fun d => d.parameters.length) = some 2 := by decide +kernel
def Ou_commonDivisor_vc : Prop := ∀ (a1 : Int) (a2 : Int) (σ : Hp), ax_H σ → Ou_commonDivisor_pre a1 a2 σ →
  ∃ n' : Nat, a1 = a1 ∧ a2 = a2 ∧ Ou_commonDivisor_I7 a1 a2 σ n' a1 a2 0 σ
def Ou_commonDivisor_vc7 : Prop := ∀ (a1 : Int) (a2 : Int) (σ0 : Hp), Ou_commonDivisor_pre a1 a2 σ0 → ∀ (n : Nat) (v2 : Int) (v3 : Int) (v4 : Int) (σ : Hp), ax_H σ → Ou_commonDivisor_I7 a1 a2 σ0 n v2 v3 v4 σ →
  (64 ≤ v4 →
    Ou_commonDivisor_post a1 a2 σ0 v2 σ) ∧
  (¬ (64 ≤ v4) →
    (v3 = 0 →
      Ou_commonDivisor_post a1 a2 σ0 v2 σ) ∧
    (¬ (v3 = 0) →
      ¬ v3 = 0 ∧
      ∃ n' : Nat, n' < n ∧ a1 = a1 ∧ a2 = a2 ∧ Ou_commonDivisor_I7 a1 a2 σ0 n' v3 (iRem v2 v3) (wr (v4 + 1)) σ))
theorem Ou_commonDivisor_p : Ou_commonDivisor_vc := by
  intro a b σ hH hp
  obtain ⟨a0, a1, b0, b1⟩ := hp
  exact ⟨64, rfl, rfl, 0, a.toNat, b.toNat, rfl, by omega, by omega, by omega, rfl, rfl, by omega, by omega, rfl, Or.inl rfl⟩
theorem gcd_half {g l : Nat} (h0 : 0 < l) (h : l ≤ g) : l * (g % l) * 2 ≤ g * l := by
  have h1 : l + g % l ≤ g := by
    have h2 := Nat.div_add_mod g l
    have h3 : 1 ≤ g / l := Nat.div_pos h h0
    have h4 : l * 1 ≤ l * (g / l) := Nat.mul_le_mul_left l h3
    omega
  have h2 : g % l < l := Nat.mod_lt g h0
  have h3 : g % l * 2 ≤ g := by omega
  rw [Nat.mul_assoc, Nat.mul_comm g l]
  exact Nat.mul_le_mul_left l h3
theorem Ou_commonDivisor_p7 : Ou_commonDivisor_vc7 := by
  intro a b σ0 hp m v2 v3 v4 σ hH hI
  obtain ⟨i, g, l, rfl, rfl, rfl, hi, rfl, rfl, hg, hl, hd, hm⟩ := hI
  have fin : l = 0 → Ou_commonDivisor_post a b σ (g : Int) σ := fun z => ⟨rfl, by rw [← hd, z, Nat.gcd_zero_right]⟩
  refine ⟨fun h => fin ?_, fun h => ⟨fun h2 => fin (by omega), fun h2 => ⟨h2, 64 - (i + 1), by omega, rfl, rfl, i + 1, l, g % l, by rw [wr1 (by omega) (by omega)]; simp, rfl, iRem_n (by omega) (by omega) (by omega), by omega, rfl, rfl, hl, ?_, ?_, Or.inr ⟨i, rfl, ?_, ?_⟩⟩⟩⟩
  · rcases hm with hm | ⟨e, he, hlg, hb⟩
    · omega
    · have e63 : e = 63 := by omega
      subst e63
      by_cases hz : l = 0
      · exact hz
      · have h1 : 1 * 1 ≤ g * l := Nat.mul_le_mul (by omega) (by omega)
        have h2 : 1 * 2 ^ 63 ≤ g * l * 2 ^ 63 := Nat.mul_le_mul_right _ (by omega)
        omega
  · exact Nat.lt_of_lt_of_le (Nat.mod_lt g (by omega)) (by omega)
  · rw [← hd, Nat.gcd_comm l, ← Nat.gcd_rec, Nat.gcd_comm]
  · exact Nat.le_of_lt (Nat.mod_lt g (by omega))
  · have hlt : g % l < l := Nat.mod_lt g (by omega)
    rcases hm with hm | ⟨e, he, hlg, hb⟩
    · subst hm
      have : l * (g % l) ≤ 2147483647 * 2147483647 := Nat.mul_le_mul (by omega) (by omega)
      omega
    · subst he
      have h1 := gcd_half (g := g) (l := l) (by omega) hlg
      have h2 : l * (g % l) * 2 * 2 ^ e ≤ g * l * 2 ^ e := Nat.mul_le_mul_right _ h1
      rw [Nat.pow_succ, Nat.mul_comm (2 ^ e) 2, ← Nat.mul_assoc]
      omega
def Ou_commonDivisor_I : List AV → Hp → Nat → Nat → List AV → List AV → Hp → Prop := fun as σ0 pc n st ls σ => (match as with
    | [.inl a1, .inl a2] => (bif Nat.beq pc 7 then (match st, ls with
      | [], [.inl a1', .inl a2', .inl v2, .inl v3, .inl v4, _] => a1 = a1' ∧ a2 = a2' ∧ Ou_commonDivisor_I7 a1 a2 σ0 n v2 v3 v4 σ
      | _, _ => False) else False)
    | _ => False)
def Ou_commonDivisor_ct : Nat → Ct := fun n => match n with
  | _ => Ou_commonDivisor_cs
set_option maxRecDepth 20000 in
set_option maxHeartbeats 4000000 in
theorem Ou_commonDivisor_met {l : Launch} {D : va_G} {ad : Nat → Nat} {ca : Nat → ClassId} {L : Nat} {fx : Nat → Int} : ax_MC l D ad ca L fx yX4_commonDivisor cX4_commonDivisor 6 (some .int) 1 Ou_commonDivisor_cs := by
  refine ax_met (oc := 4) (ct := Ou_commonDivisor_ct) (calls := Ou_commonDivisor_cl) (bs := Ou_commonDivisor_bk) (cut := fun pc => Nat.beq pc 7) (f := 4) (I := Ou_commonDivisor_I) (by decide) rfl rfl Ou_commonDivisor_ck (fun _ h => absurd h List.not_mem_nil) ?_ ?_
  · intro as σ0 hp hH
    match as, hp with
    | [.inl a1, .inl a2], hp => exact ⟨rfl, Ou_commonDivisor_p a1 a2 σ0 hH hp⟩
  · intro as σ0 hp n pc st ls σ hH hI
    match as, hp, hI with
    | [.inl a1, .inl a2], hp, hI =>
      rcases ax_bifE hI with ⟨hpc, hI⟩ | ⟨-, hI⟩
      · have := Nat.eq_of_beq_eq_true hpc
        subst this
        match st, ls, hI with
        | [], [.inl a1', .inl a2', .inl v2, .inl v3, .inl v4, _], hI =>
          obtain ⟨rfl, rfl, hI⟩ := hI
          exact Ou_commonDivisor_p7 a1 a2 σ0 hp n v2 v3 v4 σ hH hI
      exact False.elim hI
def Ou_findOdds_pre (k f q : Nat) (_a _b : Int) (σ : Hp) : Prop := k = 3 ∧ q = 31 ∧ OW σ f
def odd (F : Fam) (s : Sta) (a b : Int) : Int := ((if b = 0 then own F s a 64 / Nat.gcd (lwr F (fN F)) (own F s a 64) else lwr F (fN F) / Nat.gcd (lwr F (fN F)) (own F s a 64) : Nat) : Int)
def Ou_findOdds_post (_k f _q : Nat) (a b : Int) (σ : Hp) (r : Int) (σ' : Hp) : Prop := Fr (sg f 4) σ σ' ∧ r = odd (famX σ f) (stX σ 31) a b
def Ou_findOdds_I9 (_k f _q : Nat) (_a _b : Int) (σ0 : Hp) (m : Nat) (v5 v6 v7 : Int) (σ : Hp) : Prop := ∃ i : Nat, v7 = i ∧ i ≤ fN (famX σ0 f) ∧ m = 100 - i ∧ σ = σ0 ∧ v5 = 0 ∧ v6 = (lwr (famX σ0 f) i : Nat)
def Ou_findOdds_I47 (_k f _q : Nat) (a _b : Int) (σ0 : Hp) (m : Nat) (v5 v6 v7 : Int) (σ : Hp) : Prop := ∃ i : Nat, v7 = i ∧ i ≤ 64 ∧ m = 64 - i ∧ Fr (sg f 4) σ0 σ ∧ v5 = (own (famX σ0 f) (stX σ0 31) a i : Nat) ∧ v6 = (lwr (famX σ0 f) (fN (famX σ0 f)) : Nat)
def Ou_findOdds_bk : List (Nat × List Item) := [(0, [(.iconst 0, 1, [], []), (.istore 5, 2, [], []), (.iconst 1, 1, [], []), (.istore 6, 2, [], []), (.iconst 0, 1, [], []), (.istore 7, 2, [], [])]),
  (9, [(.iload 7, 2, [], []), (.aload_n 1, 1, [], []), (.getfield 50, 3, [1, 9, 0, 0, 0, 0], []), (.if_icmp .ge 29, 3, [44], []), (.iload 6, 2, [], []), (.aload_n 1, 1, [], []), (.iload 7, 2, [], []), (.invokevirtual 144, 3, [0], []), (.ifCond .eq 8, 3, [34], []), (.bipush 100, 2, [], []), (.goto 4, 3, [35], [])]),
  (34, [(.iconst 1, 1, [], [])]),
  (35, [(.imul, 1, [], []), (.istore 6, 2, [], []), (.iinc 7 1, 3, [], []), (.goto (-32), 3, [9], [])]),
  (44, [(.iconst 0, 1, [], []), (.istore 7, 2, [], [])]),
  (47, [(.iload 7, 2, [], []), (.bipush 64, 2, [], []), (.if_icmp .ge 61, 3, [112], []), (.aload_n 1, 1, [], []), (.iload 7, 2, [], []), (.invokestatic 148, 3, [1], []), (.istore 8, 2, [], []), (.iload 8, 2, [], []), (.ifCond .ne 6, 3, [70], []), (.goto 39, 3, [106], [])]),
  (70, [(.aload_n 0, 1, [], []), (.getfield 12, 3, [4, 0, 4, 1, 0, 7], []), (.aload_n 2, 1, [], []), (.invokevirtual 40, 3, [2], []), (.aload_n 1, 1, [], []), (.aload_n 0, 1, [], []), (.getfield 12, 3, [4, 0, 4, 1, 0, 7], []), (.iload 7, 2, [], []), (.invokevirtual 44, 3, [3], []), (.aload_n 0, 1, [], []), (.getfield 12, 3, [4, 0, 4, 1, 0, 7], []), (.getfield 65, 3, [7, 2, 0, 0, 0, 0], []), (.iload_n 3, 1, [], []), (.if_icmp .ne 10, 3, [106], []), (.iload 5, 2, [], []), (.iload 8, 2, [], []), (.iadd, 1, [], []), (.istore 5, 2, [], [])]),
  (106, [(.iinc 7 1, 3, [], []), (.goto (-62), 3, [47], [])]),
  (112, [(.iload 6, 2, [], []), (.iload 5, 2, [], []), (.invokestatic 152, 3, [4], []), (.istore 7, 2, [], []), (.iload 7, 2, [], []), (.ifCond .ne 5, 3, [128], []), (.iconst (-1), 1, [], []), (.ireturn, 1, [], [])]),
  (128, [(.iload 4, 2, [], []), (.ifCond .ne 11, 3, [141], []), (.iload 5, 2, [], []), (.iload 7, 2, [], []), (.idiv, 1, [], []), (.goto 8, 3, [146], [])]),
  (141, [(.iload 6, 2, [], []), (.iload 7, 2, [], []), (.idiv, 1, [], [])]),
  (146, [(.ireturn, 1, [], [])])]
def Ou_findOdds_cl : List (Instr × Nat) := [(.invokevirtual 144, 0), (.invokestatic 148, 1), (.invokevirtual 40, 2), (.invokevirtual 44, 3), (.invokestatic 152, 4)]
set_option maxRecDepth 20000 in
theorem Ou_findOdds_ck : Ou_findOdds_bk.all (fun b => ax_chB 4 9 cX4_findOdds Ou_findOdds_cl b.1 b.2) = true := by decide +kernel
def Ou_findOdds_cs : Ct := (5, 5, 1, (0, 0), fun as σ => (match as with
    | [.inr (.inr (.inl (k, 0, 4))), .inr (.inr (.inl (q1, 0, 1))), .inr (.inr (.inl (q2, 0, 7))), .inl a3, .inl a4] => Ou_findOdds_pre k q1 q2 a3 a4 σ
    | _ => False), fun as σ r σ' => (match as with
    | [.inr (.inr (.inl (k, 0, 4))), .inr (.inr (.inl (q1, 0, 1))), .inr (.inr (.inl (q2, 0, 7))), .inl a3, .inl a4] => Ou_findOdds_post k q1 q2 a3 a4 σ r σ'
    | _ => False))
theorem Ou_findOdds_w : ∀ w ∈ ([.instanceMethod yX4_findOdds, .selects yX4_findOdds.cls yX4_findOdds yX4_findOdds, .initialized yX4_findOdds.cls, .code yX4_findOdds cX4_findOdds 9 (some .int)] : List Cond), w ∈ ax_tb := ax_w4 (ax_m5 2 (by decide +kernel) rfl) (ax_m5 3 (by decide +kernel) rfl) (ax_m1 3 (by decide +kernel) rfl) (ax_m5 4 (by decide +kernel) rfl)
theorem Ou_findOdds_ds : yX4_findOdds.cls ≠ "java/lang/invoke/MethodHandle" ∧ yX4_findOdds.cls ≠ "java/lang/invoke/VarHandle" ∧ (parseMethodDescriptor yX4_findOdds.desc).map (fun d => d.parameters.length) = some 4 := by decide +kernel
def Ou_findOdds_vc : Prop := ∀ (k : Nat) (q1 : Nat) (q2 : Nat) (a3 : Int) (a4 : Int) (σ : Hp), ax_H σ → Ou_findOdds_pre k q1 q2 a3 a4 σ →
  ∃ n' : Nat, k = k ∧ q1 = q1 ∧ q2 = q2 ∧ a3 = a3 ∧ a4 = a4 ∧ Ou_findOdds_I9 k q1 q2 a3 a4 σ n' 0 1 0 σ
def Ou_findOdds_vc9 : Prop := ∀ (k : Nat) (q1 : Nat) (q2 : Nat) (a3 : Int) (a4 : Int) (σ0 : Hp), Ou_findOdds_pre k q1 q2 a3 a4 σ0 → ∀ (n : Nat) (v5 : Int) (v6 : Int) (v7 : Int) (σ : Hp), ax_H σ → Ou_findOdds_I9 k q1 q2 a3 a4 σ0 n v5 v6 v7 σ →
  (σ q1 9 ≤ v7 →
    ∃ n' : Nat, n' < n ∧ k = k ∧ q1 = q1 ∧ q2 = q2 ∧ a3 = a3 ∧ a4 = a4 ∧ Ou_findOdds_I47 k q1 q2 a3 a4 σ0 n' v5 v6 0 σ) ∧
  (¬ (σ q1 9 ≤ v7) →
    Fa_hearsNews_pre q1 v7 σ ∧
    ∀ (r2 : Int) (σ1 : Hp), Fa_hearsNews_post q1 v7 σ r2 σ1 →
    (r2 = 0 →
      ∃ n' : Nat, n' < n ∧ k = k ∧ q1 = q1 ∧ q2 = q2 ∧ a3 = a3 ∧ a4 = a4 ∧ Ou_findOdds_I9 k q1 q2 a3 a4 σ0 n' v5 (wr (v6 * 1)) (wr (v7 + 1)) σ1) ∧
    (¬ (r2 = 0) →
      ∃ n' : Nat, n' < n ∧ k = k ∧ q1 = q1 ∧ q2 = q2 ∧ a3 = a3 ∧ a4 = a4 ∧ Ou_findOdds_I9 k q1 q2 a3 a4 σ0 n' v5 (wr (v6 * 100)) (wr (v7 + 1)) σ1))
def Ou_findOdds_vc47 : Prop := ∀ (k : Nat) (q1 : Nat) (q2 : Nat) (a3 : Int) (a4 : Int) (σ0 : Hp), Ou_findOdds_pre k q1 q2 a3 a4 σ0 → ∀ (n : Nat) (v5 : Int) (v6 : Int) (v7 : Int) (σ : Hp), ax_H σ → Ou_findOdds_I47 k q1 q2 a3 a4 σ0 n v5 v6 v7 σ →
  (64 ≤ v7 →
    Ou_commonDivisor_pre v6 v5 σ ∧
    ∀ (r2 : Int) (σ1 : Hp), Ou_commonDivisor_post v6 v5 σ r2 σ1 →
    (¬ r2 = 0 →
      (¬ a4 = 0 →
        ¬ r2 = 0 ∧
        Ou_findOdds_post k q1 q2 a3 a4 σ0 (iDiv v6 r2) σ1) ∧
      (¬ (¬ a4 = 0) →
        ¬ r2 = 0 ∧
        Ou_findOdds_post k q1 q2 a3 a4 σ0 (iDiv v5 r2) σ1)) ∧
    (¬ (¬ r2 = 0) →
      Ou_findOdds_post k q1 q2 a3 a4 σ0 (-1) σ1)) ∧
  (¬ (64 ≤ v7) →
    Ou_weightOf_pre q1 v7 σ ∧
    ∀ (r4 : Int) (σ3 : Hp), Ou_weightOf_post q1 v7 σ r4 σ3 →
    (¬ r4 = 0 →
      St_copy_pre (k + 1) q2 σ3 ∧
      ∀ σ5 : Hp, St_copy_post (k + 1) q2 σ3 σ5 →
      Fa_pass_pre q1 (k + 1) v7 σ5 ∧
      ∀ σ6 : Hp, Fa_pass_post q1 (k + 1) v7 σ5 σ6 →
      (¬ σ6 (k + 1) 2 = a3 →
        ∃ n' : Nat, n' < n ∧ k = k ∧ q1 = q1 ∧ q2 = q2 ∧ a3 = a3 ∧ a4 = a4 ∧ Ou_findOdds_I47 k q1 q2 a3 a4 σ0 n' v5 v6 (wr (v7 + 1)) σ6) ∧
      (¬ (¬ σ6 (k + 1) 2 = a3) →
        ∃ n' : Nat, n' < n ∧ k = k ∧ q1 = q1 ∧ q2 = q2 ∧ a3 = a3 ∧ a4 = a4 ∧ Ou_findOdds_I47 k q1 q2 a3 a4 σ0 n' (wr (v5 + r4)) v6 (wr (v7 + 1)) σ6)) ∧
    (¬ (¬ r4 = 0) →
      ∃ n' : Nat, n' < n ∧ k = k ∧ q1 = q1 ∧ q2 = q2 ∧ a3 = a3 ∧ a4 = a4 ∧ Ou_findOdds_I47 k q1 q2 a3 a4 σ0 n' v5 v6 (wr (v7 + 1)) σ3))
theorem Ou_findOdds_p : Ou_findOdds_vc := by
  intro k f q a b σ hH hp
  exact ⟨100, rfl, rfl, rfl, rfl, rfl, 0, rfl, Nat.zero_le _, rfl, rfl, rfl, rfl⟩
theorem lwr_lt {σ : Hp} {k : Nat} (h : FS σ k) {i : Nat} (hi : i ≤ 6) : lwr (famX σ k) i ≤ 100000000 := by
  rw [lwr_pow]; exact h.nw hi
theorem Ou_findOdds_p9 : Ou_findOdds_vc9 := by
  intro k f q a b σ0 hp m v5 v6 v7 σ hH hI
  obtain ⟨rfl, rfl, hW⟩ := hp
  obtain ⟨i, rfl, hi, rfl, rfl, rfl, rfl⟩ := hI
  have hF := hW.2.1
  have hn6 := hF.n6
  rw [hF.e9]
  refine ⟨fun h => ⟨64, by omega, rfl, rfl, rfl, rfl, rfl, 0, rfl, by omega, rfl, Fr.rf, rfl, by rw [show fN (famX σ f) = i by omega]⟩, fun h => ⟨⟨by omega, by omega⟩, ?_⟩⟩
  rintro r2 σ1 ⟨rfl, rfl⟩
  rw [Int.toNat_natCast]
  have eA : fAmt (famX σ1 f) i = σ1 (f + 6) i := tr_in (by omega)
  have h1 := lwr_lt hF (i := i) (by omega)
  have h2 := lwr_lt hF (i := i + 1) (by omega)
  rw [wr1 (by omega) (by omega)]
  refine ⟨fun h3 => ?_, fun h3 => ?_⟩
  · have hz : σ1 (f + 6) i ≤ 0 := by
      by_cases z : σ1 (f + 6) i ≤ 0
      · exact z
      · rw [if_neg z] at h3; omega
    refine ⟨100 - (i + 1), by omega, rfl, rfl, rfl, rfl, rfl, i + 1, by simp, by omega, rfl, rfl, rfl, ?_⟩
    rw [lwr_s, eA, if_neg (by omega), Int.mul_one, Nat.mul_one, wr_id (by omega) (by omega)]
  · have hz : ¬ σ1 (f + 6) i ≤ 0 := fun z => h3 (by rw [if_pos z])
    refine ⟨100 - (i + 1), by omega, rfl, rfl, rfl, rfl, rfl, i + 1, by simp, by omega, rfl, rfl, rfl, ?_⟩
    rw [lwr_s, eA, if_pos (by omega)] at h2 ⊢
    rw [wr_id (by omega) (by omega)]
    simp
theorem Ou_findOdds_p47 : Ou_findOdds_vc47 := by
  intro k f q a b σ0 hp m v5 v6 v7 σ hH hI
  obtain ⟨rfl, rfl, hW⟩ := hp
  obtain ⟨i, rfl, hi, rfl, hf, rfl, rfl⟩ := hI
  have hF := hW.2.1
  have hn6 := hF.n6
  have hl := lwr_lt hF hn6
  have hl0 : 0 < lwr (famX σ0 f) (fN (famX σ0 f)) := by rw [lwr_pow]; exact Nat.pow_pos (by decide)
  have ho : ∀ j, j ≤ 64 → own (famX σ0 f) (stX σ0 31) a j ≤ 100000000 := fun j hj =>
    Nat.le_trans (own_le _ _ _ _) (Nat.le_trans (sW_mono _ _ hj) (Nat.le_trans (sW_tot (i := 6) hF.okO) (hF.nw (by omega))))
  have hoi := ho i hi
  obtain ⟨hW1, hfam, hnow⟩ := hW.keep hf (fun c hc => Or.inl hc)
  have hst : stX σ 31 = stX σ0 31 := stX_eq hnow
  refine ⟨fun h => ⟨⟨by omega, by omega, by omega, by omega⟩, ?_⟩, fun h => ⟨⟨hW1.1, hW1.2.1, by omega, by omega⟩, ?_⟩⟩
  · have h64 : i = 64 := by omega
    subst h64
    rintro r2 σ1 ⟨rfl, rfl⟩
    rw [Int.toNat_natCast, Int.toNat_natCast]
    have hg0 : 0 < Nat.gcd (lwr (famX σ0 f) (fN (famX σ0 f))) (own (famX σ0 f) (stX σ0 31) a 64) := Nat.gcd_pos_of_pos_left _ hl0
    have hgl : Nat.gcd (lwr (famX σ0 f) (fN (famX σ0 f))) (own (famX σ0 f) (stX σ0 31) a 64) ≤ lwr (famX σ0 f) (fN (famX σ0 f)) := Nat.gcd_le_left _ hl0
    refine ⟨fun h2 => ⟨fun h3 => ⟨h2, hf, ?_⟩, fun h3 => ⟨h2, hf, ?_⟩⟩, fun h2 => absurd (Classical.not_not.mp h2) (by omega)⟩
    · unfold odd
      rw [if_neg h3]
      exact iDiv_n (by omega) hg0 (by omega)
    · unfold odd
      rw [if_pos (Classical.not_not.mp h3)]
      exact iDiv_n (by omega) hg0 (by omega)
  · rintro r4 σ3 ⟨rfl, rfl⟩
    rw [Int.toNat_natCast, hfam, wr1 (by omega) (by omega)]
    have ho1 := ho (i + 1) (by omega)
    refine ⟨fun h2 => ⟨⟨Or.inl rfl, Or.inr (Or.inr rfl), by decide⟩, ?_⟩, fun h2 => ⟨64 - (i + 1), by omega, rfl, rfl, rfl, rfl, rfl, i + 1, by simp, by omega, rfl, hf, ?_, rfl⟩⟩
    · rintro σ5 ⟨hf5, hs5⟩
      have hf05 : Fr (sg f 4) σ0 σ5 := hf.tr (hf5.mono (by simp [sg]))
      have hok : OKs 999 (stX σ5 4) := by rw [hs5]; exact hW1.2.2.1
      obtain ⟨p1, p2⟩ := hW.pass hf05 (fun c hc => Or.inl hc) (by omega) hok (b := (i : Int)) (Or.inr ⟨by omega, by omega⟩)
      refine ⟨p1, fun σ6 h6 => ?_⟩
      obtain ⟨g1, g2⟩ := p2 σ6 h6
      rw [hs5, hst] at g2
      have e2 : σ6 (3 + 1) 2 = (pss (famX σ0 f) (stX σ0 31) (i : Int) (stX σ0 31).2.2.2.2.1).2.2.1 := by
        have e3 : σ6 (3 + 1) 2 = (stp (famX σ0 f) (i : Int) (stX σ0 31)).2.2.1 := by rw [← g2]; rfl
        rw [e3]
        unfold stp nws nwd
        rw [if_neg (by omega), if_neg (by omega)]
      rw [e2]
      rw [own_s] at ho1
      refine ⟨fun h3 => ⟨64 - (i + 1), by omega, rfl, rfl, rfl, rfl, rfl, i + 1, by simp, by omega, rfl, hf05.tr g1, ?_, rfl⟩, fun h3 => ⟨64 - (i + 1), by omega, rfl, rfl, rfl, rfl, rfl, i + 1, by simp, by omega, rfl, hf05.tr g1, ?_, rfl⟩⟩
      · rw [own_s, if_neg h3]; simp
      · rw [if_pos (Classical.not_not.mp h3)] at ho1
        rw [own_s, if_pos (Classical.not_not.mp h3), wr_id (by omega) (by omega)]
        simp
    · have : wgt (famX σ0 f) i 6 = 0 := by omega
      rw [own_s, this]
      simp
def Ou_findOdds_I : List AV → Hp → Nat → Nat → List AV → List AV → Hp → Prop := fun as σ0 pc n st ls σ => (match as with
    | [.inr (.inr (.inl (k, 0, 4))), .inr (.inr (.inl (q1, 0, 1))), .inr (.inr (.inl (q2, 0, 7))), .inl a3, .inl a4] => (bif Nat.beq pc 9 then (match st, ls with
      | [], [.inr (.inr (.inl (k', 0, 4))), .inr (.inr (.inl (q1', 0, 1))), .inr (.inr (.inl (q2', 0, 7))), .inl a3', .inl a4', .inl v5, .inl v6, .inl v7, _] => k = k' ∧ q1 = q1' ∧ q2 = q2' ∧ a3 = a3' ∧ a4 = a4' ∧ Ou_findOdds_I9 k q1 q2 a3 a4 σ0 n v5 v6 v7 σ
      | _, _ => False) else (bif Nat.beq pc 47 then (match st, ls with
      | [], [.inr (.inr (.inl (k', 0, 4))), .inr (.inr (.inl (q1', 0, 1))), .inr (.inr (.inl (q2', 0, 7))), .inl a3', .inl a4', .inl v5, .inl v6, .inl v7, _] => k = k' ∧ q1 = q1' ∧ q2 = q2' ∧ a3 = a3' ∧ a4 = a4' ∧ Ou_findOdds_I47 k q1 q2 a3 a4 σ0 n v5 v6 v7 σ
      | _, _ => False) else False))
    | _ => False)
def Ou_findOdds_ct : Nat → Ct := fun n => match n with
  | 0 => Fa_hearsNews_cs
  | 1 => Ou_weightOf_cs
  | 2 => St_copy_cs
  | 3 => Fa_pass_cs
  | 4 => Ou_commonDivisor_cs
  | _ => Ou_findOdds_cs
set_option maxRecDepth 20000 in
set_option maxHeartbeats 4000000 in
theorem Ou_findOdds_met {l : Launch} {D : va_G} {ad : Nat → Nat} {ca : Nat → ClassId} {L : Nat} {fx : Nat → Int} : ax_MC l D ad ca L fx yX4_findOdds cX4_findOdds 9 (some .int) 6 Ou_findOdds_cs := by
  refine ax_met (oc := 4) (ct := Ou_findOdds_ct) (calls := Ou_findOdds_cl) (bs := Ou_findOdds_bk) (cut := fun pc => Nat.beq pc 9 || Nat.beq pc 47) (f := 13) (I := Ou_findOdds_I) (by decide) rfl rfl Ou_findOdds_ck (List.forall_mem_cons.mpr ⟨ax_cwV Fa_hearsNews_met (by decide) (by decide) rfl (by decide) rfl (ax_m5 5 (by decide +kernel) rfl) Fa_hearsNews_w rfl Fa_hearsNews_ds, List.forall_mem_cons.mpr ⟨ax_cwS Ou_weightOf_met (by decide) (by decide) (ax_m5 6 (by decide +kernel) rfl) Ou_weightOf_w rfl Ou_weightOf_ds, List.forall_mem_cons.mpr ⟨ax_cwV St_copy_met (by decide) (by decide) rfl (by decide) rfl (ax_m4 85 (by decide +kernel) rfl) St_copy_w rfl St_copy_ds, List.forall_mem_cons.mpr ⟨ax_cwV Fa_pass_met (by decide) (by decide) rfl (by decide) rfl (ax_m4 89 (by decide +kernel) rfl) Fa_pass_w rfl Fa_pass_ds, List.forall_mem_cons.mpr ⟨ax_cwS Ou_commonDivisor_met (by decide) (by decide) (ax_m5 9 (by decide +kernel) rfl) Ou_commonDivisor_w rfl Ou_commonDivisor_ds, fun _ h => absurd h List.not_mem_nil⟩⟩⟩⟩⟩) ?_ ?_
  · intro as σ0 hp hH
    match as, hp with
    | [.inr (.inr (.inl (k, 0, 4))), .inr (.inr (.inl (q1, 0, 1))), .inr (.inr (.inl (q2, 0, 7))), .inl a3, .inl a4], hp => exact ⟨rfl, Ou_findOdds_p k q1 q2 a3 a4 σ0 hH hp⟩
  · intro as σ0 hp n pc st ls σ hH hI
    match as, hp, hI with
    | [.inr (.inr (.inl (k, 0, 4))), .inr (.inr (.inl (q1, 0, 1))), .inr (.inr (.inl (q2, 0, 7))), .inl a3, .inl a4], hp, hI =>
      rcases ax_bifE hI with ⟨hpc, hI⟩ | ⟨-, hI⟩
      · have := Nat.eq_of_beq_eq_true hpc
        subst this
        match st, ls, hI with
        | [], [.inr (.inr (.inl (k', 0, 4))), .inr (.inr (.inl (q1', 0, 1))), .inr (.inr (.inl (q2', 0, 7))), .inl a3', .inl a4', .inl v5, .inl v6, .inl v7, _], hI =>
          obtain ⟨rfl, rfl, rfl, rfl, rfl, hI⟩ := hI
          exact Ou_findOdds_p9 k q1 q2 a3 a4 σ0 hp n v5 v6 v7 σ hH hI
      rcases ax_bifE hI with ⟨hpc, hI⟩ | ⟨-, hI⟩
      · have := Nat.eq_of_beq_eq_true hpc
        subst this
        match st, ls, hI with
        | [], [.inr (.inr (.inl (k', 0, 4))), .inr (.inr (.inl (q1', 0, 1))), .inr (.inr (.inl (q2', 0, 7))), .inl a3', .inl a4', .inl v5, .inl v6, .inl v7, _], hI =>
          obtain ⟨rfl, rfl, rfl, rfl, rfl, hI⟩ := hI
          exact Ou_findOdds_p47 k q1 q2 a3 a4 σ0 hp n v5 v6 v7 σ hH hI
      exact False.elim hI
