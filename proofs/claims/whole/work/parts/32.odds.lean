-- THE OUTLOOK: odds
/-- the factor of one person in the weight of a set -/
def wfc1 (F : Fam) (x j : Nat) : Nat := if j < fN F ∧ 0 < fAmt F j then (if x.testBit j then (fOdd F j).toNat else 100 - (fOdd F j).toNat) else (if x.testBit j then 0 else 1)
def wgt (F : Fam) (x : Nat) : Nat → Nat
  | 0 => 1
  | i + 1 => wgt F x i * wfc1 F x i
theorem wgt_s (F : Fam) (x i : Nat) : wgt F x (i + 1) = wgt F x i * wfc1 F x i := rfl
def lwr (F : Fam) : Nat → Nat
  | 0 => 1
  | i + 1 => lwr F i * (if 0 < fAmt F i then 100 else 1)
theorem lwr_s (F : Fam) (i : Nat) : lwr F (i + 1) = lwr F i * (if 0 < fAmt F i then 100 else 1) := rfl
def own (F : Fam) (s : Sta) (p : Int) : Nat → Nat
  | 0 => 0
  | x + 1 => own F s p x + (if (pss F s (x : Int) s.2.2.2.2.1).2.2.1 = p then wgt F x 6 else 0)
theorem own_s (F : Fam) (s : Sta) (p : Int) (x : Nat) : own F s p (x + 1) = own F s p x + (if (pss F s (x : Int) s.2.2.2.2.1).2.2.1 = p then wgt F x 6 else 0) := rfl
def sW (F : Fam) (i : Nat) : Nat → Nat
  | 0 => 0
  | m + 1 => sW F i m + wgt F m i
def okO (F : Fam) : Prop := ∀ j, 0 ≤ fOdd F j ∧ fOdd F j ≤ 100
theorem nwn_le (f : Nat → Int) (n : Nat) : nwn f n ≤ n := by
  induction n with
  | zero => exact Nat.le_refl 0
  | succ n ih => unfold nwn; split <;> omega
theorem lwr_pow (F : Fam) (i : Nat) : lwr F i = 100 ^ nwn (fAmt F) i := by
  induction i with
  | zero => rfl
  | succ i ih =>
    rw [lwr_s, ih]
    unfold nwn
    split
    · rw [Nat.pow_succ]
    · simp
theorem wgt_le {F : Fam} (ho : okO F) (x i : Nat) : wgt F x i ≤ 100 ^ nwn (fAmt F) i := by
  induction i with
  | zero => exact Nat.le_refl 1
  | succ i ih =>
    have h0 := ho i
    rw [wgt_s]
    unfold nwn wfc1
    by_cases ha : 0 < fAmt F i
    · rw [if_pos ha, Nat.pow_succ]
      refine Nat.mul_le_mul ih ?_
      split
      · split <;> omega
      · split <;> omega
    · rw [if_neg ha, if_neg (fun z => ha z.2), Nat.add_zero]
      split
      · simp
      · simpa using ih
theorem sW_split (F : Fam) (i m k : Nat) (g : Nat → Nat) (hg : ∀ x, x < k → wgt F (m + x) i = g x) : ∀ j, j ≤ k → sW F i (m + j) = sW F i m + (List.range j).foldl (fun a x => a + g x) 0 := by
  intro j
  induction j with
  | zero => intro _; simp
  | succ j ih =>
    intro hj
    rw [show m + (j + 1) = (m + j) + 1 from rfl]
    show sW F i (m + j) + wgt F (m + j) i = _
    rw [ih (by omega), hg j (by omega), List.range_succ, List.foldl_append]
    simp; omega
theorem tb_low {x i j : Nat} (h : j < i) : (2 ^ i + x).testBit j = x.testBit j := by
  rw [Nat.add_comm, Nat.testBit_eq_decide_div_mod_eq, Nat.testBit_eq_decide_div_mod_eq]
  have : (x + 2 ^ i) / 2 ^ j % 2 = x / 2 ^ j % 2 := by
    obtain ⟨d, rfl⟩ : ∃ d, i = j + 1 + d := ⟨i - j - 1, by omega⟩
    rw [show 2 ^ (j + 1 + d) = 2 ^ j * (2 * 2 ^ d) by rw [Nat.pow_add, Nat.pow_succ, Nat.mul_assoc], Nat.add_mul_div_left _ _ (Nat.two_pow_pos j), Nat.add_mul_mod_self_left]
  rw [this]
theorem tb_at {x i : Nat} (h : x < 2 ^ i) : (2 ^ i + x).testBit i = true ∧ x.testBit i = false := by
  constructor
  · rw [Nat.testBit_two_pow_add_eq, Nat.testBit_lt_two_pow h]; rfl
  · exact Nat.testBit_lt_two_pow h
theorem wgt_low (F : Fam) {x i : Nat} : ∀ j, j ≤ i → wgt F (2 ^ i + x) j = wgt F x j := by
  intro j
  induction j with
  | zero => intro _; rfl
  | succ j ih =>
    intro hj
    rw [wgt_s, wgt_s, ih (by omega)]
    unfold wfc1
    rw [tb_low (by omega)]
theorem sum_mul (c : Nat) (g : Nat → Nat) : ∀ n, (List.range n).foldl (fun a x => a + g x * c) 0 = (List.range n).foldl (fun a x => a + g x) 0 * c := by
  intro n
  induction n with
  | zero => simp
  | succ n ih => rw [List.range_succ, List.foldl_append, List.foldl_append, ih]; simp [Nat.add_mul]
theorem sW_f (F : Fam) (i n : Nat) : sW F i n = (List.range n).foldl (fun a x => a + wgt F x i) 0 := by
  have := sW_split F i 0 n (fun x => wgt F x i) (fun x _ => by rw [Nat.zero_add]) n (Nat.le_refl n)
  rw [Nat.zero_add] at this
  rw [this]
  show sW F i 0 + _ = _
  unfold sW
  omega
theorem fold_ext {g h : Nat → Nat} : ∀ n, (∀ x, x < n → g x = h x) → (List.range n).foldl (fun a x => a + g x) 0 = (List.range n).foldl (fun a x => a + h x) 0 := by
  intro n
  induction n with
  | zero => intro _; rfl
  | succ n ih => intro hx; rw [List.range_succ, List.foldl_append, List.foldl_append, ih (fun x h => hx x (by omega))]; simp [hx n (by omega)]
theorem sW_tot {F : Fam} (ho : okO F) (i : Nat) : sW F i (2 ^ i) ≤ 100 ^ nwn (fAmt F) i := by
  induction i with
  | zero => exact Nat.le_refl 1
  | succ i ih =>
    have h0 := ho i
    rw [Nat.pow_succ, Nat.mul_two]
    rw [sW_split F (i + 1) (2 ^ i) (2 ^ i) (fun x => wgt F x i * (if i < fN F ∧ 0 < fAmt F i then (fOdd F i).toNat else 0)) (fun x hx => by
      rw [wgt_s, wgt_low F i (Nat.le_refl i)]
      unfold wfc1
      rw [(tb_at hx).1]
      simp) (2 ^ i) (Nat.le_refl _)]
    rw [sum_mul, ← sW_f]
    have e1 : sW F (i + 1) (2 ^ i) = sW F i (2 ^ i) * (if i < fN F ∧ 0 < fAmt F i then 100 - (fOdd F i).toNat else 1) := by
      rw [sW_f, sW_f, ← sum_mul]
      refine fold_ext _ (fun x hx => ?_)
      rw [wgt_s]
      unfold wfc1
      rw [(tb_at hx).2]
      simp
    rw [e1, ← Nat.mul_add]
    unfold nwn
    by_cases ha : 0 < fAmt F i
    · rw [if_pos ha, Nat.pow_succ]
      refine Nat.mul_le_mul ih ?_
      split <;> omega
    · rw [if_neg ha, if_neg (fun z => ha z.2), if_neg (fun z => ha z.2), Nat.add_zero, Nat.add_zero, Nat.mul_one]
      exact ih
theorem own_le (F : Fam) (s : Sta) (p : Int) (m : Nat) : own F s p m ≤ sW F 6 m := by
  induction m with
  | zero => exact Nat.le_refl 0
  | succ m ih =>
    rw [own_s]
    show _ ≤ sW F 6 m + wgt F m 6
    split <;> omega
theorem sW_mono (F : Fam) (i : Nat) {m n : Nat} (h : m ≤ n) : sW F i m ≤ sW F i n := by
  induction n with
  | zero => have : m = 0 := by omega
            subst this; exact Nat.le_refl _
  | succ n ih =>
    by_cases hmn : m = n + 1
    · subst hmn; exact Nat.le_refl _
    · have := ih (by omega)
      show _ ≤ sW F i n + wgt F n i
      omega
theorem nwn_ext {f g : Nat → Int} {n : Nat} (h : ∀ j, j < n → f j = g j) : nwn f n = nwn g n := by
  induction n with
  | zero => rfl
  | succ n ih => unfold nwn; rw [ih (fun j hj => h j (by omega)), h n (by omega)]
theorem nwn_mono (f : Nat → Int) {m n : Nat} (h : m ≤ n) : nwn f m ≤ nwn f n := by
  induction n with
  | zero => have : m = 0 := by omega
            subst this; exact Nat.le_refl _
  | succ n ih =>
    by_cases hmn : m = n + 1
    · subst hmn; exact Nat.le_refl _
    · have := ih (by omega)
      unfold nwn
      split <;> omega
theorem FS.nw {σ : Hp} {k : Nat} (h : FS σ k) {i : Nat} (hi : i ≤ 6) : 100 ^ nwn (fAmt (famX σ k)) i ≤ 100000000 := by
  have e : nwn (fAmt (famX σ k)) 6 = nwn (σ (k + 6)) 6 := nwn_ext (fun j hj => tr_in hj)
  have h4 := h.1.2.2
  have hm := nwn_mono (fAmt (famX σ k)) hi
  exact Nat.pow_le_pow_right (n := 100) (by decide) (show nwn (fAmt (famX σ k)) i ≤ 4 by omega)
theorem FS.okO {σ : Hp} {k : Nat} (h : FS σ k) : okO (famX σ k) := by
  intro j
  show 0 ≤ tr 6 (σ (k + 5)) j ∧ tr 6 (σ (k + 5)) j ≤ 100
  by_cases hj : j < 6
  · rw [tr_in hj]; exact (h.2.2.2.1 j hj).2.1
  · rw [tr_out (by omega)]; decide
def Ou_weightOf_pre (f : Nat) (a : Int) (σ : Hp) : Prop := FO f ∧ FS σ f ∧ 0 ≤ a ∧ a < 64
def Ou_weightOf_post (f : Nat) (a : Int) (σ : Hp) (r : Int) (σ' : Hp) : Prop := σ' = σ ∧ r = (wgt (famX σ f) a.toNat 6 : Nat)
def Ou_weightOf_I4 (f : Nat) (a : Int) (σ0 : Hp) (m : Nat) (v2 v3 : Int) (σ : Hp) : Prop := ∃ i : Nat, v3 = i ∧ i ≤ 6 ∧ m = 6 - i ∧ σ = σ0 ∧ v2 = (wgt (famX σ0 f) a.toNat i : Nat)
def Ou_weightOf_bk : List (Nat × List Item) := [(0, [(.iconst 1, 1, [], []), (.istore_n 2, 1, [], []), (.iconst 0, 1, [], []), (.istore_n 3, 1, [], [])]),
  (4, [(.iload_n 3, 1, [], []), (.bipush 6, 2, [], []), (.if_icmp .ge 77, 3, [84], []), (.iload_n 1, 1, [], []), (.iload_n 3, 1, [], []), (.ishr, 1, [], []), (.iconst 1, 1, [], []), (.iand, 1, [], []), (.iconst 1, 1, [], []), (.if_icmp .ne 7, 3, [23], []), (.iconst 1, 1, [], []), (.goto 4, 3, [24], [])]),
  (23, [(.iconst 0, 1, [], [])]),
  (24, [(.istore 4, 2, [], []), (.iload_n 3, 1, [], []), (.aload_n 0, 1, [], []), (.getfield 50, 3, [1, 9, 0, 0, 0, 0], []), (.if_icmp .ge 40, 3, [71], []), (.aload_n 0, 1, [], []), (.iload_n 3, 1, [], []), (.invokevirtual 144, 3, [0], []), (.ifCond .eq 32, 3, [71], []), (.iload_n 2, 1, [], []), (.iload 4, 2, [], []), (.ifCond .eq 12, 3, [57], []), (.aload_n 0, 1, [], []), (.getfield 155, 3, [1, 4, 4, 5, 1, 6], []), (.iload_n 3, 1, [], []), (.iaload, 1, [], []), (.goto 12, 3, [66], [])]),
  (57, [(.bipush 100, 2, [], []), (.aload_n 0, 1, [], []), (.getfield 155, 3, [1, 4, 4, 5, 1, 6], []), (.iload_n 3, 1, [], []), (.iaload, 1, [], []), (.isub, 1, [], [])]),
  (66, [(.imul, 1, [], []), (.istore_n 2, 1, [], []), (.goto 10, 3, [78], [])]),
  (71, [(.iload 4, 2, [], []), (.ifCond .eq 5, 3, [78], []), (.iconst 0, 1, [], []), (.ireturn, 1, [], [])]),
  (78, [(.iinc 3 1, 3, [], []), (.goto (-77), 3, [4], [])]),
  (84, [(.iload_n 2, 1, [], []), (.ireturn, 1, [], [])])]
def Ou_weightOf_cl : List (Instr × Nat) := [(.invokevirtual 144, 0)]
set_option maxRecDepth 20000 in
theorem Ou_weightOf_ck : Ou_weightOf_bk.all (fun b => ax_chB 4 5 cX4_weightOf Ou_weightOf_cl b.1 b.2) = true := by decide +kernel
def Ou_weightOf_cs : Ct := (2, 0, 1, (0, 0), fun as σ => (match as with
    | [.inr (.inr (.inl (q1, 0, 1))), .inl a2] => Ou_weightOf_pre q1 a2 σ
    | _ => False), fun as σ r σ' => (match as with
    | [.inr (.inr (.inl (q1, 0, 1))), .inl a2] => Ou_weightOf_post q1 a2 σ r σ'
    | _ => False))
theorem Ou_weightOf_w : ∀ w ∈ ([.static yX4_weightOf, .initialized yX4_weightOf.cls, .code yX4_weightOf cX4_weightOf 5 (some .int)] : List Cond), w ∈ ax_tb := ax_w3 (ax_m5 7 (by decide +kernel) rfl) (ax_m1 3 (by decide +kernel) rfl) (ax_m5 8 (by decide +kernel) rfl)
theorem Ou_weightOf_ds : yX4_weightOf.cls ≠ "java/lang/invoke/MethodHandle" ∧ yX4_weightOf.cls ≠ "java/lang/invoke/VarHandle" ∧ (parseMethodDescriptor yX4_weightOf.desc).map (fun d => d.parameters.length) = some 2 := by decide +kernel
def Ou_weightOf_vc : Prop := ∀ (q1 : Nat) (a2 : Int) (σ : Hp), ax_H σ → Ou_weightOf_pre q1 a2 σ →
  ∃ n' : Nat, q1 = q1 ∧ a2 = a2 ∧ Ou_weightOf_I4 q1 a2 σ n' 1 0 σ
def Ou_weightOf_vc4 : Prop := ∀ (q1 : Nat) (a2 : Int) (σ0 : Hp), Ou_weightOf_pre q1 a2 σ0 → ∀ (n : Nat) (v2 : Int) (v3 : Int) (σ : Hp), ax_H σ → Ou_weightOf_I4 q1 a2 σ0 n v2 v3 σ →
  (6 ≤ v3 →
    Ou_weightOf_post q1 a2 σ0 v2 σ) ∧
  (¬ (6 ≤ v3) →
    (¬ iAnd (iShr a2 v3) 1 = 1 →
      (σ q1 9 ≤ v3 →
        ((0 : Int) = (0 : Int) →
          ∃ n' : Nat, n' < n ∧ q1 = q1 ∧ a2 = a2 ∧ Ou_weightOf_I4 q1 a2 σ0 n' v2 (wr (v3 + 1)) σ) ∧
        (¬ ((0 : Int) = (0 : Int)) →
          Ou_weightOf_post q1 a2 σ0 0 σ)) ∧
      (¬ (σ q1 9 ≤ v3) →
        Fa_hearsNews_pre q1 v3 σ ∧
        ∀ (r2 : Int) (σ1 : Hp), Fa_hearsNews_post q1 v3 σ r2 σ1 →
        (r2 = 0 →
          ((0 : Int) = (0 : Int) →
            ∃ n' : Nat, n' < n ∧ q1 = q1 ∧ a2 = a2 ∧ Ou_weightOf_I4 q1 a2 σ0 n' v2 (wr (v3 + 1)) σ1) ∧
          (¬ ((0 : Int) = (0 : Int)) →
            Ou_weightOf_post q1 a2 σ0 0 σ1)) ∧
        (¬ (r2 = 0) →
          ((0 : Int) = (0 : Int) →
            (0 ≤ v3 ∧ v3 < 6) ∧
            ∃ n' : Nat, n' < n ∧ q1 = q1 ∧ a2 = a2 ∧ Ou_weightOf_I4 q1 a2 σ0 n' (wr (v2 * (wr (100 - (σ1 (q1 + 5) v3.toNat))))) (wr (v3 + 1)) σ1) ∧
          (¬ ((0 : Int) = (0 : Int)) →
            (0 ≤ v3 ∧ v3 < 6) ∧
            ∃ n' : Nat, n' < n ∧ q1 = q1 ∧ a2 = a2 ∧ Ou_weightOf_I4 q1 a2 σ0 n' (wr (v2 * (σ1 (q1 + 5) v3.toNat))) (wr (v3 + 1)) σ1)))) ∧
    (¬ (¬ iAnd (iShr a2 v3) 1 = 1) →
      (σ q1 9 ≤ v3 →
        ((1 : Int) = (0 : Int) →
          ∃ n' : Nat, n' < n ∧ q1 = q1 ∧ a2 = a2 ∧ Ou_weightOf_I4 q1 a2 σ0 n' v2 (wr (v3 + 1)) σ) ∧
        (¬ ((1 : Int) = (0 : Int)) →
          Ou_weightOf_post q1 a2 σ0 0 σ)) ∧
      (¬ (σ q1 9 ≤ v3) →
        Fa_hearsNews_pre q1 v3 σ ∧
        ∀ (r4 : Int) (σ3 : Hp), Fa_hearsNews_post q1 v3 σ r4 σ3 →
        (r4 = 0 →
          ((1 : Int) = (0 : Int) →
            ∃ n' : Nat, n' < n ∧ q1 = q1 ∧ a2 = a2 ∧ Ou_weightOf_I4 q1 a2 σ0 n' v2 (wr (v3 + 1)) σ3) ∧
          (¬ ((1 : Int) = (0 : Int)) →
            Ou_weightOf_post q1 a2 σ0 0 σ3)) ∧
        (¬ (r4 = 0) →
          ((1 : Int) = (0 : Int) →
            (0 ≤ v3 ∧ v3 < 6) ∧
            ∃ n' : Nat, n' < n ∧ q1 = q1 ∧ a2 = a2 ∧ Ou_weightOf_I4 q1 a2 σ0 n' (wr (v2 * (wr (100 - (σ3 (q1 + 5) v3.toNat))))) (wr (v3 + 1)) σ3) ∧
          (¬ ((1 : Int) = (0 : Int)) →
            (0 ≤ v3 ∧ v3 < 6) ∧
            ∃ n' : Nat, n' < n ∧ q1 = q1 ∧ a2 = a2 ∧ Ou_weightOf_I4 q1 a2 σ0 n' (wr (v2 * (σ3 (q1 + 5) v3.toNat))) (wr (v3 + 1)) σ3)))))
theorem Ou_weightOf_p : Ou_weightOf_vc := by
  intro f a σ hH hp
  exact ⟨6, rfl, rfl, 0, rfl, by omega, rfl, rfl, rfl⟩
theorem wgt_0 {F : Fam} {x i : Nat} (h : wfc1 F x i = 0) : ∀ j, i < j → wgt F x j = 0 := by
  intro j
  induction j with
  | zero => intro hj; omega
  | succ j ih =>
    intro hj
    rw [wgt_s]
    by_cases hij : i = j
    · subst hij; rw [h, Nat.mul_zero]
    · rw [ih (by omega), Nat.zero_mul]
theorem Ou_weightOf_p4 : Ou_weightOf_vc4 := by
  intro f a σ0 hp m v2 v3 σ hH hI
  obtain ⟨hk, hF, a0, a6⟩ := hp
  obtain ⟨i, rfl, hi, rfl, rfl, rfl⟩ := hI
  refine ⟨fun h => ⟨rfl, by rw [show (6 : Nat) = i by omega]⟩, fun h => ?_⟩
  have hb := bit_01 (x := a) (j := (i : Int)) a0 (by omega) (by omega) (by omega)
  rw [Int.toNat_natCast] at hb
  have hbt : bt a i = a.toNat.testBit i := rfl
  rw [hbt] at hb
  have e9 := hF.e9
  have hn6 := hF.n6
  have eA : fAmt (famX σ f) i = σ (f + 6) i := tr_in (by omega)
  have eO : fOdd (famX σ f) i = σ (f + 5) i := tr_in (by omega)
  have hFi := hF.2.2.2.1 i (by omega)
  have hwl := wgt_le hF.okO a.toNat i
  have hnw := hF.nw (i := i) (by omega)
  have hwl2 := wgt_le hF.okO a.toNat (i + 1)
  have hnw2 := hF.nw (i := i + 1) (by omega)
  rw [wgt_s] at hwl2
  rw [e9, Int.toNat_natCast]
  have go : ∀ (v : Int), v = (wgt (famX σ f) a.toNat (i + 1) : Nat) → ∃ n' : Nat, n' < 6 - i ∧ f = f ∧ a = a ∧ Ou_weightOf_I4 f a σ n' v (wr ((i : Int) + 1)) σ := by
    intro v hv
    exact ⟨6 - (i + 1), by omega, rfl, rfl, i + 1, by rw [wr1 (by omega) (by omega)]; simp, by omega, rfl, rfl, hv⟩
  have zero : wfc1 (famX σ f) a.toNat i = 0 → Ou_weightOf_post f a σ 0 σ := fun z => ⟨rfl, by rw [wgt_0 z 6 (by omega)]; rfl⟩
  refine ⟨fun h1 => ?_, fun h1 => ?_⟩
  · have hbf : a.toNat.testBit i = false := by
      cases hq : a.toNat.testBit i with
      | false => rfl
      | true => exact absurd (hb.mpr hq) h1
    refine ⟨fun h2 => ⟨fun _ => go _ ?_, fun z => absurd rfl z⟩, fun h2 => ⟨⟨by omega, by omega⟩, ?_⟩⟩
    · rw [wgt_s]; unfold wfc1; rw [if_neg (by omega), hbf]; simp
    · rintro r2 σ1 ⟨rfl, rfl⟩
      rw [Int.toNat_natCast]
      refine ⟨fun h3 => ⟨fun _ => go _ ?_, fun z => absurd rfl z⟩, fun h3 => ⟨fun _ => ⟨⟨by omega, by omega⟩, go _ ?_⟩, fun z => absurd rfl z⟩⟩
      · have : σ1 (f + 6) i ≤ 0 := by
          by_cases z : σ1 (f + 6) i ≤ 0
          · exact z
          · rw [if_neg z] at h3; omega
        rw [wgt_s]; unfold wfc1; rw [eA, if_neg (by omega), hbf]; simp
      · have h3' : ¬ σ1 (f + 6) i ≤ 0 := fun z => h3 (by rw [if_pos z])
        have ew : wfc1 (famX σ1 f) a.toNat i = 100 - (σ1 (f + 5) i).toNat := by
          unfold wfc1; rw [eA, eO, if_pos ⟨by omega, by omega⟩, hbf]; simp
        rw [ew] at hwl2
        rw [wgt_s, ew, show wr (100 - σ1 (f + 5) i) = ((100 - (σ1 (f + 5) i).toNat : Nat) : Int) by unfold wr; omega, ← Int.natCast_mul, wr_id (by omega) (by omega)]
  · have hbf : a.toNat.testBit i = true := hb.mp (Classical.not_not.mp h1)
    refine ⟨fun h2 => ⟨fun z => absurd z (by decide), fun _ => zero ?_⟩, fun h2 => ⟨⟨by omega, by omega⟩, ?_⟩⟩
    · unfold wfc1; rw [if_neg (by omega), hbf]; simp
    · rintro r2 σ1 ⟨rfl, rfl⟩
      rw [Int.toNat_natCast]
      refine ⟨fun h3 => ⟨fun z => absurd z (by decide), fun _ => zero ?_⟩, fun h3 => ⟨fun z => absurd z (by decide), fun _ => ⟨⟨by omega, by omega⟩, go _ ?_⟩⟩⟩
      · have : σ1 (f + 6) i ≤ 0 := by
          by_cases z : σ1 (f + 6) i ≤ 0
          · exact z
          · rw [if_neg z] at h3; omega
        unfold wfc1; rw [eA, if_neg (by omega), hbf]; simp
      · have h3' : ¬ σ1 (f + 6) i ≤ 0 := fun z => h3 (by rw [if_pos z])
        have ew : wfc1 (famX σ1 f) a.toNat i = (σ1 (f + 5) i).toNat := by
          unfold wfc1; rw [eA, eO, if_pos ⟨by omega, by omega⟩, hbf]; simp
        rw [ew] at hwl2
        rw [wgt_s, ew, show σ1 (f + 5) i = ((σ1 (f + 5) i).toNat : Int) by omega, ← Int.natCast_mul, Int.toNat_natCast, wr_id (by omega) (by omega)]
def Ou_weightOf_I : List AV → Hp → Nat → Nat → List AV → List AV → Hp → Prop := fun as σ0 pc n st ls σ => (match as with
    | [.inr (.inr (.inl (q1, 0, 1))), .inl a2] => (bif Nat.beq pc 4 then (match st, ls with
      | [], [.inr (.inr (.inl (q1', 0, 1))), .inl a2', .inl v2, .inl v3, _] => q1 = q1' ∧ a2 = a2' ∧ Ou_weightOf_I4 q1 a2 σ0 n v2 v3 σ
      | _, _ => False) else False)
    | _ => False)
def Ou_weightOf_ct : Nat → Ct := fun n => match n with
  | 0 => Fa_hearsNews_cs
  | _ => Ou_weightOf_cs
set_option maxRecDepth 20000 in
set_option maxHeartbeats 4000000 in
theorem Ou_weightOf_met {l : Launch} {D : va_G} {ad : Nat → Nat} {ca : Nat → ClassId} {L : Nat} {fx : Nat → Int} : ax_MC l D ad ca L fx yX4_weightOf cX4_weightOf 5 (some .int) 2 Ou_weightOf_cs := by
  refine ax_met (oc := 4) (ct := Ou_weightOf_ct) (calls := Ou_weightOf_cl) (bs := Ou_weightOf_bk) (cut := fun pc => Nat.beq pc 4) (f := 10) (I := Ou_weightOf_I) (by decide) rfl rfl Ou_weightOf_ck (List.forall_mem_cons.mpr ⟨ax_cwV Fa_hearsNews_met (by decide) (by decide) rfl (by decide) rfl (ax_m5 5 (by decide +kernel) rfl) Fa_hearsNews_w rfl Fa_hearsNews_ds, fun _ h => absurd h List.not_mem_nil⟩) ?_ ?_
  · intro as σ0 hp hH
    match as, hp with
    | [.inr (.inr (.inl (q1, 0, 1))), .inl a2], hp => exact ⟨rfl, Ou_weightOf_p q1 a2 σ0 hH hp⟩
  · intro as σ0 hp n pc st ls σ hH hI
    match as, hp, hI with
    | [.inr (.inr (.inl (q1, 0, 1))), .inl a2], hp, hI =>
      rcases ax_bifE hI with ⟨hpc, hI⟩ | ⟨-, hI⟩
      · have := Nat.eq_of_beq_eq_true hpc
        subst this
        match st, ls, hI with
        | [], [.inr (.inr (.inl (q1', 0, 1))), .inl a2', .inl v2, .inl v3, _], hI =>
          obtain ⟨rfl, rfl, hI⟩ := hI
          exact Ou_weightOf_p4 q1 a2 σ0 hp n v2 v3 σ hH hI
      exact False.elim hI
