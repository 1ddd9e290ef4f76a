-- HOW THE ABSTRACT MACHINE STANDS FOR THE REAL ONE
def ax_cv (ad : Nat → Nat) (v : AV) : Value := match v with
  | .inl x => .int (Int32.ofInt x)
  | .inr (.inl x) => .long (Int64.ofInt x)
  | .inr (.inr (.inl x)) => .ref (ad x.1)
  | .inr (.inr (.inr _)) => .null
def ax_fv (ad : Nat → Nat) (ty o k : Nat) (x : Int) : Value := match ty with
  | 2 => .long (Int64.ofInt x)
  | 4 => .ref (ad (k + o))
  | 5 => .ref (ad x.toNat)
  | _ => .int (Int32.ofInt x)
def ax_fs (ad : Nat → Nat) (σ : Hp) (c k : Nat) : List Value := (List.range (ax_F c).length).map fun j => ax_fv ad (ax_fd c j).1 (ax_fd c j).2.1 k (σ k j)
def ax_ce (ca : Nat → ClassId) (ad : Nat → Nat) (σ : Hp) (k : Nat) : va_E := match ax_kd k with
  | (0, c) => .inr (c, ax_fs ad σ c k)
  | (4, n) => .inl (ca k, n, .inr (.inl fun j => Int64.ofInt (σ k j)))
  | (_, n) => .inl (ca k, n, .inl fun j => Int32.ofInt (σ k j))
def ax_ety (t : Nat) : FieldType := match t with
  | 2 => .byte
  | 3 => .boolean
  | 4 => .long
  | _ => .int
def ax_wo (ca : Nat → ClassId) (ad : Nat → Nat) (σ : Hp) : va_W := (List.range ax_N).map fun k => (ad k, ax_ce ca ad σ k)
def ax_okv (L : Nat) (v : AV) : Prop := match v with
  | .inl x => R32 x
  | .inr (.inl x) => R64 x
  | .inr (.inr (.inl x)) => (x.2.1 ≤ 4 ∧ ax_kd x.1 = x.2) ∨ (x.2.1 = 9 ∧ x.1 = 1000) ∨ (x.2 = (8, 17) ∧ x.1 = 1001) ∨ (x.2 = (7, L) ∧ x.1 = 1002) ∨ (x.2 = (6, 11) ∧ x.1 = 1003)
  | .inr (.inr (.inr _)) => True
def ax_okf (ty n : Nat) (x : Int) : Prop := match ty with
  | 0 => R32 x
  | 1 => x = 0 ∨ x = 1
  | 2 => R64 x
  | 3 => 0 ≤ x ∧ x ≤ 65535
  | 5 => 0 ≤ x ∧ ax_kd x.toNat = (0, n)
  | _ => True
def ax_okr (t n : Nat) (f : Nat → Int) : Prop := match t with
  | 0 => ∀ j, j < (ax_F n).length → ax_okf (ax_fd n j).1 (ax_fd n j).2.2.2 (f j)
  | 1 => ∀ j, R32 (f j)
  | 2 => ∀ j, -128 ≤ f j ∧ f j ≤ 127
  | 3 => ∀ j, f j = 0 ∨ f j = 1
  | 4 => ∀ j, R64 (f j)
  | _ => True
/-- the heap holds what its types can hold -/
def ax_H (σ : Hp) : Prop := ∀ k : Nat, ax_okr (ax_kd k).1 (ax_kd k).2 (σ k)
def ax_KK (D : va_G) (ca : Nat → ClassId) (U : State) : Prop := va_K D vwCl [] U ∧ ∀ k : Nat, k < ax_N → (ax_kd k).1 ≠ 0 → ArrOfT U (ca k) (ax_ety (ax_kd k).1) ∧ va_RA U (ca k) (ax_ety (ax_kd k).1)
def ax_A (ad : Nat → Nat) (sz : Nat) : Nat → Prop := fun q => (∃ k, k < ax_N ∧ q = ad k) ∨ sz ≤ q
/-- what lies outside the world and never changes: the script, the words that are no names, the signs -/
def ax_Fo (L : Nat) (fx : Nat → Int) (ad : Nat → Nat) (A : Nat → Prop) (U : State) (H : Heap) : Prop :=
  (∃ xs : Nat → Int32, (∀ j, j < L → xs j = Int32.ofInt (fx j) ∧ R32 (fx j)) ∧ va_X (ad 1002) L xs U H ∧ ¬ A (ad 1002) ∧ ad 1002 < H.size ∧ L < 2 ^ 31) ∧
  va_Z RX5 "NO_NAMES" "[J" (.ref (ad 1001)) A U H ∧ va_T .long (ad 1001) 17 (fun j => .long (Int64.ofInt (ax_nn j))) A U H ∧
  va_Z "java/lang/String" "COMPACT_STRINGS" "Z" (.int 1) A U H ∧ vk_R RX5 239 ";()<>=+-*/%" (ad 1000) U ∧
  vk_S 1 [11] [[59, 40, 41, 60, 62, 61, 43, 45, 42, 47, 37]] (fun _ => ad 1000) (fun _ => ad 1003) A U H ∧
  va_Nw (.methodLinkNest RX1 104 yX8_within "GreyHair") U ∧ va_Nw (.methodLinkNest RX7 32 yX8_within "GreyHair") U
def ax_isSet (v : AV) : Bool := match v with
  | .inr (.inr (.inr _)) => false
  | _ => true
def ax_lv (ad : Nat → Nat) (ls : List AV) : List (Nat × Value) := (List.range ls.length).filterMap fun i => bif ax_isSet (ax_get ls i) then some (i, ax_cv ad (ax_get ls i)) else none

-- numbers
theorem wr_R (x : Int) : R32 (wr x) := by unfold R32 wr; omega
theorem wr_id {x : Int} (h : -2147483648 ≤ x) (h2 : x < 2147483648) : wr x = x := by unfold wr; omega
theorem R32_to (x : Int32) : R32 x.toInt := by
  have h1 := x.le_toInt
  have h2 := x.toInt_lt
  unfold R32; omega
theorem R64_to (x : Int64) : R64 x.toInt := by
  have h1 := x.le_toInt
  have h2 := x.toInt_lt
  unfold R64; omega
theorem o32 {x : Int} (h : R32 x) : (Int32.ofInt x).toInt = x := Int32.toInt_ofInt_of_le h.1 h.2
theorem o64 {x : Int} (h : R64 x) : (Int64.ofInt x).toInt = x := Int64.toInt_ofInt_of_le h.1 h.2
theorem to32 (x : Int32) : Int32.ofInt x.toInt = x := Int32.ofInt_toInt x
theorem to64 (x : Int64) : Int64.ofInt x.toInt = x := Int64.ofInt_toInt x
theorem wr_of (x : Int) : Int32.ofInt (wr x) = Int32.ofInt x := by
  rw [← Int32.toInt_inj, Int32.toInt_ofInt, Int32.toInt_ofInt]
  unfold wr
  have hs : ((Int32.size : Nat) : Int) = 4294967296 := rfl
  simp only [Int.bmod_def, hs]
  omega
theorem e_add (a b : Int) : Int32.ofInt a + Int32.ofInt b = Int32.ofInt (wr (a + b)) := by rw [wr_of, Int32.ofInt_add]
theorem e_sub (a b : Int) : Int32.ofInt a - Int32.ofInt b = Int32.ofInt (wr (a - b)) := by rw [wr_of, Int32.ofInt_sub]
theorem e_mul (a b : Int) : Int32.ofInt a * Int32.ofInt b = Int32.ofInt (wr (a * b)) := by rw [wr_of, Int32.ofInt_mul]
theorem e_neg (a : Int) : - Int32.ofInt a = Int32.ofInt (wr (-a)) := by rw [wr_of, Int32.ofInt_neg]
theorem c_lt {a b : Int} (ha : R32 a) (hb : R32 b) : Int32.ofInt a < Int32.ofInt b ↔ a < b := by rw [Int32.lt_iff_toInt_lt, o32 ha, o32 hb]
theorem c_le {a b : Int} (ha : R32 a) (hb : R32 b) : Int32.ofInt a ≤ Int32.ofInt b ↔ a ≤ b := by rw [Int32.le_iff_toInt_le, o32 ha, o32 hb]
theorem c_eq {a b : Int} (ha : R32 a) (hb : R32 b) : Int32.ofInt a = Int32.ofInt b ↔ a = b := by rw [← Int32.toInt_inj, o32 ha, o32 hb]
theorem R32_0 : R32 0 := by unfold R32; omega
theorem c_0 : Int32.ofInt 0 = 0 := rfl
theorem vp_inA {i : Int} {n : Nat} (hi : R32 i) (h : 0 ≤ i ∧ i < (n : Int)) : vp_in (Int32.ofInt i) n ∧ (Int32.ofInt i).toNatClampNeg = i.toNat := by
  have h1 := o32 hi
  refine ⟨vp_in_iff.mpr (by rw [h1]; exact h), ?_⟩
  show (Int32.ofInt i).toInt.toNat = i.toNat
  rw [h1]

-- lists of locals
theorem ax_get_in {ls : List AV} {i : Nat} (h : ax_isSet (ax_get ls i) = true) : i < ls.length := by
  induction ls generalizing i with
  | nil => simp [ax_get, ax_isSet] at h
  | cons v l ih =>
    cases i with
    | zero => simp
    | succ i => have := ih (i := i) (by simpa [ax_get] using h); simp; omega
theorem ax_get_ok {L : Nat} {ls : List AV} (h : ∀ v ∈ ls, ax_okv L v) (i : Nat) : ax_okv L (ax_get ls i) := by
  induction ls generalizing i with
  | nil => simp [ax_get, ax_okv]
  | cons v l ih =>
    cases i with
    | zero => exact h v (by simp)
    | succ i => exact ih (fun v hv => h v (by simp [hv])) i
theorem ax_set_len (ls : List AV) (i : Nat) (x : AV) : (ax_set ls i x).length = ls.length := by
  induction ls generalizing i with
  | nil => rfl
  | cons v l ih =>
    cases i with
    | zero => rfl
    | succ i => simp [ax_set, ih]
theorem ax_set_ok {L : Nat} {ls : List AV} (h : ∀ v ∈ ls, ax_okv L v) (i : Nat) {x : AV} (hx : ax_okv L x) : ∀ v ∈ ax_set ls i x, ax_okv L v := by
  induction ls generalizing i with
  | nil => intro v hv; simp [ax_set] at hv
  | cons w l ih =>
    cases i with
    | zero =>
      intro v hv
      rcases List.mem_cons.mp hv with rfl | hv
      · exact hx
      · exact h v (by simp [hv])
    | succ i =>
      intro v hv
      rcases List.mem_cons.mp hv with rfl | hv
      · exact h v (by simp)
      · exact ih (fun v hv => h v (by simp [hv])) i v hv
theorem ax_get_set (ls : List AV) (i j : Nat) (x : AV) (hi : i < ls.length) : ax_get (ax_set ls i x) j = if j = i then x else ax_get ls j := by
  induction ls generalizing i j with
  | nil => simp at hi
  | cons w l ih =>
    cases i with
    | zero => cases j with
      | zero => rfl
      | succ j => simp [ax_set, ax_get]
    | succ i => cases j with
      | zero => simp [ax_set, ax_get]
      | succ j => simp only [ax_set, ax_get, Nat.add_right_cancel_iff]; exact ih i j (by simpa using hi)
theorem ax_lv_mem {ad : Nat → Nat} {ls : List AV} {q : Nat × Value} : q ∈ ax_lv ad ls ↔ ax_isSet (ax_get ls q.1) = true ∧ q.2 = ax_cv ad (ax_get ls q.1) := by
  unfold ax_lv
  rw [List.mem_filterMap]
  constructor
  · rintro ⟨i, -, h⟩
    cases hs : ax_isSet (ax_get ls i) with
    | false => simp [hs] at h
    | true =>
      simp only [hs, cond_true, Option.some.injEq] at h
      subst h
      exact ⟨hs, rfl⟩
  · rintro ⟨h1, h2⟩
    refine ⟨q.1, List.mem_range.mpr (ax_get_in h1), ?_⟩
    simp only [h1, cond_true, Option.some.injEq]
    rw [← h2]
theorem ax_lv_at {ad : Nat → Nat} {la : Array Slot} {nL : Nat} {ls : List AV} (h : lv_has la nL (ax_lv ad ls)) {i : Nat} (hs : ax_isSet (ax_get ls i) = true) : la[i]? = some (.val (ax_cv ad (ax_get ls i))) :=
  h.2.2 (i, ax_cv ad (ax_get ls i)) (ax_lv_mem.mpr ⟨hs, rfl⟩)
theorem ax_lv_mono {la : Array Slot} {nL : Nat} {l l' : List (Nat × Value)} (h : lv_has la nL l) (hm : ∀ q ∈ l', q ∈ l) : lv_has la nL l' := ⟨h.1, h.2.1, fun q hq => h.2.2 q (hm q hq)⟩
theorem ax_cat2 {ad : Nat → Nat} {v : AV} (h : ax_isL v = false) : (ax_cv ad v).category = 1 := by
  rcases v with x | x | x | x <;> first | rfl | simp [ax_isL] at h
theorem ax_lv_set {ad : Nat → Nat} {la : Array Slot} {nL : Nat} {ls : List AV} {i : Nat} {x : AV} (hi : i < ls.length) (hh : ax_half ls i = false) (hx : ax_isSet x = true) (h : lv_has la nL ((i, ax_cv ad x) :: (ax_lv ad ls).filter (fun q => !(q.1 == i) && !(q.1 + 1 == i && q.2.category == 2)))) : lv_has la nL (ax_lv ad (ax_set ls i x)) := by
  refine ax_lv_mono h (fun q hq => ?_)
  obtain ⟨h1, h2⟩ := ax_lv_mem.mp hq
  rw [ax_get_set _ _ _ _ hi] at h1 h2
  by_cases hqi : q.1 = i
  · simp only [hqi, if_true] at h1 h2
    refine List.mem_cons.mpr (Or.inl ?_)
    rw [← hqi, ← h2]
  · simp only [hqi, if_false] at h1 h2
    refine List.mem_cons_of_mem _ (List.mem_filter.mpr ⟨ax_lv_mem.mpr ⟨h1, h2⟩, ?_⟩)
    have e1 : (q.1 == i) = false := by simpa using hqi
    rw [e1]
    by_cases hq2 : q.1 + 1 = i
    · subst hq2
      have hh' : ax_isL (ax_get ls q.1) = false := hh
      have := ax_cat2 (ad := ad) hh'
      rw [← h2] at this
      simp [this]
    · have e2 : (q.1 + 1 == i) = false := by simpa using hq2
      rw [e2]; rfl
-- the entry
def ax_ent : List AV → List AV
  | [] => []
  | .inr (.inl x) :: r => .inr (.inl x) :: .inr (.inr (.inr ())) :: ax_ent r
  | v :: r => v :: ax_ent r
theorem ax_get_app (a b : List AV) (i : Nat) : ax_get (a ++ b) i = if i < a.length then ax_get a i else ax_get b (i - a.length) := by
  induction a generalizing i with
  | nil => simp
  | cons v a ih =>
    cases i with
    | zero => simp [ax_get]
    | succ i => simp only [List.cons_append, ax_get, ih, List.length_cons, Nat.add_lt_add_iff_right, Nat.add_sub_add_right]
theorem ax_get_rep (n i : Nat) : ax_get (List.replicate n (.inr (.inr (.inr ())))) i = .inr (.inr (.inr ())) := by
  induction n generalizing i with
  | zero => rfl
  | succ n ih => cases i with
    | zero => rfl
    | succ i => exact ih i
theorem ax_ent_args (ad : Nat → Nat) (as : List AV) : ∀ (b i : Nat), ax_isSet (ax_get (ax_ent as) i) = true → (b + i, ax_cv ad (ax_get (ax_ent as) i)) ∈ lv_args b (as.map (ax_cv ad)) := by
  induction as with
  | nil => intro b i h; simp [ax_ent, ax_get, ax_isSet] at h
  | cons v r ih =>
    intro b i h
    rcases v with x | x | x | x
    · cases i with
      | zero => simp [ax_ent, ax_get, lv_args, ax_cv]
      | succ i =>
        have := ih (b + 1) i h
        simp only [List.map_cons, lv_args, ax_cv, Value.category, ax_ent, ax_get] at this ⊢
        refine List.mem_cons_of_mem _ ?_
        rw [show b + (i + 1) = b + 1 + i by omega]
        simpa using this
    · cases i with
      | zero => simp [ax_ent, ax_get, lv_args, ax_cv]
      | succ i => cases i with
        | zero => simp [ax_ent, ax_get, ax_isSet] at h
        | succ i =>
          have := ih (b + 2) i h
          simp only [List.map_cons, lv_args, ax_cv, Value.category, ax_ent, ax_get] at this ⊢
          refine List.mem_cons_of_mem _ ?_
          rw [show b + (i + 1 + 1) = b + 2 + i by omega]
          simpa using this
    · cases i with
      | zero => simp [ax_ent, ax_get, lv_args, ax_cv]
      | succ i =>
        have := ih (b + 1) i h
        simp only [List.map_cons, lv_args, ax_cv, Value.category, ax_ent, ax_get] at this ⊢
        refine List.mem_cons_of_mem _ ?_
        rw [show b + (i + 1) = b + 1 + i by omega]
        simpa using this
    · cases i with
      | zero => simp [ax_ent, ax_get, ax_isSet] at h
      | succ i =>
        have := ih (b + 1) i h
        simp only [List.map_cons, lv_args, ax_cv, Value.category, ax_ent, ax_get] at this ⊢
        refine List.mem_cons_of_mem _ ?_
        rw [show b + (i + 1) = b + 1 + i by omega]
        simpa using this
theorem ax_lv_ent {ad : Nat → Nat} {la : Array Slot} {nL n : Nat} {as : List AV} (h : lv_has la nL (lv_args 0 (as.map (ax_cv ad)))) : lv_has la nL (ax_lv ad (ax_ent as ++ List.replicate n (.inr (.inr (.inr ()))))) := by
  refine ax_lv_mono h (fun q hq => ?_)
  obtain ⟨h1, h2⟩ := ax_lv_mem.mp hq
  rw [ax_get_app] at h1 h2
  by_cases hl : q.1 < (ax_ent as).length
  · simp only [hl, if_true] at h1 h2
    have := ax_ent_args ad as 0 q.1 h1
    rw [← h2] at this
    simpa using this
  · simp only [hl, if_false, ax_get_rep] at h1
    simp [ax_isSet] at h1
-- the world's list
theorem ax_kd_lt {k : Nat} (h : (ax_kd k).1 ≤ 4) : k < ax_N := by
  rcases Nat.lt_or_ge k ax_N with g | g
  · exact g
  · unfold ax_kd at h
    rw [List.getD_eq_getElem?_getD, List.getElem?_eq_none (show ax_kdL.length ≤ k from g)] at h
    simp at h
theorem ax_wo_at {ca : Nat → ClassId} {ad : Nat → Nat} {σ : Hp} {k : Nat} (h : k < ax_N) : (ax_wo ca ad σ)[k]? = some (ad k, ax_ce ca ad σ k) := by
  unfold ax_wo
  rw [List.getElem?_map, List.getElem?_range h]
  rfl
theorem ax_wo_inv {ca : Nat → ClassId} {ad : Nat → Nat} {σ : Hp} {k : Nat} {q : Nat × va_E} (h : (ax_wo ca ad σ)[k]? = some q) : k < ax_N ∧ q = (ad k, ax_ce ca ad σ k) := by
  have hk : k < ax_N := by
    have := (List.getElem?_eq_some_iff.mp h).1
    simpa [ax_wo] using this
  rw [ax_wo_at hk] at h
  exact ⟨hk, (Option.some.inj h).symm⟩
theorem ax_wo_set {ca : Nat → ClassId} {ad : Nat → Nat} {σ σ' : Hp} {k : Nat} {e : va_E} (h : k < ax_N) (he : ax_ce ca ad σ' k = e) (ho : ∀ k', k' ≠ k → σ' k' = σ k') : (ax_wo ca ad σ).set k (ad k, e) = ax_wo ca ad σ' := by
  apply List.ext_getElem?
  intro i
  by_cases hi : i < ax_N
  · rw [ax_wo_at hi, List.getElem?_set]
    by_cases hk : k = i
    · subst hk
      simp [he, ax_wo, h]
    · simp only [hk, if_false]
      rw [ax_wo_at hi]
      have : σ' i = σ i := ho i (fun z => hk z.symm)
      unfold ax_ce ax_fs
      simp only [this]
  · rw [List.getElem?_eq_none (by simp [ax_wo]; omega), List.getElem?_eq_none (by simp [ax_wo]; omega)]
theorem hp_ne {σ : Hp} {k j k' : Nat} {v : Int} (h : k' ≠ k) : hp σ k j v k' = σ k' := by unfold hp; simp [h]
theorem hp_eq {σ : Hp} {k j : Nat} {v : Int} : hp σ k j v k = fun j' => if j' = j then v else σ k j' := by unfold hp; simp
theorem ax_D_any {ca : Nat → ClassId} {ad : Nat → Nat} {σ σ' : Hp} {A : Nat → Prop} (h : va_D A (ax_wo ca ad σ)) : va_D A (ax_wo ca ad σ') := by
  refine ⟨fun i j p q hp hq e => ?_, fun k q hk => ?_⟩
  · obtain ⟨h1, rfl⟩ := ax_wo_inv hp
    obtain ⟨h2, rfl⟩ := ax_wo_inv hq
    exact h.1 i j _ _ (ax_wo_at h1) (ax_wo_at h2) e
  · obtain ⟨h1, rfl⟩ := ax_wo_inv hk
    exact h.2 k (ad k, ax_ce ca ad σ k) (ax_wo_at h1)
theorem ax_A_eq {ca : Nat → ClassId} {ad : Nat → Nat} {σ : Hp} {sz : Nat} : va_A (ax_wo ca ad σ) sz = ax_A ad sz := by
  funext q
  apply propext
  constructor
  · rintro (⟨k, e, h⟩ | h)
    · obtain ⟨h1, h2⟩ := ax_wo_inv h
      exact Or.inl ⟨k, h1, congrArg Prod.fst h2⟩
    · exact Or.inr h
  · rintro (⟨k, h, rfl⟩ | h)
    · exact Or.inl ⟨k, _, ax_wo_at h⟩
    · exact Or.inr h
