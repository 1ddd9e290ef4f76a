-- THE LINES OF A FAMILY'S TEXT
theorem stM_halt {B : Tp} {t : MS} (h : 2 ≤ t.1) : stM B t = t := by
  obtain ⟨ph, p, S, E, u⟩ := t
  match ph, h with
  | 0, h => exact absurd (show 2 ≤ 0 from h) (by decide)
  | 1, h => exact absurd (show 2 ≤ 1 from h) (by decide)
  | n + 2, h => rfl
theorem itm_halt {B : Tp} {t : MS} (h : 2 ≤ t.1) : ∀ k, itm B k t = t := by
  intro k
  induction k with
  | zero => rfl
  | succ k ih => show itm B k (stM B t) = t; rw [stM_halt h]; exact ih
theorem Rch.uniq {B : Tp} {s t t' : MS} (h : Rch B s t) (h' : Rch B s t') (g : 2 ≤ t.1) (g' : 2 ≤ t'.1) : t = t' := by
  obtain ⟨a, rfl⟩ := h
  obtain ⟨b, rfl⟩ := h'
  rcases Nat.le_total a b with z | z
  · obtain ⟨d, rfl⟩ := Nat.exists_eq_add_of_le z
    rw [itm_add, itm_halt g]
  · obtain ⟨d, rfl⟩ := Nat.exists_eq_add_of_le z
    rw [itm_add, itm_halt g']
noncomputable def fmlR (B : Tp) (p : Nat) : MS := @dite _ (∃ t, Rch B (0, p, [], [], 0) t ∧ 2 ≤ t.1) (Classical.propDecidable _) (fun h => h.choose) (fun _ => (3, p, [], [], 0))
theorem fmlR_eq {B : Tp} {p : Nat} {t : MS} (h : Rch B (0, p, [], [], 0) t) (g : 2 ≤ t.1) : fmlR B p = t := by
  have hx : ∃ t, Rch B (0, p, [], [], 0) t ∧ 2 ≤ t.1 := ⟨t, h, g⟩
  unfold fmlR
  rw [dif_pos hx]
  exact hx.choose_spec.1.uniq h hx.choose_spec.2 g
abbrev Fml : Type := Option (Nat × List Int)
/-- what is read: persons, names, houses, cares, knows, news in 100, of how much, how many knows, how many news, ease, draw, worry, grows -/
abbrev PS : Type := Nat × (Nat → Int) × (Nat → Int) × (Nat → Int) × (Nat → Int) × (Nat → Int) × (Nat → Int) × Nat × Nat × Option Int × Option Int × Fml × Fml
abbrev pN (q : PS) : Nat := q.1
abbrev pNm (q : PS) : Nat → Int := q.2.1
abbrev pHo (q : PS) : Nat → Int := q.2.2.1
abbrev pCa (q : PS) : Nat → Int := q.2.2.2.1
abbrev pKn (q : PS) : Nat → Int := q.2.2.2.2.1
abbrev pOd (q : PS) : Nat → Int := q.2.2.2.2.2.1
abbrev pAm (q : PS) : Nat → Int := q.2.2.2.2.2.2.1
abbrev pNk (q : PS) : Nat := q.2.2.2.2.2.2.2.1
abbrev pNn (q : PS) : Nat := q.2.2.2.2.2.2.2.2.1
abbrev pEa (q : PS) : Option Int := q.2.2.2.2.2.2.2.2.2.1
abbrev pDr (q : PS) : Option Int := q.2.2.2.2.2.2.2.2.2.2.1
abbrev pWo (q : PS) : Fml := q.2.2.2.2.2.2.2.2.2.2.2.1
abbrev pGr (q : PS) : Fml := q.2.2.2.2.2.2.2.2.2.2.2.2
def ps0 : PS := (0, fun _ => 0, fun _ => 0, fun _ => 0, fun _ => 0, fun _ => 0, fun _ => 0, 0, 0, none, none, none, none)
def adP (q : PS) (w h c o a : Int) (n : Nat) : PS := (pN q + 1, va_up (pNm q) (pN q) w, va_up (pHo q) (pN q) h, va_up (pCa q) (pN q) c, pKn q, va_up (pOd q) (pN q) o, va_up (pAm q) (pN q) a, pNk q, pNn q + n, pEa q, pDr q, pWo q, pGr q)
def adK (q : PS) (a b : Nat) : PS := (pN q, pNm q, pHo q, pCa q, va_up (pKn q) a (((pKn q a).toNat ||| 2 ^ b : Nat) : Int), pOd q, pAm q, pNk q + 1, pNn q, pEa q, pDr q, pWo q, pGr q)
def adE (q : PS) (v : Int) : PS := (pN q, pNm q, pHo q, pCa q, pKn q, pOd q, pAm q, pNk q, pNn q, some v, pDr q, pWo q, pGr q)
def adD (q : PS) (v : Int) : PS := (pN q, pNm q, pHo q, pCa q, pKn q, pOd q, pAm q, pNk q, pNn q, pEa q, some v, pWo q, pGr q)
def adW (q : PS) (v : Nat × List Int) : PS := (pN q, pNm q, pHo q, pCa q, pKn q, pOd q, pAm q, pNk q, pNn q, pEa q, pDr q, some v, pGr q)
def adG (q : PS) (v : Nat × List Int) : PS := (pN q, pNm q, pHo q, pCa q, pKn q, pOd q, pAm q, pNk q, pNn q, pEa q, pDr q, pWo q, some v)
def oB {α β : Type} (x : Oc α) (f : α → Oc β) : Oc β := match x with
  | .inl e => .inl e
  | .inr a => f a
/-- the first of the first n with this name, or -1 -/
def fI (nm : Nat → Int) (w : Int) : Nat → Int
  | 0 => -1
  | n + 1 => if 0 ≤ fI nm w n then fI nm w n else if nm n = w then (n : Int) else -1
theorem fI_L (nm : Nat → Int) (w : Int) : ∀ n, Lst (fun i => nm i = w) n (fI nm w n) := by
  intro n
  induction n with
  | zero => exact Or.inr ⟨rfl, fun j hj => absurd hj (Nat.not_lt_zero j)⟩
  | succ n ih =>
    unfold fI
    rcases ih with ⟨i, h1, h2, h3, h4⟩ | ⟨h1, h2⟩
    · rw [h2, if_pos (by omega)]
      exact Or.inl ⟨i, by omega, rfl, h3, h4⟩
    · rw [h1, if_neg (by omega)]
      by_cases e : nm n = w
      · rw [if_pos e]; exact Or.inl ⟨n, by omega, rfl, e, h2⟩
      · rw [if_neg e]
        refine Or.inr ⟨rfl, fun j hj => ?_⟩
        by_cases z : j = n
        · rw [z]; exact e
        · exact h2 j (by omega)
abbrev nmB (B : Tp) (p : Nat) : Prop := tK B p = 1 ∧ tV B p ∉ ax_nnL
def fnO (B : Tp) (p : Nat) (q : PS) : Oc Nat := if nmB B p then (if 0 ≤ fI (pNm q) (tV B p) (pN q) then .inr (fI (pNm q) (tV B p) (pN q)).toNat else .inl (5, p)) else .inl (rfc B p, p)
def lnP (B : Tp) (p : Nat) (q : PS) : Oc (PS × Nat) :=
  if 6 ≤ pN q then .inl (rfc B p, p)
  else if ¬ nmB B (tN B p) then .inl (rfc B (tN B p), tN B p)
  else if 0 ≤ fI (pNm q) (tV B (tN B p)) (pN q) then .inl (3, tN B p)
  else oB (nmrO B (tN B (tN B p)) 28518 0 1) fun h => oB (nmrO B h.2 426836649331 0 99) fun c =>
    if tK B c.2 = 1 ∧ tV B c.2 = 1852143475 then (if 4 ≤ pNn q then .inl (rfc B c.2, c.2) else
      oB (nmrO B c.2 1852143475 0 100) fun o => oB (nmrO B o.2 28518 1 20) fun a => oB (sgnO B a.2 59) fun r => .inr (adP q (tV B (tN B p)) h.1 c.1 o.1 a.1 1, r))
    else oB (sgnO B c.2 59) fun r => .inr (adP q (tV B (tN B p)) h.1 c.1 0 0 0, r)
def lnK (B : Tp) (p : Nat) (q : PS) : Oc (PS × Nat) :=
  if 12 ≤ pNk q then .inl (rfc B p, p)
  else oB (fnO B (tN B p) q) fun a => oB (fnO B (tN B (tN B p)) q) fun b =>
    if a = b ∨ bt (pKn q a) b = true then .inl (3, tN B (tN B p)) else oB (sgnO B (tN B (tN B (tN B p))) 59) fun r => .inr (adK q a b, r)
noncomputable def lnF (B : Tp) (p : Nat) (old : Fml) (ad : Nat × List Int → PS) : Oc (PS × Nat) :=
  if old.isSome = true then .inl (rfc B p, p)
  else if (fmlR B (tN B p)).1 = 3 then .inl (rfc B (fmlR B (tN B p)).2.1, (fmlR B (tN B p)).2.1)
  else oB (sgnO B (fmlR B (tN B p)).2.1 59) fun r => .inr (ad ((fmlR B (tN B p)).2.2.2.2, (fmlR B (tN B p)).2.2.2.1), r)
def lnE (B : Tp) (p : Nat) (q : PS) : Oc (PS × Nat) :=
  if (pEa q).isSome = true then .inl (rfc B p, p) else oB (nmrO B p 1700885349 0 999) fun v => oB (sgnO B v.2 59) fun r => .inr (adE q v.1, r)
def lnD (B : Tp) (p : Nat) (q : PS) : Oc (PS × Nat) :=
  if (pDr q).isSome = true then .inl (rfc B p, p) else oB (nmrO B p 1685217655 0 999) fun v => oB (sgnO B v.2 59) fun r => .inr (adD q v.1, r)
noncomputable def ln (B : Tp) (p : Nat) (q : PS) : Oc (PS × Nat) :=
  if ¬ tK B p = 1 then .inl (rfc B p, p)
  else if tV B p = 123581014175598 then lnP B p q
  else if tV B p = 461414299507 then lnK B p q
  else if tV B p = 512970879609 then lnF B p (pWo q) (adW q)
  else if tV B p = 444301539187 then lnF B p (pGr q) (adG q)
  else if tV B p = 1700885349 then lnE B p q
  else if tV B p = 1685217655 then lnD B p q
  else .inl (rfc B p, p)
/-- what is read is what it can be -/
def okPS (q : PS) : Prop :=
  (pN q ≤ 6 ∧ pNk q ≤ 12 ∧ pNn q ≤ 4) ∧ (∀ v, pEa q = some v → 0 ≤ v ∧ v ≤ 999) ∧ (∀ v, pDr q = some v → 0 ≤ v ∧ v ≤ 999) ∧
  (∀ j, (0 ≤ pHo q j ∧ pHo q j ≤ 1) ∧ (0 ≤ pCa q j ∧ pCa q j ≤ 99) ∧ (0 ≤ pKn q j ∧ pKn q j < 64) ∧ (0 ≤ pOd q j ∧ pOd q j ≤ 100) ∧ (0 ≤ pAm q j ∧ pAm q j ≤ 20)) ∧
  (∀ j, pN q ≤ j → pNm q j = 0 ∧ pHo q j = 0 ∧ pCa q j = 0 ∧ pKn q j = 0 ∧ pOd q j = 0 ∧ pAm q j = 0) ∧
  nwn (pAm q) 6 ≤ pNn q ∧ (∀ p o, bt (pKn q p) o = true → p < pN q ∧ o < pN q ∧ ¬ p = o) ∧ kn (pKn q) 6 ≤ pNk q ∧
  ∀ i j, i < j → j < pN q → ¬ pNm q i = pNm q j
theorem vu_at {f : Nat → Int} {n : Nat} {v : Int} : va_up f n v n = v := by unfold va_up; rw [if_pos rfl]
theorem vu_ne {f : Nat → Int} {n j : Nat} {v : Int} (h : ¬ j = n) : va_up f n v j = f j := by unfold va_up; rw [if_neg h]
theorem nwn_up {f : Nat → Int} {N : Nat} {a : Int} (h : f N = 0) : ∀ n, N < n → nwn (va_up f N a) n = nwn f n + (if 0 < a then 1 else 0) := by
  intro n
  induction n with
  | zero => intro z; omega
  | succ n ih =>
    intro hn
    rw [nwn_s, nwn_s]
    by_cases e : N = n
    · subst e
      rw [vu_at, h, nwn_ext (g := f) (fun j hj => vu_ne (by omega))]
      simp
    · rw [ih (by omega), vu_ne (fun z => e z.symm)]
      omega
theorem pcn_or {x b : Nat} (h : ¬ x.testBit b = true) : ∀ n, b < n → pcn (x ||| 2 ^ b) n = pcn x n + 1 := by
  intro n
  have low : ∀ m, m ≤ b → pcn (x ||| 2 ^ b) m = pcn x m := by
    intro m
    induction m with
    | zero => intro _; rfl
    | succ m ih =>
      intro hm
      rw [pcn_s, pcn_s, ih (by omega), Nat.testBit_or, Nat.testBit_two_pow]
      have : decide (b = m) = false := decide_eq_false (by omega)
      rw [this, Bool.or_false]
  induction n with
  | zero => intro z; omega
  | succ n ih =>
    intro hn
    rw [pcn_s, pcn_s, Nat.testBit_or, Nat.testBit_two_pow]
    by_cases e : b = n
    · subst e
      rw [low b (Nat.le_refl _)]
      simp [h]
    · rw [ih (by omega)]
      have : decide (b = n) = false := decide_eq_false e
      rw [this, Bool.or_false]
      omega
theorem kn_up {w : Nat → Int} {a b : Nat} (h0 : 0 ≤ w a) (hb : b < 12) (h : ¬ bt (w a) b = true) : ∀ n, a < n → kn (va_up w a (((w a).toNat ||| 2 ^ b : Nat) : Int)) n = kn w n + 1 := by
  intro n
  induction n with
  | zero => intro z; omega
  | succ n ih =>
    intro hn
    rw [kn_s, kn_s]
    by_cases e : a = n
    · subst e
      have : ∀ m, m ≤ a → kn (va_up w a (((w a).toNat ||| 2 ^ b : Nat) : Int)) m = kn w m := by
        intro m
        induction m with
        | zero => intro _; rfl
        | succ m ih2 => intro hm; rw [kn_s, kn_s, ih2 (by omega), vu_ne (by omega)]
      rw [this a (Nat.le_refl _), vu_at, Int.toNat_natCast, pcn_or h 12 hb]
      omega
    · rw [ih (by omega), vu_ne (fun z => e z.symm)]
      omega
theorem ok_adP {q : PS} {w h c o a : Int} {n : Nat} (hq : okPS q) (hN : ¬ 6 ≤ pN q) (hw : ¬ 0 ≤ fI (pNm q) w (pN q)) (hh : 0 ≤ h ∧ h ≤ 1) (hc : 0 ≤ c ∧ c ≤ 99) (ho : 0 ≤ o ∧ o ≤ 100) (ha : 0 ≤ a ∧ a ≤ 20) (hn : pNn q + n ≤ 4) (hn1 : 0 < a → 1 ≤ n) : okPS (adP q w h c o a n) := by
  obtain ⟨k1, k2, k3, k4, k5, k6, k7, k8, k9⟩ := hq
  have up : ∀ (f : Nat → Int) (v : Int) (j : Nat) (lo hi : Int), (0 ≤ f j ∧ f j ≤ hi) → 0 ≤ v ∧ v ≤ hi → 0 ≤ va_up f (pN q) v j ∧ va_up f (pN q) v j ≤ hi := by
    intro f v j lo hi h1 h2
    by_cases e : j = pN q
    · rw [e, vu_at]; exact h2
    · rw [vu_ne e]; exact h1
  refine ⟨⟨by show pN q + 1 ≤ 6; omega, k1.2.1, hn⟩, k2, k3, fun j => ⟨up _ _ _ 0 _ (k4 j).1 hh, up _ _ _ 0 _ (k4 j).2.1 hc, (k4 j).2.2.1, up _ _ _ 0 _ (k4 j).2.2.2.1 ho, up _ _ _ 0 _ (k4 j).2.2.2.2 ha⟩, fun j hj => ?_, ?_, fun p o' hb => ?_, k8, fun i j hij hj => ?_⟩
  · have hj' : pN q + 1 ≤ j := hj
    obtain ⟨z1, z2, z3, z4, z5, z6⟩ := k5 j (by omega)
    exact ⟨(vu_ne (by omega)).trans z1, (vu_ne (by omega)).trans z2, (vu_ne (by omega)).trans z3, z4, (vu_ne (by omega)).trans z5, (vu_ne (by omega)).trans z6⟩
  · show nwn (va_up (pAm q) (pN q) a) 6 ≤ pNn q + n
    rw [nwn_up (k5 (pN q) (Nat.le_refl _)).2.2.2.2.2 6 (by omega)]
    split
    · have := hn1 (by assumption); omega
    · omega
  · have := k7 p o' hb
    exact ⟨by show p < pN q + 1; omega, by show o' < pN q + 1; omega, this.2.2⟩
  · have hj' : j < pN q + 1 := hj
    show ¬ va_up (pNm q) (pN q) w i = va_up (pNm q) (pN q) w j
    rw [vu_ne (show ¬ i = pN q by omega)]
    by_cases e : j = pN q
    · rw [e, vu_at]
      rcases fI_L (pNm q) w (pN q) with ⟨m, m1, m2, -⟩ | ⟨-, m2⟩
      · exact absurd (by rw [m2]; omega) hw
      · exact m2 i (by omega)
    · rw [vu_ne e]; exact k9 i j hij (by omega)
theorem ok_adK {q : PS} {a b : Nat} (hq : okPS q) (hk : ¬ 12 ≤ pNk q) (ha : a < pN q) (hb : b < pN q) (hab : ¬ (a = b ∨ bt (pKn q a) b = true)) : okPS (adK q a b) := by
  obtain ⟨k1, k2, k3, k4, k5, k6, k7, k8, k9⟩ := hq
  have hl : (pKn q a).toNat ||| 2 ^ b < 64 := by
    apply Nat.or_lt_two_pow (n := 6)
    · have := (k4 a).2.2.1; omega
    · exact Nat.pow_lt_pow_right (by decide) (by omega)
  refine ⟨⟨k1.1, by show pNk q + 1 ≤ 12; omega, k1.2.2⟩, k2, k3, fun j => ⟨(k4 j).1, (k4 j).2.1, ?_, (k4 j).2.2.2⟩, fun j hj => ?_, k6, fun p o h => ?_, ?_, k9⟩
  · show 0 ≤ va_up (pKn q) a _ j ∧ va_up (pKn q) a _ j < 64
    by_cases e : j = a
    · rw [e, vu_at]; omega
    · rw [vu_ne e]; exact (k4 j).2.2.1
  · have hj' : pN q ≤ j := hj
    obtain ⟨z1, z2, z3, z4, z5⟩ := k5 j hj
    exact ⟨z1, z2, z3, (vu_ne (by omega)).trans z4, z5⟩
  · have h' : bt (va_up (pKn q) a (((pKn q a).toNat ||| 2 ^ b : Nat) : Int) p) o = true := h
    by_cases e : p = a
    · rw [e, vu_at, bt_n, Nat.testBit_or, Bool.or_eq_true] at h'
      rw [e]
      rcases h' with h' | h'
      · exact k7 a o h'
      · rw [Nat.testBit_two_pow] at h'
        have : b = o := of_decide_eq_true h'
        rw [← this]
        exact ⟨ha, hb, fun z => hab (Or.inl z)⟩
    · rw [vu_ne e] at h'; exact k7 p o h'
  · show kn (va_up (pKn q) a _) 6 ≤ pNk q + 1
    rw [kn_up (k4 a).2.2.1.1 (by omega) (fun z => hab (Or.inr z)) 6 (by omega)]
    omega
theorem oB_inr {α β : Type} {x : Oc α} {f : α → Oc β} {y : β} (h : oB x f = .inr y) : ∃ a, x = .inr a ∧ f a = .inr y := by
  match x, h with
  | .inr a, h => exact ⟨a, rfl, h⟩
theorem fnO_lt {B : Tp} {p a : Nat} {q : PS} (h : fnO B p q = .inr a) : a < pN q := by
  unfold fnO at h
  split at h
  · split at h
    · injection h with h
      rcases fI_L (pNm q) (tV B p) (pN q) with ⟨m, m1, m2, -⟩ | ⟨m1, -⟩
      · rw [m2] at h; omega
      · omega
    · cases h
  · cases h
theorem lnP_ok {B : Tp} {p : Nat} {q : PS} {x : PS × Nat} (hq : okPS q) (h : lnP B p q = .inr x) : okPS x.1 := by
  unfold lnP at h
  split at h
  · cases h
  rename_i h6
  split at h
  · cases h
  split at h
  · cases h
  rename_i hf
  obtain ⟨a1, e1, h⟩ := oB_inr h
  obtain ⟨a2, e2, h⟩ := oB_inr h
  split at h
  · split at h
    · cases h
    rename_i h4
    obtain ⟨a3, e3, h⟩ := oB_inr h
    obtain ⟨a4, e4, h⟩ := oB_inr h
    obtain ⟨a5, e5, h⟩ := oB_inr h
    injection h with h
    rw [← h]
    have r4 := nmrO_R e4
    exact ok_adP hq h6 hf (nmrO_R e1) (nmrO_R e2) (nmrO_R e3) (by omega) (by omega) (fun _ => Nat.le_refl 1)
  · obtain ⟨a5, e5, h⟩ := oB_inr h
    injection h with h
    rw [← h]
    exact ok_adP hq h6 hf (nmrO_R e1) (nmrO_R e2) (by omega) (by omega) hq.1.2.2 (fun z => absurd z (by decide))
theorem lnK_ok {B : Tp} {p : Nat} {q : PS} {x : PS × Nat} (hq : okPS q) (h : lnK B p q = .inr x) : okPS x.1 := by
  unfold lnK at h
  split at h
  · cases h
  rename_i h6
  obtain ⟨a1, e1, h⟩ := oB_inr h
  obtain ⟨a2, e2, h⟩ := oB_inr h
  split at h
  · cases h
  rename_i hab
  obtain ⟨a3, e3, h⟩ := oB_inr h
  injection h with h
  rw [← h]
  exact ok_adK hq h6 (fnO_lt e1) (fnO_lt e2) hab
theorem lnE_ok {B : Tp} {p : Nat} {q : PS} {x : PS × Nat} (hq : okPS q) (h : lnE B p q = .inr x) : okPS x.1 := by
  unfold lnE at h
  split at h
  · cases h
  obtain ⟨a1, e1, h⟩ := oB_inr h
  obtain ⟨a2, e2, h⟩ := oB_inr h
  injection h with h
  rw [← h]
  have r := nmrO_R e1
  exact ⟨hq.1, fun v hv => by injection hv with hv; rw [← hv]; exact r, hq.2.2⟩
theorem lnD_ok {B : Tp} {p : Nat} {q : PS} {x : PS × Nat} (hq : okPS q) (h : lnD B p q = .inr x) : okPS x.1 := by
  unfold lnD at h
  split at h
  · cases h
  obtain ⟨a1, e1, h⟩ := oB_inr h
  obtain ⟨a2, e2, h⟩ := oB_inr h
  injection h with h
  rw [← h]
  have r := nmrO_R e1
  exact ⟨hq.1, hq.2.1, fun v hv => by injection hv with hv; rw [← hv]; exact r, hq.2.2.2⟩
theorem lnF_ok {B : Tp} {p : Nat} {old : Fml} {ad : Nat × List Int → PS} {x : PS × Nat} (had : ∀ v, okPS (ad v)) (h : lnF B p old ad = .inr x) : okPS x.1 := by
  unfold lnF at h
  split at h
  · cases h
  split at h
  · cases h
  obtain ⟨a2, e2, h⟩ := oB_inr h
  injection h with h
  rw [← h]
  exact had _
theorem ln_ok {B : Tp} {p : Nat} {q : PS} {x : PS × Nat} (hq : okPS q) (h : ln B p q = .inr x) : okPS x.1 := by
  unfold ln at h
  split at h
  · cases h
  split at h
  · exact lnP_ok hq h
  split at h
  · exact lnK_ok hq h
  split at h
  · exact lnF_ok (ad := adW q) (fun v => hq) h
  split at h
  · exact lnF_ok (ad := adG q) (fun v => hq) h
  split at h
  · exact lnE_ok hq h
  split at h
  · exact lnD_ok hq h
  · cases h
theorem kn_0 : ∀ n, kn (fun _ => 0) n = 0 := by
  intro n
  induction n with
  | zero => rfl
  | succ n ih => rw [kn_s, ih]; decide
theorem ok_ps0 : okPS ps0 := by
  refine ⟨⟨by decide, by decide, by decide⟩, fun v h => (by cases h), fun v h => (by cases h), fun j => (by decide : (0 ≤ (0 : Int) ∧ (0 : Int) ≤ 1) ∧ (0 ≤ (0 : Int) ∧ (0 : Int) ≤ 99) ∧ (0 ≤ (0 : Int) ∧ (0 : Int) < 64) ∧ (0 ≤ (0 : Int) ∧ (0 : Int) ≤ 100) ∧ (0 ≤ (0 : Int) ∧ (0 : Int) ≤ 20)), fun j _ => ⟨rfl, rfl, rfl, rfl, rfl, rfl⟩, by decide, fun p o h => ?_, by rw [show pKn ps0 = fun _ => 0 from rfl, kn_0]; exact Nat.zero_le _, fun i j _ hj => absurd hj (Nat.not_lt_zero j)⟩
  have : bt 0 o = true := h
  rw [show (0 : Int) = ((0 : Nat) : Int) from rfl, bt_n, Nat.zero_testBit] at this
  cases this
-- all lines
noncomputable def lnS (B : Tp) (o : Oc (PS × Nat)) : Oc (PS × Nat) := match o with
  | .inl e => .inl e
  | .inr x => if tK B x.2 = 0 then .inr x else ln B (tS B x.2) x.1
noncomputable def itl (B : Tp) : Nat → Oc (PS × Nat) → Oc (PS × Nat)
  | 0, o => o
  | k + 1, o => itl B k (lnS B o)
def hlt (B : Tp) (o : Oc (PS × Nat)) : Prop := match o with
  | .inl _ => True
  | .inr x => tK B x.2 = 0
theorem itl_add (B : Tp) : ∀ a b s, itl B (a + b) s = itl B b (itl B a s) := by
  intro a
  induction a with
  | zero => intro b s; rw [Nat.zero_add]; rfl
  | succ a ih => intro b s; rw [show a + 1 + b = (a + b) + 1 by omega]; exact ih b (lnS B s)
theorem lnS_halt {B : Tp} {o : Oc (PS × Nat)} (h : hlt B o) : lnS B o = o := by
  match o, h with
  | .inl e, _ => rfl
  | .inr x, h => exact if_pos h
theorem itl_halt {B : Tp} {o : Oc (PS × Nat)} (h : hlt B o) : ∀ k, itl B k o = o := by
  intro k
  induction k with
  | zero => rfl
  | succ k ih => show itl B k (lnS B o) = o; rw [lnS_halt h]; exact ih
/-- the outcome of a text -/
def RdA (B : Tp) (o : Oc (PS × Nat)) : Prop := hlt B o ∧ ∃ k, itl B k (.inr (ps0, 0)) = o
theorem RdA.uniq {B : Tp} {o o' : Oc (PS × Nat)} (h : RdA B o) (h' : RdA B o') : o = o' := by
  obtain ⟨g, a, rfl⟩ := h
  obtain ⟨g', b, rfl⟩ := h'
  rcases Nat.le_total a b with z | z
  · obtain ⟨d, rfl⟩ := Nat.exists_eq_add_of_le z
    rw [itl_add, itl_halt g]
  · obtain ⟨d, rfl⟩ := Nat.exists_eq_add_of_le z
    rw [itl_add, itl_halt g']
theorem itl_ok {B : Tp} : ∀ k o, (∀ x, o = .inr x → okPS x.1) → ∀ x, itl B k o = .inr x → okPS x.1 := by
  intro k
  induction k with
  | zero => intro o h x e; exact h x e
  | succ k ih =>
    intro o h x e
    refine ih (lnS B o) (fun y hy => ?_) x e
    match o, h, hy with
    | .inl e, h, hy => cases hy
    | .inr z, h, hy =>
      have hy' : (if tK B z.2 = 0 then .inr z else ln B (tS B z.2) z.1) = (Sum.inr y : Oc (PS × Nat)) := hy
      split at hy'
      · injection hy' with hy'; rw [← hy']; exact h z rfl
      · exact ln_ok (h z rfl) hy'
theorem RdA.ok {B : Tp} {x : PS × Nat} (h : RdA B (.inr x)) : okPS x.1 := by
  obtain ⟨-, k, e⟩ := h
  exact itl_ok k _ (fun y hy => by injection hy with hy; rw [← hy]; exact ok_ps0) x e
/-- the family that was read -/
def frO (q : Fml) : Frm := match q with
  | none => (0, 0, fun _ => 0)
  | some v => (1, v.2.length, fun j => v.2.getD j 0)
def uO (q : Fml) : Nat := match q with
  | none => 0
  | some v => v.1
def famO (q : PS) : Fam := (pN q, pHo q, pCa q, pKn q, pOd q, pAm q, (pEa q).getD 1, (pDr q).getD 0, (uO (pWo q) + uO (pGr q) : Nat), frO (pWo q), frO (pGr q))
