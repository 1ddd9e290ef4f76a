-- THE FORMULAS: how they are read
abbrev MS : Type := Nat × Nat × List Int × List Int × Nat
/-- how tight an operator binds; 1 is a bracket -/
def tg (x : Int) : Nat := if x = -7 then 1 else if x = -8 then 2 else if x = -6 then 3 else if x = -9 ∨ x = -10 ∨ x = -11 then 4 else if x = -12 ∨ x = -13 then 5 else 6
def cls (t : Nat) : List Int → List Int → List Int × List Int
  | [], E => ([], E)
  | x :: S, E => if x = 1 ∨ tg x < t then (x :: S, E) else cls t S (E ++ [x])
def hrel : List Int → Bool
  | [] => false
  | x :: S => if x = 1 then false else if 4 < tg x then hrel S else decide (tg x = 4)
def hbr (S : List Int) : Bool := decide ((1 : Int) ∈ S)
def dpt : List Int → Nat
  | [] => 0
  | x :: S => dpt S + (if x = 1 ∨ x = -6 then 1 else 0)
def tt : List Int → Nat
  | [] => 0
  | x :: _ => if x = 1 then 0 else tg x
abbrev isN (B : Tp) (p : Nat) : Prop := tK B p = 1 ∧ tV B p = 7237492
abbrev isO (B : Tp) (p : Nat) : Prop := tK B p = 2 ∨ (tK B p = 1 ∧ ¬ gvn (tV B p) = 0)
def opd (B : Tp) (p : Nat) : Int := if tK B p = 2 then tV B p else gvn (tV B p)
/-- a step: phase 0 wants an operand, 1 stands behind one, 2 is done, 3 has failed at the token -/
def stM (B : Tp) (s : MS) : MS := match s with
  | (0, p, S, E, u) => if isN B p ∧ tt S < 4 then (if 7 ≤ dpt S then (3, p, S, E, u) else (0, tN B p, -6 :: S, E, u))
      else if tK B p = 3 ∧ tV B p = 40 then (if 30 ≤ u ∨ 7 ≤ dpt S then (3, p, S, E, u) else (0, tN B p, 1 :: S, E, u + 1))
      else if isO B p ∧ u < 30 then (1, tN B p, S, E ++ [opd B p], u + 1) else (3, p, S, E, u)
  | (1, p, S, E, u) => if (tK B p = 3 ∧ tV B p = 41) ∧ hbr S = true then (1, tN B p, (cls 0 S E).1.tail, (cls 0 S E).2, u)
      else if ¬ opA B p = 0 ∧ ¬ (tg (opA B p) = 4 ∧ hrel S = true) then (0, tN B p, opA B p :: (cls (tg (opA B p)) S E).1, (cls (tg (opA B p)) S E).2, u)
      else if hbr S = true then (3, p, S, E, u) else (2, p, (cls 0 S E).1, (cls 0 S E).2, u)
  | s => s
theorem stM0 (B : Tp) (p : Nat) (S E : List Int) (u : Nat) : stM B (0, p, S, E, u) = if isN B p ∧ tt S < 4 then (if 7 ≤ dpt S then (3, p, S, E, u) else (0, tN B p, -6 :: S, E, u))
      else if tK B p = 3 ∧ tV B p = 40 then (if 30 ≤ u ∨ 7 ≤ dpt S then (3, p, S, E, u) else (0, tN B p, 1 :: S, E, u + 1))
      else if isO B p ∧ u < 30 then (1, tN B p, S, E ++ [opd B p], u + 1) else (3, p, S, E, u) := rfl
theorem stM1 (B : Tp) (p : Nat) (S E : List Int) (u : Nat) : stM B (1, p, S, E, u) = if (tK B p = 3 ∧ tV B p = 41) ∧ hbr S = true then (1, tN B p, (cls 0 S E).1.tail, (cls 0 S E).2, u)
      else if ¬ opA B p = 0 ∧ ¬ (tg (opA B p) = 4 ∧ hrel S = true) then (0, tN B p, opA B p :: (cls (tg (opA B p)) S E).1, (cls (tg (opA B p)) S E).2, u)
      else if hbr S = true then (3, p, S, E, u) else (2, p, (cls 0 S E).1, (cls 0 S E).2, u) := rfl
def itm (B : Tp) : Nat → MS → MS
  | 0, s => s
  | k + 1, s => itm B k (stM B s)
theorem itm_add (B : Tp) : ∀ a b s, itm B (a + b) s = itm B b (itm B a s) := by
  intro a
  induction a with
  | zero => intro b s; rw [Nat.zero_add]; rfl
  | succ a ih => intro b s; rw [show a + 1 + b = (a + b) + 1 by omega]; exact ih b (stM B s)
def Rch (B : Tp) (s t : MS) : Prop := ∃ k, itm B k s = t
theorem Rch.rf {B : Tp} {s : MS} : Rch B s s := ⟨0, rfl⟩
theorem Rch.tr {B : Tp} {s t u : MS} (h : Rch B s t) (g : Rch B t u) : Rch B s u := by
  obtain ⟨a, rfl⟩ := h
  obtain ⟨b, rfl⟩ := g
  exact ⟨a + b, itm_add B a b s⟩
theorem Rch.one {B : Tp} {s t : MS} (h : stM B s = t) : Rch B s t := ⟨1, h⟩
theorem Rch.on {B : Tp} {s t u : MS} (h : Rch B s t) (g : stM B t = u) : Rch B s u := h.tr (Rch.one g)
def AllT (t : Nat) (R : List Int) : Prop := ∀ x ∈ R, ¬ x = 1 ∧ t ≤ tg x
theorem AllT.mono {t t' : Nat} {R : List Int} (h : AllT t R) (ht : t' ≤ t) : AllT t' R := fun x hx => ⟨(h x hx).1, Nat.le_trans ht (h x hx).2⟩
theorem AllT.nil {t : Nat} : AllT t [] := fun x hx => absurd hx List.not_mem_nil
theorem AllT.snoc {t : Nat} {R : List Int} {x : Int} (h : AllT t R) (h1 : ¬ x = 1) (h2 : t ≤ tg x) : AllT t (R ++ [x]) := by
  intro y hy
  rcases List.mem_append.mp hy with hy | hy
  · exact h y hy
  · rw [List.mem_singleton.mp hy]; exact ⟨h1, h2⟩
theorem cls_all {t : Nat} {R S : List Int} (h : AllT t R) (hs : ∀ x S', S = x :: S' → x = 1 ∨ tg x < t) : ∀ E, cls t (R ++ S) E = (S, E ++ R) := by
  induction R with
  | nil =>
    intro E
    cases S with
    | nil => simp [cls]
    | cons x S => rw [List.nil_append, List.append_nil]; unfold cls; rw [if_pos (hs x S rfl)]
  | cons y R ih =>
    intro E
    have hy := h y List.mem_cons_self
    rw [List.cons_append]
    unfold cls
    rw [if_neg (by omega), ih (fun x hx => h x (List.mem_cons_of_mem _ hx))]
    simp
theorem tt_stop {t : Nat} {S : List Int} (h : tt S < t) : ∀ x S', S = x :: S' → x = 1 ∨ tg x < t := by
  rintro x S' rfl
  have h : (if x = 1 then 0 else tg x) < t := h
  by_cases e : x = 1
  · exact Or.inl e
  · rw [if_neg e] at h; exact Or.inr h
theorem hrel_app {R S : List Int} (h : AllT 5 R) : hrel (R ++ S) = hrel S := by
  induction R with
  | nil => rfl
  | cons y R ih =>
    have hy := h y List.mem_cons_self
    rw [List.cons_append]
    conv => lhs; unfold hrel
    rw [if_neg hy.1, if_pos (by omega), ih (fun x hx => h x (List.mem_cons_of_mem _ hx))]
theorem hrel_no {S : List Int} (h : tt S < 4) : hrel S = false := by
  cases S with
  | nil => rfl
  | cons x S =>
    have h : (if x = 1 then 0 else tg x) < 4 := h
    unfold hrel
    by_cases e : x = 1
    · rw [if_pos e]
    · rw [if_neg e] at h ⊢
      rw [if_neg (by omega)]
      exact decide_eq_false (by omega)
theorem hbr_in {R S : List Int} : hbr (R ++ 1 :: S) = true := decide_eq_true (by simp)
theorem hbr_no {t : Nat} {R : List Int} (h : AllT t R) : hbr R = false := decide_eq_false (fun z => (h 1 z).1 rfl)
def cpt (b : Int) : Nat := if b = 0 then 1 else if b = 1 then 2 else if b = 2 then 4 else if b = 3 then 5 else if b = 4 then 6 else 7
def tl (b : Int) : Nat := if b = 0 then 1 else if b = 1 then 2 else if b = 2 then 3 else if b = 3 then 5 else if b = 4 then 6 else 7
def Cmp (B : Tp) (b a : Int) (S : List Int) (p : Nat) : Prop := tt S < cpt b ∧ (dpt S : Int) = a ∧ (3 ≤ b → 4 ≤ tt S ∨ ¬ isN B p)
def NJ (B : Tp) (b : Int) (q : Nat) (T : List Int) : Prop := ¬ opA B q = 0 → tl b ≤ tg (opA B q) → tg (opA B q) = 4 ∧ hrel T = true
theorem opA_R (B : Tp) (q : Nat) : opA B q = 0 ∨ (-16 ≤ opA B q ∧ opA B q ≤ -7) := opC_R _ _
theorem tg_op {x : Int} (h : -16 ≤ x ∧ x ≤ -7) : (lvl x = 0 ∧ tg x = 1) ∨ (lvl x = 1 ∧ tg x = 2) ∨ (lvl x = 2 ∧ tg x = 4) ∨ (lvl x = 3 ∧ tg x = 5) ∨ (lvl x = 4 ∧ tg x = 6) := by
  rcases (show x = -7 ∨ x = -8 ∨ x = -9 ∨ x = -10 ∨ x = -11 ∨ x = -12 ∨ x = -13 ∨ x = -14 ∨ x = -15 ∨ x = -16 by omega) with rfl | rfl | rfl | rfl | rfl | rfl | rfl | rfl | rfl | rfl <;> decide
theorem jA_ne {B : Tp} {q : Nat} {b : Int} (h : ¬ jA B q b = 0) : (-16 ≤ opA B q ∧ opA B q ≤ -7) ∧ lvl (opA B q) = b ∧ jA B q b = opA B q := by
  unfold jA at h ⊢
  by_cases e : ¬ opA B q = 0 ∧ lvl (opA B q) = b
  · rw [if_pos e]; exact ⟨(opA_R B q).resolve_left e.1, e.2, rfl⟩
  · rw [if_neg e] at h; exact absurd rfl h
theorem jA_0 {B : Tp} {q : Nat} {b : Int} (h : jA B q b = 0) (h0 : ¬ opA B q = 0) : ¬ lvl (opA B q) = b := by
  intro z
  unfold jA at h
  rw [if_pos ⟨h0, z⟩] at h
  exact h0 h
theorem opA_cl {B : Tp} {q : Nat} (h : ¬ opA B q = 0) : ¬ (tK B q = 3 ∧ tV B q = 41) := by
  rintro ⟨h1, h2⟩
  apply h
  unfold opA
  rw [h1, h2]
  decide
theorem tl_vals : tl 0 = 1 ∧ tl 1 = 2 ∧ tl 2 = 3 ∧ tl 3 = 5 ∧ tl 4 = 6 ∧ tl 5 = 7 := by decide
theorem cpt_vals : cpt 0 = 1 ∧ cpt 1 = 2 ∧ cpt 2 = 4 ∧ cpt 3 = 5 ∧ cpt 4 = 6 ∧ cpt 5 = 7 := by decide
theorem NJ_down {B : Tp} {b : Int} {q : Nat} {T : List Int} (hb : b = 0 ∨ b = 1 ∨ b = 3 ∨ b = 4) (h : NJ B (b + 1) q T) (hj : jA B q b = 0) : NJ B b q T := by
  intro h0 ht
  have hl := jA_0 hj h0
  have hr := tg_op ((opA_R B q).resolve_left h0)
  refine h h0 ?_
  obtain ⟨t0, t1, t2, t3, t4, t5⟩ := tl_vals
  rcases hb with rfl | rfl | rfl | rfl
  · rw [t0] at ht; rw [show (0 : Int) + 1 = 1 from rfl, t1]; omega
  · rw [t1] at ht; rw [show (1 : Int) + 1 = 2 from rfl, t2]; omega
  · rw [t3] at ht; rw [show (3 : Int) + 1 = 4 from rfl, t4]; omega
  · rw [t4] at ht; rw [show (4 : Int) + 1 = 5 from rfl, t5]; omega
theorem stM_op {B : Tp} {q : Nat} {R S E : List Int} {u : Nat} (h0 : ¬ opA B q = 0) (h4 : ¬ (tg (opA B q) = 4 ∧ hrel (R ++ S) = true)) (hR : AllT (tg (opA B q)) R) (hS : tt S < tg (opA B q)) : stM B (1, q, R ++ S, E, u) = (0, tN B q, opA B q :: S, E ++ R, u) := by
  rw [stM1, if_neg (fun z => opA_cl h0 z.1), if_pos ⟨h0, h4⟩, cls_all hR (tt_stop hS)]
-- a formula's cells
def rdL (σ : Hp) (g : Nat) : List Int := (List.range (σ g 3).toNat).map (σ (g + 1))
def FW (σ : Hp) (g : Nat) : Prop := (0 ≤ σ g 4 ∧ σ g 4 ≤ 30) ∧ (0 ≤ σ g 3 ∧ σ g 3 ≤ 9 * σ g 4) ∧ wfc (σ (g + 1)) (σ g 3).toNat ∧ (tp (σ (g + 1)) (σ g 3).toNat : Int) ≤ σ g 4
theorem wfc_ext {c d : Nat → Int} {n : Nat} (h : ∀ j, j < n → c j = d j) (hw : wfc c n) : wfc d n := by
  intro i hi
  have := hw i hi
  rw [h i hi, tp_ext (fun j hj => h j (by omega))] at this
  exact this
theorem FW.eq {σ σ' : Hp} {g : Nat} (h : FW σ g) (e : σ' g = σ g) (e1 : σ' (g + 1) = σ (g + 1)) : FW σ' g ∧ rdL σ' g = rdL σ g := by
  unfold FW rdL at *
  rw [e, e1]
  exact ⟨h, rfl⟩
/-- an item appended -/
theorem app_FW {σ : Hp} {g : Nat} {x : Int} (h : FW σ g) (hl : σ g 3 + 1 ≤ 9 * σ g 4) (h1 : -16 ≤ x) (h2 : -5 ≤ x → tp (σ (g + 1)) (σ g 3).toNat < 30 ∧ (tp (σ (g + 1)) (σ g 3).toNat : Int) + 1 ≤ σ g 4) (h3 : x = -6 → 1 ≤ tp (σ (g + 1)) (σ g 3).toNat) (h4 : x < -6 → 2 ≤ tp (σ (g + 1)) (σ g 3).toNat) :
    FW (hp (hp σ (g + 1) (σ g 3).toNat x) g 3 (σ g 3 + 1)) g ∧ rdL (hp (hp σ (g + 1) (σ g 3).toNat x) g 3 (σ g 3 + 1)) g = rdL σ g ++ [x] ∧ tp (hp (hp σ (g + 1) (σ g 3).toNat x) g 3 (σ g 3 + 1) (g + 1)) ((hp (hp σ (g + 1) (σ g 3).toNat x) g 3 (σ g 3 + 1)) g 3).toNat = if -5 ≤ x then tp (σ (g + 1)) (σ g 3).toNat + 1 else if x = -6 then tp (σ (g + 1)) (σ g 3).toNat else tp (σ (g + 1)) (σ g 3).toNat - 1 := by
  obtain ⟨hu, hl0, hw, ht⟩ := h
  have e3 : hp (hp σ (g + 1) (σ g 3).toNat x) g 3 (σ g 3 + 1) g 3 = σ g 3 + 1 := hp_r1
  have e4 : hp (hp σ (g + 1) (σ g 3).toNat x) g 3 (σ g 3 + 1) g 4 = σ g 4 := by rw [hp_r2 (by omega), hp_r2 (by omega)]
  have er : ∀ j, hp (hp σ (g + 1) (σ g 3).toNat x) g 3 (σ g 3 + 1) (g + 1) j = if j = (σ g 3).toNat then x else σ (g + 1) j := by
    intro j
    rw [hp_r2 (by omega), hp_rd]
    by_cases e : j = (σ g 3).toNat
    · rw [if_pos ⟨rfl, e⟩, if_pos e]
    · rw [if_neg (fun z => e z.2), if_neg e]
  generalize hp (hp σ (g + 1) (σ g 3).toNat x) g 3 (σ g 3 + 1) = σ' at *
  have en : (σ g 3 + 1).toNat = (σ g 3).toNat + 1 := by omega
  generalize hn : (σ g 3).toNat = n at *
  have elow : ∀ j, j < n → σ (g + 1) j = σ' (g + 1) j := fun j hj => by rw [er, if_neg (by omega)]
  have etop : σ' (g + 1) n = x := by rw [er, if_pos rfl]
  have etp : tp (σ' (g + 1)) n = tp (σ (g + 1)) n := (tp_ext elow).symm
  have et : tp (σ' (g + 1)) (n + 1) = if -5 ≤ x then tp (σ (g + 1)) n + 1 else if x = -6 then tp (σ (g + 1)) n else tp (σ (g + 1)) n - 1 := by
    rw [tp_s, etop, etp]
  refine ⟨⟨by rw [e4]; exact hu, by rw [e3, e4]; omega, ?_, ?_⟩, ?_, ?_⟩
  · rw [e3, en]
    intro i hi
    by_cases e : i = n
    · subst e
      rw [etop, etp]
      exact ⟨h1, fun z => (h2 z).1, h3, h4⟩
    · exact wfc_ext elow hw i (by omega)
  · rw [e3, en, et, e4]
    split
    · have := h2 (by assumption); omega
    · split <;> omega
  · unfold rdL
    rw [e3, en, hn, List.range_succ, List.map_append]
    have : List.map (σ' (g + 1)) (List.range n) = List.map (σ (g + 1)) (List.range n) := List.map_congr_left (fun j hj => (elow j (List.mem_range.mp hj)).symm)
    rw [this]
    simp [etop]
  · rw [e3, en, et]
def lb (b a : Int) : Int := if 3 ≤ b then 8 else 1 + a
def PR (g : Nat) (a : Int) (σ : Hp) : Prop := fO g ∧ 0 ≤ a ∧ a ≤ 7 ∧ (∃ B p, RS σ B p) ∧ FW σ g
def OKc (b a : Int) (g : Nat) (σ σ' : Hp) (B : Tp) (p q : Nat) (L : List Int) (c : Int) : Prop :=
  RS σ' B q ∧ σ' 1 2 = σ 1 2 ∧ σ' 1 3 = σ 1 3 ∧ FW σ' g ∧ rdL σ' g = rdL σ g ++ L ∧ σ g 4 < σ' g 4 ∧ σ' g 3 + lb b a ≤ σ g 3 + 9 * (σ' g 4 - σ g 4) ∧ tp (σ' (g + 1)) (σ' g 3).toNat = tp (σ (g + 1)) (σ g 3).toNat + 1 ∧
  ∀ S E, Cmp B b a S p → ∃ R E', Rch B (0, p, S, E, (σ g 4).toNat) (1, q, R ++ S, E', (σ' g 4).toNat) ∧ AllT (tl b) R ∧ E' ++ R = E ++ L ∧ NJ B c q (R ++ S)
def PO (b a : Int) (g : Nat) (σ : Hp) (r : Int) (σ' : Hp) : Prop := ∀ B p, RS σ B p → (Fr [1, g, g + 1] σ σ' ∧ σ' 1 1 = σ 1 1 ∧ σ' g 5 = σ g 5) ∧
  ((r = 1 ∧ ∃ q L, p < q ∧ OKc b a g σ σ' B p q L b) ∨
   (r = 0 ∧ ∃ q, σ' 1 2 = rfc B q ∧ σ' 1 3 = (tS B q : Nat) ∧ ∀ S E, Cmp B b a S p → ∃ S' E' u', Rch B (0, p, S, E, (σ g 4).toNat) (3, q, S', E', u')))
def Rd_chain_pre (nn : Nat) (k g : Nat) (a b : Int) (σ : Hp) : Prop := k = 1 ∧ PR g a σ ∧ (b = 0 ∨ b = 1 ∨ b = 3 ∨ b = 4) ∧ 20 * (7 - a) + 11 - 2 * b ≤ (nn : Int)
def Rd_chain_post (_k g : Nat) (a b : Int) (σ : Hp) (r : Int) (σ' : Hp) : Prop := (r = 0 ∨ r = 1) ∧ PO b a g σ r σ'
def Rd_part_pre (nn : Nat) (k g : Nat) (a b : Int) (σ : Hp) : Prop := k = 1 ∧ PR g a σ ∧ (b = 1 ∨ b = 2 ∨ b = 4 ∨ b = 5) ∧ 20 * (7 - a) + 12 - 2 * b ≤ (nn : Int)
def Rd_part_post (_k g : Nat) (a b : Int) (σ : Hp) (r : Int) (σ' : Hp) : Prop := (r = 0 ∨ r = 1) ∧ PO b a g σ r σ'
def Rd_one_pre (nn : Nat) (k g : Nat) (a : Int) (σ : Hp) : Prop := k = 1 ∧ PR g a σ ∧ 20 * (7 - a) + 7 ≤ (nn : Int)
def Rd_one_post (_k g : Nat) (a : Int) (σ : Hp) (r : Int) (σ' : Hp) : Prop := (r = 0 ∨ r = 1) ∧ PO 2 a g σ r σ'
def Rd_unit_pre (nn : Nat) (k g : Nat) (a : Int) (σ : Hp) : Prop := k = 1 ∧ PR g a σ ∧ 20 * (7 - a) + 1 ≤ (nn : Int)
def Rd_unit_post (_k g : Nat) (a : Int) (σ : Hp) (r : Int) (σ' : Hp) : Prop := (r = 0 ∨ r = 1) ∧ PO 5 a g σ r σ'
def Rd_chain_cs (nn : Nat) : Ct := (4, 6, 2, (0, 0), fun as σ => (match as with
    | [.inr (.inr (.inl (k, 0, 5))), .inr (.inr (.inl (q1, 0, 2))), .inl a2, .inl a3] => Rd_chain_pre nn k q1 a2 a3 σ
    | _ => False), fun as σ r σ' => (match as with
    | [.inr (.inr (.inl (k, 0, 5))), .inr (.inr (.inl (q1, 0, 2))), .inl a2, .inl a3] => Rd_chain_post k q1 a2 a3 σ r σ'
    | _ => False))
theorem Rd_chain_w : ∀ w ∈ ([.instanceMethod yX5_chain, .selects yX5_chain.cls yX5_chain yX5_chain, .initialized yX5_chain.cls, .code yX5_chain cX5_chain 6 (some .boolean)] : List Cond), w ∈ ax_tb := ax_w4 (ax_m3 95 (by decide +kernel) rfl) (ax_m0 0 (by decide +kernel) rfl) (ax_m1 2 (by decide +kernel) rfl) (ax_m3 96 (by decide +kernel) rfl)
theorem Rd_chain_ds : yX5_chain.cls ≠ "java/lang/invoke/MethodHandle" ∧ yX5_chain.cls ≠ "java/lang/invoke/VarHandle" ∧ (parseMethodDescriptor yX5_chain.desc).map (fun d => d.parameters.length) = some 3 := by decide +kernel
def Rd_part_cs (nn : Nat) : Ct := (4, 6, 2, (0, 0), fun as σ => (match as with
    | [.inr (.inr (.inl (k, 0, 5))), .inr (.inr (.inl (q1, 0, 2))), .inl a2, .inl a3] => Rd_part_pre nn k q1 a2 a3 σ
    | _ => False), fun as σ r σ' => (match as with
    | [.inr (.inr (.inl (k, 0, 5))), .inr (.inr (.inl (q1, 0, 2))), .inl a2, .inl a3] => Rd_part_post k q1 a2 a3 σ r σ'
    | _ => False))
theorem Rd_part_w : ∀ w ∈ ([.instanceMethod yX5_part, .selects yX5_part.cls yX5_part yX5_part, .initialized yX5_part.cls, .code yX5_part cX5_part 4 (some .boolean)] : List Cond), w ∈ ax_tb := ax_w4 (ax_m3 99 (by decide +kernel) rfl) (ax_m0 1 (by decide +kernel) rfl) (ax_m1 2 (by decide +kernel) rfl) (ax_m3 100 (by decide +kernel) rfl)
theorem Rd_part_ds : yX5_part.cls ≠ "java/lang/invoke/MethodHandle" ∧ yX5_part.cls ≠ "java/lang/invoke/VarHandle" ∧ (parseMethodDescriptor yX5_part.desc).map (fun d => d.parameters.length) = some 3 := by decide +kernel
def Rd_one_cs (nn : Nat) : Ct := (3, 6, 2, (0, 0), fun as σ => (match as with
    | [.inr (.inr (.inl (k, 0, 5))), .inr (.inr (.inl (q1, 0, 2))), .inl a2] => Rd_one_pre nn k q1 a2 σ
    | _ => False), fun as σ r σ' => (match as with
    | [.inr (.inr (.inl (k, 0, 5))), .inr (.inr (.inl (q1, 0, 2))), .inl a2] => Rd_one_post k q1 a2 σ r σ'
    | _ => False))
theorem Rd_one_w : ∀ w ∈ ([.instanceMethod yX5_one, .selects yX5_one.cls yX5_one yX5_one, .initialized yX5_one.cls, .code yX5_one cX5_one 4 (some .boolean)] : List Cond), w ∈ ax_tb := ax_w4 (ax_m3 103 (by decide +kernel) rfl) (ax_m0 2 (by decide +kernel) rfl) (ax_m1 2 (by decide +kernel) rfl) (ax_m3 104 (by decide +kernel) rfl)
theorem Rd_one_ds : yX5_one.cls ≠ "java/lang/invoke/MethodHandle" ∧ yX5_one.cls ≠ "java/lang/invoke/VarHandle" ∧ (parseMethodDescriptor yX5_one.desc).map (fun d => d.parameters.length) = some 2 := by decide +kernel
def Rd_unit_cs (nn : Nat) : Ct := (3, 6, 2, (0, 0), fun as σ => (match as with
    | [.inr (.inr (.inl (k, 0, 5))), .inr (.inr (.inl (q1, 0, 2))), .inl a2] => Rd_unit_pre nn k q1 a2 σ
    | _ => False), fun as σ r σ' => (match as with
    | [.inr (.inr (.inl (k, 0, 5))), .inr (.inr (.inl (q1, 0, 2))), .inl a2] => Rd_unit_post k q1 a2 σ r σ'
    | _ => False))
theorem Rd_unit_w : ∀ w ∈ ([.instanceMethod yX5_unit, .selects yX5_unit.cls yX5_unit yX5_unit, .initialized yX5_unit.cls, .code yX5_unit cX5_unit 3 (some .boolean)] : List Cond), w ∈ ax_tb := ax_w4 (ax_m3 118 (by decide +kernel) rfl) (ax_m0 3 (by decide +kernel) rfl) (ax_m1 2 (by decide +kernel) rfl) (ax_m3 119 (by decide +kernel) rfl)
theorem Rd_unit_ds : yX5_unit.cls ≠ "java/lang/invoke/MethodHandle" ∧ yX5_unit.cls ≠ "java/lang/invoke/VarHandle" ∧ (parseMethodDescriptor yX5_unit.desc).map (fun d => d.parameters.length) = some 2 := by decide +kernel
theorem RS.keep {σ σ' : Hp} {B : Tp} {p : Nat} (h : RS σ B p) (e1 : σ' 1 = σ 1) (e2 : σ' 2 = σ 2) : RS σ' B p := by
  obtain ⟨h1, h2, h3⟩ := h
  unfold RS RT
  rw [tpX_eq (σ := σ) (by rw [e1]) e2, e1]
  exact ⟨h1, h2, h3⟩
theorem fO_ne {g : Nat} (h : fO g) : 43 ≤ g ∧ g ≤ 63 := by rcases h with rfl | rfl | rfl | rfl <;> omega
def Rd_part_bk : List (Nat × List Item) := [(0, [(.iload_n 3, 1, [], []), (.iconst 2, 1, [], []), (.if_icmp .ne 10, 3, [12], []), (.aload_n 0, 1, [], []), (.aload_n 1, 1, [], []), (.iload_n 2, 1, [], []), (.invokevirtual 184, 3, [0], []), (.ireturn, 1, [], [])]),
  (12, [(.iload_n 3, 1, [], []), (.iconst 4, 1, [], []), (.if_icmp .le 10, 3, [24], []), (.aload_n 0, 1, [], []), (.aload_n 1, 1, [], []), (.iload_n 2, 1, [], []), (.invokevirtual 188, 3, [1], []), (.ireturn, 1, [], [])]),
  (24, [(.aload_n 0, 1, [], []), (.aload_n 1, 1, [], []), (.iload_n 2, 1, [], []), (.iload_n 3, 1, [], []), (.invokevirtual 157, 3, [2], []), (.ireturn, 1, [], [])])]
def Rd_part_cl : List (Instr × Nat) := [(.invokevirtual 184, 0), (.invokevirtual 188, 1), (.invokevirtual 157, 2)]
set_option maxRecDepth 20000 in
theorem Rd_part_ck : Rd_part_bk.all (fun b => ax_chB 5 4 cX5_part Rd_part_cl b.1 b.2) = true := by decide +kernel
def Rd_part_vc (nn : Nat) : Prop := ∀ (k : Nat) (q1 : Nat) (a2 : Int) (a3 : Int) (σ : Hp), ax_H σ → Rd_part_pre (nn + 1) k q1 a2 a3 σ →
  (¬ a3 = 2 →
    (a3 ≤ 4 →
      Rd_chain_pre nn k q1 a2 a3 σ ∧
      ∀ (r2 : Int) (σ1 : Hp), Rd_chain_post k q1 a2 a3 σ r2 σ1 →
      (r2 = 0 ∨ r2 = 1) ∧ Rd_part_post k q1 a2 a3 σ r2 σ1) ∧
    (¬ (a3 ≤ 4) →
      Rd_unit_pre nn k q1 a2 σ ∧
      ∀ (r4 : Int) (σ3 : Hp), Rd_unit_post k q1 a2 σ r4 σ3 →
      (r4 = 0 ∨ r4 = 1) ∧ Rd_part_post k q1 a2 a3 σ r4 σ3)) ∧
  (¬ (¬ a3 = 2) →
    Rd_one_pre nn k q1 a2 σ ∧
    ∀ (r6 : Int) (σ5 : Hp), Rd_one_post k q1 a2 σ r6 σ5 →
    (r6 = 0 ∨ r6 = 1) ∧ Rd_part_post k q1 a2 a3 σ r6 σ5)
theorem Rd_part_p (nn : Nat) : Rd_part_vc nn := by
  intro k g a b σ hH hp
  obtain ⟨rfl, hP, hb, hM⟩ := hp
  have ha := hP.2
  refine ⟨fun h => ⟨fun h2 => ⟨⟨rfl, hP, by omega, by omega⟩, fun r σ1 h => ⟨h.1, h⟩⟩, fun h2 => ⟨⟨rfl, hP, by omega⟩, fun r σ1 g1 => ⟨g1.1, g1.1, ?_⟩⟩⟩, fun h => ⟨⟨rfl, hP, by omega⟩, fun r σ1 g1 => ⟨g1.1, g1.1, ?_⟩⟩⟩
  · rw [show b = 5 by omega]; exact g1.2
  · rw [show b = 2 by omega]; exact g1.2
def Rd_chain_I17 (_k g : Nat) (a b : Int) (σ0 : Hp) (n : Nat) (v4 : Int) (σ : Hp) : Prop := ∃ i : Nat, v4 = i ∧ n = 1600 - i ∧ ∀ B p, RS σ0 B p → (Fr [1, g, g + 1] σ0 σ ∧ σ 1 1 = σ0 1 1 ∧ σ g 5 = σ0 g 5) ∧ ∃ q L, i + p < q ∧ OKc b a g σ0 σ B p q L (b + 1)
def Rd_chain_bk : List (Nat × List Item) := [(0, [(.aload_n 0, 1, [], []), (.aload_n 1, 1, [], []), (.iload_n 2, 1, [], []), (.iload_n 3, 1, [], []), (.iconst 1, 1, [], []), (.iadd, 1, [], []), (.invokevirtual 173, 3, [0], []), (.ifCond .ne 5, 3, [14], []), (.iconst 0, 1, [], []), (.ireturn, 1, [], [])]),
  (14, [(.iconst 0, 1, [], []), (.istore 4, 2, [], [])]),
  (17, [(.iload 4, 2, [], []), (.sipush 1600, 3, [], []), (.if_icmp .ge 47, 3, [69], []), (.aload_n 0, 1, [], []), (.iload_n 3, 1, [], []), (.invokevirtual 176, 3, [1], []), (.istore 5, 2, [], []), (.iload 5, 2, [], []), (.ifCond .ne 5, 3, [39], []), (.iconst 1, 1, [], []), (.ireturn, 1, [], [])]),
  (39, [(.aload_n 0, 1, [], []), (.invokevirtual 33, 3, [2], []), (.aload_n 0, 1, [], []), (.aload_n 1, 1, [], []), (.iload_n 2, 1, [], []), (.iload_n 3, 1, [], []), (.iconst 1, 1, [], []), (.iadd, 1, [], []), (.invokevirtual 173, 3, [0], []), (.ifCond .ne 5, 3, [57], []), (.iconst 0, 1, [], []), (.ireturn, 1, [], [])]),
  (57, [(.aload_n 1, 1, [], []), (.iload 5, 2, [], []), (.invokevirtual 180, 3, [3], []), (.iinc 4 1, 3, [], []), (.goto (-49), 3, [17], [])]),
  (69, [(.aload_n 0, 1, [], []), (.invokevirtual 56, 3, [4], []), (.ireturn, 1, [], [])])]
def Rd_chain_cl : List (Instr × Nat) := [(.invokevirtual 173, 0), (.invokevirtual 176, 1), (.invokevirtual 33, 2), (.invokevirtual 180, 3), (.invokevirtual 56, 4)]
set_option maxRecDepth 20000 in
theorem Rd_chain_ck : Rd_chain_bk.all (fun b => ax_chB 5 6 cX5_chain Rd_chain_cl b.1 b.2) = true := by decide +kernel
def Rd_chain_vc (nn : Nat) : Prop := ∀ (k : Nat) (q1 : Nat) (a2 : Int) (a3 : Int) (σ : Hp), ax_H σ → Rd_chain_pre (nn + 1) k q1 a2 a3 σ →
  Rd_part_pre nn k q1 a2 (wr (a3 + 1)) σ ∧
  ∀ (r2 : Int) (σ1 : Hp), Rd_part_post k q1 a2 (wr (a3 + 1)) σ r2 σ1 →
  (¬ r2 = 0 →
    ∃ n' : Nat, k = k ∧ q1 = q1 ∧ a2 = a2 ∧ a3 = a3 ∧ Rd_chain_I17 k q1 a2 a3 σ n' 0 σ1) ∧
  (¬ (¬ r2 = 0) →
    ((0 : Int) = 0 ∨ (0 : Int) = 1) ∧ Rd_chain_post k q1 a2 a3 σ 0 σ1)
def Rd_chain_vc17 (nn : Nat) : Prop := ∀ (k : Nat) (q1 : Nat) (a2 : Int) (a3 : Int) (σ0 : Hp), Rd_chain_pre (nn + 1) k q1 a2 a3 σ0 → ∀ (n : Nat) (v4 : Int) (σ : Hp), ax_H σ → Rd_chain_I17 k q1 a2 a3 σ0 n v4 σ →
  (1600 ≤ v4 →
    Rd_refuse_pre k σ ∧
    ∀ (r2 : Int) (σ1 : Hp), Rd_refuse_post k σ r2 σ1 →
    (r2 = 0 ∨ r2 = 1) ∧ Rd_chain_post k q1 a2 a3 σ0 r2 σ1) ∧
  (¬ (1600 ≤ v4) →
    Rd_jointAt_pre k a3 σ ∧
    ∀ (r4 : Int) (σ3 : Hp), Rd_jointAt_post k a3 σ r4 σ3 →
    (¬ r4 = 0 →
      Rd_advance_pre k σ3 ∧
      ∀ σ5 : Hp, Rd_advance_post k σ3 σ5 →
      Rd_part_pre nn k q1 a2 (wr (a3 + 1)) σ5 ∧
      ∀ (r7 : Int) (σ6 : Hp), Rd_part_post k q1 a2 (wr (a3 + 1)) σ5 r7 σ6 →
      (¬ r7 = 0 →
        Fo_append_pre q1 r4 σ6 ∧
        ∀ σ8 : Hp, Fo_append_post q1 r4 σ6 σ8 →
        ∃ n' : Nat, n' < n ∧ k = k ∧ q1 = q1 ∧ a2 = a2 ∧ a3 = a3 ∧ Rd_chain_I17 k q1 a2 a3 σ0 n' (wr (v4 + 1)) σ8) ∧
      (¬ (¬ r7 = 0) →
        ((0 : Int) = 0 ∨ (0 : Int) = 1) ∧ Rd_chain_post k q1 a2 a3 σ0 0 σ6)) ∧
    (¬ (¬ r4 = 0) →
      ((1 : Int) = 0 ∨ (1 : Int) = 1) ∧ Rd_chain_post k q1 a2 a3 σ0 1 σ3))
theorem Fr3 {g : Nat} {σ σ1 σ2 : Hp} (h : Fr [1, g, g + 1] σ σ1) (h2 : Fr [1, g, g + 1] σ1 σ2) : Fr [1, g, g + 1] σ σ2 := h.tr h2
theorem Fr1 {g : Nat} {σ σ1 : Hp} (h : Fr [1] σ σ1) : Fr [1, g, g + 1] σ σ1 := h.mono (by simp)
theorem lb_1 {b a : Int} (a0 : 0 ≤ a) : 1 ≤ lb b a := by unfold lb; split <;> omega
theorem Rd_chain_p (nn : Nat) : Rd_chain_vc nn := by
  intro k g a b σ hH hp
  obtain ⟨rfl, hP, hb, hM⟩ := hp
  have ha := hP.2
  have ew : wr (b + 1) = b + 1 := wr_id (by omega) (by omega)
  rw [ew]
  refine ⟨⟨rfl, hP, by omega, by omega⟩, ?_⟩
  intro r σ1 h
  obtain ⟨tv0, tv1, tv2, tv3, tv4, tv5⟩ := tl_vals
  obtain ⟨cv0, cv1, cv2, cv3, cv4, cv5⟩ := cpt_vals
  have hcmp : ∀ B p S, Cmp B b a S p → Cmp B (b + 1) a S p := by
    rintro B p S ⟨c1, c2, c3⟩
    rcases hb with rfl | rfl | rfl | rfl
    · rw [cv0] at c1; exact ⟨by rw [show (0 : Int) + 1 = 1 from rfl, cv1]; omega, c2, fun z => absurd z (by decide)⟩
    · rw [cv1] at c1; exact ⟨by rw [show (1 : Int) + 1 = 2 from rfl, cv2]; omega, c2, fun z => absurd z (by decide)⟩
    · rw [cv3] at c1; exact ⟨by rw [show (3 : Int) + 1 = 4 from rfl, cv4]; omega, c2, fun _ => c3 (by decide)⟩
    · rw [cv4] at c1; exact ⟨by rw [show (4 : Int) + 1 = 5 from rfl, cv5]; omega, c2, fun _ => c3 (by decide)⟩
  have hlb : lb (b + 1) a = lb b a := by unfold lb; rcases hb with rfl | rfl | rfl | rfl <;> simp
  have htl : tl b ≤ tl (b + 1) := by
    rcases hb with rfl | rfl | rfl | rfl
    · rw [show (0 : Int) + 1 = 1 from rfl]; omega
    · rw [show (1 : Int) + 1 = 2 from rfl]; omega
    · rw [show (3 : Int) + 1 = 4 from rfl]; omega
    · rw [show (4 : Int) + 1 = 5 from rfl]; omega
  refine ⟨fun h0 => ⟨1600, rfl, rfl, rfl, rfl, 0, rfl, rfl, fun B p hR => ?_⟩, fun h0 => ⟨Or.inl rfl, Or.inl rfl, fun B p hR => ?_⟩⟩
  · obtain ⟨h1, h2⟩ := h.2 B p hR
    rcases h2 with ⟨h2, q, L, hq, o1, o2, o3, o4, o5, o6, o7, o8, o9⟩ | ⟨h2, -⟩
    · refine ⟨h1, q, L, by omega, o1, o2, o3, o4, o5, o6, by rw [← hlb]; exact o7, o8, fun S E hc => ?_⟩
      obtain ⟨R, E', m1, m2, m3, m4⟩ := o9 S E (hcmp B p S hc)
      exact ⟨R, E', m1, m2.mono htl, m3, m4⟩
    · exact absurd h2 h0
  · obtain ⟨h1, h2⟩ := h.2 B p hR
    rcases h2 with ⟨h2, -⟩ | ⟨h2, q, c1, c2, c3⟩
    · exact absurd (by rw [h2]; decide) h0
    · exact ⟨h1, Or.inr ⟨rfl, q, c1, c2, fun S E hc => c3 S E (hcmp B p S hc)⟩⟩
theorem Rd_chain_p17 (nn : Nat) : Rd_chain_vc17 nn := by
  intro k g a b σ0 hp n v4 σ hH hI
  obtain ⟨rfl, hP, hb, hM⟩ := hp
  obtain ⟨i, rfl, rfl, hI⟩ := hI
  obtain ⟨hg, a0, a7, ⟨B0, p0, hR0⟩, hFW⟩ := hP
  have hgn := fO_ne hg
  have ew : wr (b + 1) = b + 1 := wr_id (by omega) (by omega)
  rw [ew]
  obtain ⟨hfr0, q0, L0, hq0, O0⟩ := hI B0 p0 hR0
  have hRS0 := O0.1
  have hq16 : q0 ≤ 1600 := by
    have h1 := hRS0.2.2.1
    have h2 := hRS0.2.1.n
    rw [hRS0.1] at h2
    omega
  obtain ⟨tv0, tv1, tv2, tv3, tv4, tv5⟩ := tl_vals
  obtain ⟨cv0, cv1, cv2, cv3, cv4, cv5⟩ := cpt_vals
  refine ⟨fun h => absurd h (by omega), fun h => ⟨rfl, ?_⟩⟩
  rintro r4 σ3 ⟨rfl, hr4⟩
  refine ⟨fun h4 => ⟨hRS0.adv.1, ?_⟩, fun h4 => ⟨Or.inr rfl, Or.inr rfl, fun B p hR => ?_⟩⟩
  · intro σ5 hadv
    have A0 := hRS0.adv.2 σ5 hadv
    have e5g : σ5 g = σ3 g := A0.1 g (by simp; omega)
    have e5g1 : σ5 (g + 1) = σ3 (g + 1) := A0.1 (g + 1) (by simp; omega)
    have F5 := O0.2.2.2.1.eq e5g e5g1
    refine ⟨⟨rfl, ⟨hg, a0, a7, ⟨B0, _, A0.2.2.2.2⟩, F5.1⟩, by omega, by omega⟩, ?_⟩
    intro r7 σ6 h6
    -- the machine's road up to the operator
    have road : ∀ B p, RS σ0 B p → ∃ q L, (Fr [1, g, g + 1] σ0 σ3 ∧ σ3 1 1 = σ0 1 1 ∧ σ3 g 5 = σ0 g 5) ∧ i + p < q ∧ OKc b a g σ0 σ3 B p q L (b + 1) ∧ RS σ5 B (tN B q) ∧ q ≤ tN B q ∧ r4 = opA B q ∧ (-16 ≤ r4 ∧ r4 ≤ -7) ∧ ∀ S E, Cmp B b a S p → Rch B (0, p, S, E, (σ0 g 4).toNat) (0, tN B q, r4 :: S, E ++ L, (σ5 g 4).toNat) ∧ Cmp B (b + 1) a (r4 :: S) (tN B q) ∧ tg r4 = tl b := by
      intro B p hR
      obtain ⟨hfr, q, L, hq, O⟩ := hI B p hR
      have hj : r4 = jA B q b := by rw [hr4]; exact jt_A O.1 b
      obtain ⟨j1, j2, j3⟩ := jA_ne (by rw [← hj]; exact h4)
      have hrq : r4 = opA B q := by rw [hj, j3]
      have hN := tN_R (B := B) (p := q) (by have := O.1.2.1.n; rw [O.1.1] at this; exact this.1) O.1.2.2.1
      have hS := tS_R (B := B) (p := q) (by have := O.1.2.1.n; rw [O.1.1] at this; exact this.1) O.1.2.2.1
      refine ⟨q, L, hfr, hq, O, (O.1.adv.2 σ5 hadv).2.2.2.2, by omega, hrq, by rw [hrq]; exact j1, fun S E hc => ?_⟩
      obtain ⟨R, E', m1, m2, m3, m4⟩ := O.2.2.2.2.2.2.2.2 S E hc
      have htg := tg_op j1
      have e : tg (opA B q) = tl b := by
        rw [j2] at htg
        rcases hb with rfl | rfl | rfl | rfl
        · rw [tv0]; omega
        · rw [tv1]; omega
        · rw [tv3]; omega
        · rw [tv4]; omega
      have hct : tt S < tg (opA B q) := by
        have := hc.1
        rw [e]
        rcases hb with rfl | rfl | rfl | rfl
        · rw [cv0] at this; omega
        · rw [cv1] at this; omega
        · rw [cv3] at this; omega
        · rw [cv4] at this; omega
      have n4 : ¬ tg (opA B q) = 4 := by
        rw [j2] at htg
        omega
      refine ⟨?_, ?_, by rw [hrq]; exact e⟩
      · have := m1.on (stM_op (by omega) (fun z => n4 z.1) (by rw [e]; exact m2) hct)
        rw [m3] at this
        rw [hrq, e5g]; exact this
      · have ett : tt (r4 :: S) = tl b := by
          show (if r4 = 1 then 0 else tg r4) = _
          rw [if_neg (by omega), hrq, e]
        refine ⟨?_, ?_, fun _ => ?_⟩
        · rw [ett]
          rcases hb with rfl | rfl | rfl | rfl
          · rw [show (0 : Int) + 1 = 1 from rfl]; omega
          · rw [show (1 : Int) + 1 = 2 from rfl]; omega
          · rw [show (3 : Int) + 1 = 4 from rfl]; omega
          · rw [show (4 : Int) + 1 = 5 from rfl]; omega
        · show ((dpt S + (if r4 = 1 ∨ r4 = -6 then 1 else 0) : Nat) : Int) = a
          rw [if_neg (by omega)]
          exact hc.2.1
        · rw [ett]
          rcases hb with rfl | rfl | rfl | rfl
          · rename_i z; exact absurd z (by decide)
          · rename_i z; exact absurd z (by decide)
          · omega
          · omega
    have a5 : Fr [1, g, g + 1] σ3 σ5 := Fr1 A0.1
    have hlb : lb (b + 1) a = lb b a := by unfold lb; rcases hb with rfl | rfl | rfl | rfl <;> simp
    refine ⟨fun h7 => ?_, fun h7 => ⟨Or.inl rfl, Or.inl rfl, fun B p hR => ?_⟩⟩
    · have h7' : r7 = 1 := h6.1.resolve_left h7
      obtain ⟨-, hx⟩ := h6.2 B0 _ A0.2.2.2.2
      obtain ⟨q60, L60, -, O60⟩ : ∃ q L, tN B0 q0 < q ∧ OKc (b + 1) a g σ5 σ6 B0 (tN B0 q0) q L (b + 1) := by
        rcases hx with ⟨-, q, L, z1, z2⟩ | ⟨z, -⟩
        · exact ⟨q, L, z1, z2⟩
        · omega
      have F6 := O60.2.2.2.1
      have b6 := O60.2.2.2.2.2.2.1
      have t6 := O60.2.2.2.2.2.2.2.1
      have hb1 := lb_1 (b := b) a0
      have FW5 := F5.1
      have t3 := O0.2.2.2.2.2.2.2.1
      have i1 : σ6 g 3 + 1 ≤ 9 * σ6 g 4 := by
        rw [hlb] at b6
        have := FW5.2.1
        omega
      refine ⟨⟨F6.2.1.1, by have := F6.1; omega⟩, ?_⟩
      intro σ8 h8
      have e8 : σ8 = hp (hp σ6 (g + 1) (σ6 g 3).toNat r4) g 3 (σ6 g 3 + 1) := by
        rw [h8, if_neg (by have := F6.1; omega)]
      obtain ⟨q1, L1, hfr1, hq1, O1, hR5, hqn, hrq, hrr, mac⟩ := road B0 p0 hR0
      have tt6 : tp (σ6 (g + 1)) (σ6 g 3).toNat = tp (σ0 (g + 1)) (σ0 g 3).toNat + 2 := by
        rw [t6, e5g1, e5g, t3]
      have AP := app_FW (x := r4) F6 i1 (by omega) (fun z => by omega) (fun z => by omega) (fun _ => by omega)
      rw [← e8] at AP
      have e81 : σ8 1 = σ6 1 := by rw [e8, hp_ne (by omega), hp_ne (by omega)]
      have e82 : σ8 2 = σ6 2 := by rw [e8, hp_ne (by omega), hp_ne (by omega)]
      have e84 : σ8 g 4 = σ6 g 4 := by rw [e8, hp_r2 (by omega), hp_r2 (by omega)]
      have e85 : σ8 g 5 = σ6 g 5 := by rw [e8, hp_r2 (by omega), hp_r2 (by omega)]
      have e83 : σ8 g 3 = σ6 g 3 + 1 := by rw [e8, hp_r1]
      have f8 : Fr [1, g, g + 1] σ6 σ8 := by rw [e8]; exact Fr.hp (Fr.hp Fr.rf (by simp)) (by simp)
      refine ⟨1600 - (i + 1), by omega, rfl, rfl, rfl, rfl, i + 1, by rw [wr1 (by omega) (by omega)]; simp, rfl, fun B p hR => ?_⟩
      obtain ⟨q, L, hfr, hq, O, hR5, hqn, hrq, hrr, mac⟩ := road B p hR
      obtain ⟨hf6, hx⟩ := h6.2 B _ hR5
      obtain ⟨q2, L2, hq2, P1, P2, P3, P4, P5, P6, P7, P8, P9⟩ : ∃ q2 L2, tN B q < q2 ∧ OKc (b + 1) a g σ5 σ6 B (tN B q) q2 L2 (b + 1) := by
        rcases hx with ⟨-, q, L, z1, z2⟩ | ⟨z, -⟩
        · exact ⟨q, L, z1, z2⟩
        · omega
      have ad := (O.1.adv.2 σ5 hadv)
      refine ⟨⟨(hfr.1.tr (a5.tr hf6.1)).tr f8, by rw [e81, hf6.2.1, ad.2.1]; exact hfr.2.1, by rw [e85, hf6.2.2, e5g]; exact hfr.2.2⟩, q2, L ++ L2 ++ [r4], by omega, P1.keep e81 e82, by rw [e81, P2, ad.2.2.1]; exact O.2.1, by rw [e81, P3, ad.2.2.2.1]; exact O.2.2.1, AP.1, ?_, ?_, ?_, ?_, fun S E hc => ?_⟩
      · rw [AP.2.1, P5, F5.2, O.2.2.2.2.1]; simp
      · rw [e84]; have := O.2.2.2.2.2.1; rw [e5g] at P6; omega
      · rw [e83, e84]
        have o7 := O.2.2.2.2.2.2.1
        rw [hlb, e5g] at P7
        omega
      · rw [AP.2.2, if_neg (by omega), if_neg (by omega), tt6]; omega
      · obtain ⟨m1, m2, m3⟩ := mac S E hc
        obtain ⟨R, E', n1, n2, n3, n4⟩ := P9 (r4 :: S) (E ++ L) m2
        have es : (R ++ [r4]) ++ S = R ++ r4 :: S := by simp
        have htl : tl b ≤ tl (b + 1) := by
          rcases hb with rfl | rfl | rfl | rfl
          · rw [show (0 : Int) + 1 = 1 from rfl]; omega
          · rw [show (1 : Int) + 1 = 2 from rfl]; omega
          · rw [show (3 : Int) + 1 = 4 from rfl]; omega
          · rw [show (4 : Int) + 1 = 5 from rfl]; omega
        refine ⟨R ++ [r4], E', ?_, (n2.mono htl).snoc (by omega) (by omega), ?_, ?_⟩
        · rw [es, e84]; exact m1.tr n1
        · rw [← List.append_assoc, n3]; simp
        · rw [es]; exact n4
    · have h7' : r7 = 0 := Classical.not_not.mp h7
      obtain ⟨q, L, hfr, hq, O, hR5, hqn, hrq, hrr, mac⟩ := road B p hR
      obtain ⟨hf6, hx⟩ := h6.2 B _ hR5
      have ad := (O.1.adv.2 σ5 hadv)
      refine ⟨⟨hfr.1.tr (a5.tr hf6.1), by rw [hf6.2.1, ad.2.1]; exact hfr.2.1, by rw [hf6.2.2, e5g]; exact hfr.2.2⟩, Or.inr ⟨rfl, ?_⟩⟩
      rcases hx with ⟨z, -⟩ | ⟨-, q2, c1, c2, c3⟩
      · omega
      · refine ⟨q2, c1, c2, fun S E hc => ?_⟩
        obtain ⟨m1, m2, m3⟩ := mac S E hc
        obtain ⟨S', E', u', n1⟩ := c3 _ (E ++ L) m2
        exact ⟨S', E', u', m1.tr n1⟩
  · obtain ⟨hfr, q, L, hq, O⟩ := hI B p hR
    have hj : jA B q b = 0 := by rw [← jt_A O.1 b, ← hr4]; exact Classical.not_not.mp h4
    refine ⟨hfr, Or.inl ⟨rfl, q, L, by omega, O.1, O.2.1, O.2.2.1, O.2.2.2.1, O.2.2.2.2.1, O.2.2.2.2.2.1, O.2.2.2.2.2.2.1, O.2.2.2.2.2.2.2.1, fun S E hc => ?_⟩⟩
    obtain ⟨R, E', m1, m2, m3, m4⟩ := O.2.2.2.2.2.2.2.2 S E hc
    exact ⟨R, E', m1, m2, m3, NJ_down hb m4 hj⟩
