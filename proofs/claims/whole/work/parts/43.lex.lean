-- CALLS ON THE STRING OF SIGNS
section CALLT
variable {p : Program} {l : Launch} {e : Env} {R : Room} {s : State} {m : MethodId} {args : Array Value} {below : List Frame} {meth : Method} {c : Code} {cells slots : Nat} {Q : State → Prop}
variable {D : va_G} {ad : Nat → Nat} {ca : Nat → ClassId} {A : Nat → Prop} {cc : ByteArray} {nL oc L : Nat} {fx : Nat → Int}
theorem ax_kd99 : ∀ k, k < 108 → ax_kd k ≠ (0, 99) := by decide +kernel
theorem sn_callT (C : ax_Cx p s m args c D ad ca A cc nL oc L fx) {cs : Ct} {y : MethodName} {bc : ByteArray} {maxL d i n : Nat} {ret : Option FieldType} (hM : ax_MC l D ad ca L fx y bc maxL ret d cs) (hrc : cs.2.1 = 100) (hy : y.cls = "java/lang/String")
    (w1 : Cond.methodLink (ax_R oc) i y ∈ ax_tb) (w2 : ∀ w ∈ ([.instanceMethod y, .selects y.cls y y, .initialized y.cls, .code y bc maxL ret] : List Cond), w ∈ ax_tb) (hn1 : cs.1 = n + 1) (hds : y.cls ≠ "java/lang/invoke/MethodHandle" ∧ y.cls ≠ "java/lang/invoke/VarHandle" ∧ (parseMethodDescriptor y.desc).map (fun d => d.parameters.length) = some n)
    (hfr : d + 1 ≤ R.frames) (hlo : 8 + (maxL + 11) + 40 * d ≤ R.locals) (hce : cells ≤ R.cells) (hsl : slots ≤ R.slots) {N : List AV → Hp → Prop} {st ls : List AV} {σ : Hp} {pc : Nat} (hd : decode cc pc = .ok (.invokevirtual i, 3))
    (hN : ∀ st' σ', N st' σ' → ax_SW p l e R s m args below meth c cells slots Q D ad ca A nL L (pc + 3) st' ls σ') (h : ax_call cs N st σ) : ax_SW p l e R s m args below meth c cells slots Q D ad ca A nL L pc st ls σ := by
  obtain ⟨as, rst, rfl, hlen, hcats, hrcv, hpre, hq⟩ := ax_call_out h
  intro H locs la hP hD hS hH hst hls hn hl
  rw [hrc] at hrcv
  have hoka : ∀ v ∈ as, ax_okv L v := fun v hv => hst v (List.mem_append_left _ (List.mem_reverse.mpr hv))
  have hokr : ∀ v ∈ rst, ax_okv L v := fun v hv => hst v (List.mem_append_right _ hv)
  obtain ⟨n0, as', rfl⟩ : ∃ n0 as', as = .inr (.inr (.inl (1000, 9, n0))) :: as' := by
    match as, hrcv, hoka with
    | .inr (.inr (.inl (k, 0, c1))) :: as', hrcv, hoka =>
      have e1 := Nat.eq_of_beq_eq_true (show Nat.beq c1 99 = true from hrcv)
      subst e1
      have hk : ax_kd k = (0, 99) := ax_ok_k (ok_h hoka) (Nat.zero_le _)
      exact absurd hk (ax_kd99 k (ax_kd_lt (by rw [hk]; exact Nat.zero_le _)))
    | .inr (.inr (.inl (k, 9, c1))) :: as', hrcv, hoka =>
      have h1 := ok_h hoka
      rcases h1 with h1 | h1 | h1 | h1 | h1
      · have := h1.1; dsimp only at this; omega
      · exact ⟨c1, as', by rw [show k = 1000 from h1.2]⟩
      · have := congrArg Prod.fst h1.1; dsimp only at this; omega
      · have := congrArg Prod.fst h1.1; dsimp only at this; omega
      · have := congrArg Prod.fst h1.1; dsimp only at this; omega
  have hwg : ∀ w ∈ wsV (ax_R oc) i "java/lang/String" y (Cond.code y bc maxL ret :: ax_tb), w ∈ ax_tb := by
    intro w hw
    rw [hy] at w2
    rcases List.mem_append.mp (show w ∈ ([.methodLink (ax_R oc) i y, .instanceMethod y, .selects "java/lang/String" y y, .initialized "java/lang/String"] : List Cond) ++ (Cond.code y bc maxL ret :: ax_tb) from hw) with hw | hw
    · simp only [List.mem_cons, List.not_mem_nil, or_false] at hw
      rcases hw with rfl | rfl | rfl | rfl
      · exact w1
      · exact w2 _ (by simp)
      · exact w2 _ (by simp)
      · exact w2 _ (by simp)
    · rcases List.mem_cons.mp hw with rfl | hw
      · exact w2 _ (by simp)
      · exact hw
  refine ax_after (a := (Value.ref (ad 1000) :: as'.map (ax_cv ad)).toArray) (as := .inr (.inr (.inl (1000, 9, n0))) :: as') (rst := rst) C ?_ hN hq hP hD hS hokr hls hn hl
  refine va_runV (C := "java/lang/String") (As := as'.map (ax_cv ad)) (b := ad 1000) (n := n) ⟨C.1, C.2.1, C.2.2.1, C.2.2.2.1, C.2.2.2.2.1⟩ (hM _ σ H.size hlen hpre hH hoka)
    (cwV n C.2.2.2.2.1 (ax_goodIn hwg) rfl rfl rfl ⟨hy, hds⟩ ⟨hfr, hlo⟩) ⟨ax_blind, vk_recv (i := 0) C.2.2.2.2.2.2.1.2.2.2.2.2.1 (by decide) hS, ax_pre (as := .inr (.inr (.inl (1000, 9, n0))) :: as') C hP hD hS⟩ rfl (by simp at hlen ⊢; omega) hl.1 ?_ (lv_room (by rw [ax_cats_eq]; exact hcats)) hd ⟨hce, hsl⟩
  simp [ax_cv]
end CALLT
theorem ax_cwT {l : Launch} {D : va_G} {ad : Nat → Nat} {ca : Nat → ClassId} {L : Nat} {fx : Nat → Int} {oc d d' i n maxL : Nat} {cs : Ct} {y : MethodName} {bc : ByteArray} {ret : Option FieldType} (hM : ax_MC l D ad ca L fx y bc maxL ret d' cs) (hd : d' < d) (hmx : maxL ≤ 21) (hrc : cs.2.1 = 100) (hy : y.cls = "java/lang/String")
    (w1 : Cond.methodLink (ax_R oc) i y ∈ ax_tb) (w2 : ∀ w ∈ ([.instanceMethod y, .selects y.cls y y, .initialized y.cls, .code y bc maxL ret] : List Cond), w ∈ ax_tb) (hn1 : cs.1 = n + 1) (hds : y.cls ≠ "java/lang/invoke/MethodHandle" ∧ y.cls ≠ "java/lang/invoke/VarHandle" ∧ (parseMethodDescriptor y.desc).map (fun d => d.parameters.length) = some n) : ax_CW l D ad ca L fx oc d (.invokevirtual i) cs := by
  intro p e R s m args below meth c cells slots Q A cc nL C h1 h2 h3 h4 pc N st ls σ hdc hN h
  exact sn_callT C hM hrc hy w1 w2 hn1 hds (by omega) (by omega) h3 h4 hdc hN h
-- THE TEXT: its tokens
abbrev Tp : Type := (Nat → Int) × Nat
def run (P : Nat → Bool) : Nat → Nat → Nat
  | 0, p => p
  | f + 1, p => if P p then run P f (p + 1) else p
theorem run_ok {P : Nat → Bool} {n : Nat} (h : ∀ i, P i = true → i < n) : ∀ f p, n ≤ f + p → p ≤ run P f p ∧ (∀ i, p ≤ i → i < run P f p → P i = true) ∧ P (run P f p) = false := by
  intro f
  induction f with
  | zero =>
    intro p hp
    refine ⟨Nat.le_refl _, fun i h1 h2 => absurd h2 (by simp only [run]; omega), ?_⟩
    show P p = false
    cases hb : P p with
    | false => rfl
    | true => have := h p hb; omega
  | succ f ih =>
    intro p hp
    unfold run
    cases hb : P p with
    | false => exact ⟨Nat.le_refl _, fun i h1 h2 => absurd h2 (by simp; omega), by simp [hb]⟩
    | true =>
      rw [if_pos rfl]
      obtain ⟨h1, h2, h3⟩ := ih (p + 1) (by omega)
      refine ⟨by omega, fun i g1 g2 => ?_, h3⟩
      by_cases e : i = p
      · rw [e]; exact hb
      · exact h2 i (by omega) g2
theorem run_is {P : Nat → Bool} {n : Nat} (h : ∀ i, P i = true → i < n) {f p v : Nat} (hf : n ≤ f + p) (h1 : p ≤ v) (h2 : ∀ i, p ≤ i → i < v → P i = true) (h3 : P v = false) : v = run P f p := by
  obtain ⟨g1, g2, g3⟩ := run_ok h f p hf
  rcases Nat.lt_trichotomy v (run P f p) with z | z | z
  · have := g2 v h1 z; rw [h3] at this; cases this
  · exact z
  · have := h2 _ g1 z; rw [g3] at this; cases this
theorem run_le {P : Nat → Bool} {n : Nat} (h : ∀ i, P i = true → i < n) {f p : Nat} (hf : n ≤ f + p) (hp : p ≤ n) : run P f p ≤ n := by
  obtain ⟨g1, g2, g3⟩ := run_ok h f p hf
  by_cases e : run P f p = p
  · omega
  · have := h _ (g2 (run P f p - 1) (by omega) (by omega)); omega
def bL (B : Tp) (i : Nat) : Bool := decide (i < B.2 ∧ 97 ≤ B.1 i ∧ B.1 i ≤ 122)
def bD (B : Tp) (i : Nat) : Bool := decide (i < B.2 ∧ 48 ≤ B.1 i ∧ B.1 i ≤ 57)
def bW (B : Tp) (i : Nat) : Bool := decide (i < B.2 ∧ (B.1 i = 32 ∨ B.1 i = 10))
theorem bL_t {B : Tp} {i : Nat} : bL B i = true ↔ i < B.2 ∧ 97 ≤ B.1 i ∧ B.1 i ≤ 122 := decide_eq_true_iff
theorem bD_t {B : Tp} {i : Nat} : bD B i = true ↔ i < B.2 ∧ 48 ≤ B.1 i ∧ B.1 i ≤ 57 := decide_eq_true_iff
theorem bW_t {B : Tp} {i : Nat} : bW B i = true ↔ i < B.2 ∧ (B.1 i = 32 ∨ B.1 i = 10) := decide_eq_true_iff
theorem bL_lt {B : Tp} : ∀ i, bL B i = true → i < B.2 := fun _ h => (bL_t.mp h).1
theorem bD_lt {B : Tp} : ∀ i, bD B i = true → i < B.2 := fun _ h => (bD_t.mp h).1
theorem bW_lt {B : Tp} : ∀ i, bW B i = true → i < B.2 := fun _ h => (bW_t.mp h).1
def tS (B : Tp) (p : Nat) : Nat := run (bW B) 1601 p
def eL (B : Tp) (q : Nat) : Nat := run (bL B) 1601 q
def eD (B : Tp) (q : Nat) : Nat := run (bD B) 1601 q
def wv (B : Tp) (q : Nat) : Nat → Int
  | 0 => 0
  | j + 1 => lOr (lShl (wv B q j) 8) (B.1 (q + j))
def nv (B : Tp) (q : Nat) : Nat → Int
  | 0 => 0
  | j + 1 => wr (wr (wr (nv B q j * 10) + B.1 (q + j)) - 48)
/-- the kind of a token: 0 the end, 1 a word, 2 a number, 3 a sign, 4 none -/
def tK (B : Tp) (p : Nat) : Nat :=
  if B.2 ≤ tS B p then 0 else if bL B (tS B p) = true then (if eL B (tS B p) - tS B p ≤ 8 then 1 else 4)
  else if bD B (tS B p) = true then (if eD B (tS B p) - tS B p ≤ 4 ∧ bL B (eD B (tS B p)) = false then 2 else 4)
  else if B.1 (tS B p) % 256 ∈ ax_sgL then 3 else 4
def tV (B : Tp) (p : Nat) : Int :=
  if bL B (tS B p) = true then wv B (tS B p) (eL B (tS B p) - tS B p)
  else if bD B (tS B p) = true then nv B (tS B p) (eD B (tS B p) - tS B p) else B.1 (tS B p) % 256
def tN (B : Tp) (p : Nat) : Nat :=
  if B.2 ≤ tS B p then tS B p else if bL B (tS B p) = true then eL B (tS B p) else if bD B (tS B p) = true then eD B (tS B p) else tS B p + 1
theorem tS_R {B : Tp} {p : Nat} (hB : B.2 ≤ 1600) (hp : p ≤ B.2) : p ≤ tS B p ∧ tS B p ≤ B.2 := ⟨(run_ok bW_lt 1601 p (by omega)).1, run_le bW_lt (by omega) hp⟩
theorem eL_R {B : Tp} {q : Nat} (hB : B.2 ≤ 1600) (hq : bL B q = true) : q < eL B q ∧ eL B q ≤ B.2 := by
  have h0 := run_ok (P := bL B) bL_lt 1601 q (by omega)
  refine ⟨?_, run_le bL_lt (by omega) (Nat.le_of_lt (bL_lt q hq))⟩
  rcases Nat.lt_or_ge q (eL B q) with z | z
  · exact z
  · have e : run (bL B) 1601 q = q := Nat.le_antisymm z h0.1
    have := h0.2.2
    rw [e, hq] at this; cases this
theorem eD_R {B : Tp} {q : Nat} (hB : B.2 ≤ 1600) (hq : bD B q = true) : q < eD B q ∧ eD B q ≤ B.2 := by
  have h0 := run_ok (P := bD B) bD_lt 1601 q (by omega)
  refine ⟨?_, run_le bD_lt (by omega) (Nat.le_of_lt (bD_lt q hq))⟩
  rcases Nat.lt_or_ge q (eD B q) with z | z
  · exact z
  · have e : run (bD B) 1601 q = q := Nat.le_antisymm z h0.1
    have := h0.2.2
    rw [e, hq] at this; cases this
theorem tN_R {B : Tp} {p : Nat} (hB : B.2 ≤ 1600) (hp : p ≤ B.2) : tS B p ≤ tN B p ∧ tN B p ≤ B.2 ∧ (¬ tK B p = 0 → p < tN B p) := by
  have h := tS_R hB hp
  unfold tN tK
  by_cases h1 : B.2 ≤ tS B p
  · rw [if_pos h1, if_pos h1]; exact ⟨Nat.le_refl _, h.2, fun z => absurd rfl z⟩
  · rw [if_neg h1, if_neg h1]
    by_cases h2 : bL B (tS B p) = true
    · rw [if_pos h2]; have := eL_R hB h2; exact ⟨by omega, this.2, fun _ => by omega⟩
    · rw [if_neg h2]
      by_cases h3 : bD B (tS B p) = true
      · rw [if_pos h3]; have := eD_R hB h3; exact ⟨by omega, this.2, fun _ => by omega⟩
      · rw [if_neg h3]; exact ⟨by omega, by omega, fun _ => by omega⟩
theorem tK_le (B : Tp) (p : Nat) : tK B p ≤ 4 := by
  unfold tK
  repeat' split
  all_goals omega
/-- a number is what four digits can be -/
theorem nv_R {B : Tp} {q : Nat} : ∀ j, j ≤ 4 → (∀ i, i < j → bD B (q + i) = true) → 0 ≤ nv B q j ∧ nv B q j < 10 ^ j := by
  intro j
  induction j with
  | zero => intro _ _; exact ⟨Int.le_refl 0, by show (0 : Int) < 1; omega⟩
  | succ j ih =>
    intro hj h
    have ih := ih (by omega) (fun i hi => h i (by omega))
    have hd := bD_t.mp (h j (by omega))
    have h4 : (10 : Int) ^ j ≤ 1000 := by
      rcases (show j = 0 ∨ j = 1 ∨ j = 2 ∨ j = 3 by omega) with rfl | rfl | rfl | rfl <;> decide
    have e : nv B q (j + 1) = nv B q j * 10 + B.1 (q + j) - 48 := by
      show wr (wr (wr (nv B q j * 10) + B.1 (q + j)) - 48) = _
      rw [wr_id (x := nv B q j * 10) (by omega) (by omega), wr_id (x := nv B q j * 10 + B.1 (q + j)) (by omega) (by omega), wr_id (by omega) (by omega)]
    rw [e, Int.pow_succ]
    omega
theorem tV_num {B : Tp} {p : Nat} (hB : B.2 ≤ 1600) (h : tK B p = 2) : 0 ≤ tV B p ∧ tV B p ≤ 9999 := by
  unfold tK at h
  unfold tV
  split at h
  · cases h
  · split at h
    · split at h <;> cases h
    · rename_i h2
      split at h
      · rename_i h3
        split at h
        · rename_i h4
          rw [if_neg h2, if_pos h3]
          have h0 := run_ok (P := bD B) bD_lt 1601 (tS B p) (by omega)
          have := nv_R (B := B) (q := tS B p) (eD B (tS B p) - tS B p) h4.1 (fun i hi => h0.2.1 _ (by omega) (by show _ < eD B (tS B p); omega))
          have h5 : (10 : Int) ^ (eD B (tS B p) - tS B p) ≤ 10000 := by
            have : ∀ n : Nat, n ≤ 4 → (10 : Int) ^ n ≤ 10000 := by decide
            exact this _ h4.1
          omega
        · cases h
      · split at h <;> cases h
-- THE SIGNS: String.indexOf
def Js_coder_pre (_ : Nat) (_ : Hp) : Prop := True
def Js_coder_post (_ : Nat) (σ : Hp) (r : Int) (σ' : Hp) : Prop := σ' = σ ∧ r = 0
def Js_coder_bk : List (Nat × List Item) := [(0, [(.getstatic 38, 3, [1], []), (.ifCond .eq 10, 3, [13], []), (.aload_n 0, 1, [], []), (.getfield 15, 3, [0], []), (.goto 4, 3, [14], [])]),
  (13, [(.iconst 1, 1, [], [])]),
  (14, [(.ireturn, 1, [], [])])]
def Js_coder_cl : List (Instr × Nat) := []
set_option maxRecDepth 20000 in
theorem Js_coder_ck : Js_coder_bk.all (fun b => ax_chB 14 1 cJ0_coder_7d493 Js_coder_cl b.1 b.2) = true := by decide +kernel
def Js_coder_cs : Ct := (1, 100, 4, (0, 0), fun as σ => (match as with
    | [.inr (.inr (.inl (k, 9, 0)))] => Js_coder_pre k σ
    | _ => False), fun as σ r σ' => (match as with
    | [.inr (.inr (.inl (k, 9, 0)))] => Js_coder_post k σ r σ'
    | _ => False))
theorem Js_coder_w : ∀ w ∈ ([.instanceMethod yJ0_coder_7d493, .selects yJ0_coder_7d493.cls yJ0_coder_7d493 yJ0_coder_7d493, .initialized yJ0_coder_7d493.cls, .code yJ0_coder_7d493 cJ0_coder_7d493 1 (some .byte)] : List Cond), w ∈ ax_tb := ax_w4 (ax_m2 206 (by decide +kernel) rfl) (ax_m2 207 (by decide +kernel) rfl) (ax_m1 11 (by decide +kernel) rfl) (ax_m2 208 (by decide +kernel) rfl)
theorem Js_coder_ds : yJ0_coder_7d493.cls ≠ "java/lang/invoke/MethodHandle" ∧ yJ0_coder_7d493.cls ≠ "java/lang/invoke/VarHandle" ∧ (parseMethodDescriptor yJ0_coder_7d493.desc).map (fun d => d.parameters.length) = some 0 := by decide +kernel
def Js_coder_vc : Prop := ∀ (k : Nat) (σ : Hp), ax_H σ → Js_coder_pre k σ →
  ((1 : Int) = (0 : Int) →
    (-128 ≤ (1 : Int) ∧ (1 : Int) ≤ 127) ∧ Js_coder_post k σ 1 σ) ∧
  (¬ ((1 : Int) = (0 : Int)) →
    (-128 ≤ (0 : Int) ∧ (0 : Int) ≤ 127) ∧ Js_coder_post k σ 0 σ)
theorem Js_coder_p : Js_coder_vc := by
  intro k σ hH hp
  exact ⟨fun h => absurd h (by decide), fun _ => ⟨⟨by decide, by decide⟩, rfl, rfl⟩⟩
def Js_coder_I : List AV → Hp → Nat → Nat → List AV → List AV → Hp → Prop := fun as σ0 pc n st ls σ => (match as with
    | [.inr (.inr (.inl (k, 9, 0)))] => False
    | _ => False)
def Js_coder_ct : Nat → Ct := fun n => match n with
  | _ => Js_coder_cs
set_option maxRecDepth 20000 in
set_option maxHeartbeats 4000000 in
theorem Js_coder_met {l : Launch} {D : va_G} {ad : Nat → Nat} {ca : Nat → ClassId} {L : Nat} {fx : Nat → Int} : ax_MC l D ad ca L fx yJ0_coder_7d493 cJ0_coder_7d493 1 (some .byte) 1 Js_coder_cs := by
  refine ax_met (oc := 14) (ct := Js_coder_ct) (calls := Js_coder_cl) (bs := Js_coder_bk) (cut := fun pc => false) (f := 4) (I := Js_coder_I) (by decide) rfl rfl Js_coder_ck (fun _ h => absurd h List.not_mem_nil) ?_ ?_
  · intro as σ0 hp hH
    match as, hp with
    | [.inr (.inr (.inl (k, 9, 0)))], hp => exact ⟨rfl, Js_coder_p k σ0 hH hp⟩
  · intro as σ0 hp n pc st ls σ hH hI
    match as, hp, hI with
    | [.inr (.inr (.inl (k, 9, 0)))], hp, hI => exact False.elim hI
def Js_isLatin1_pre (_ : Nat) (_ : Hp) : Prop := True
def Js_isLatin1_post (_ : Nat) (σ : Hp) (r : Int) (σ' : Hp) : Prop := σ' = σ ∧ r = 1
def Js_isLatin1_bk : List (Nat × List Item) := [(0, [(.getstatic 38, 3, [1], []), (.ifCond .eq 14, 3, [17], []), (.aload_n 0, 1, [], []), (.getfield 15, 3, [0], []), (.ifCond .ne 7, 3, [17], []), (.iconst 1, 1, [], []), (.goto 4, 3, [18], [])]),
  (17, [(.iconst 0, 1, [], [])]),
  (18, [(.ireturn, 1, [], [])])]
def Js_isLatin1_cl : List (Instr × Nat) := []
set_option maxRecDepth 20000 in
theorem Js_isLatin1_ck : Js_isLatin1_bk.all (fun b => ax_chB 14 1 cJ0_isLatin1_aae02 Js_isLatin1_cl b.1 b.2) = true := by decide +kernel
def Js_isLatin1_cs : Ct := (1, 100, 2, (0, 0), fun as σ => (match as with
    | [.inr (.inr (.inl (k, 9, 0)))] => Js_isLatin1_pre k σ
    | _ => False), fun as σ r σ' => (match as with
    | [.inr (.inr (.inl (k, 9, 0)))] => Js_isLatin1_post k σ r σ'
    | _ => False))
theorem Js_isLatin1_w : ∀ w ∈ ([.instanceMethod yJ0_isLatin1_aae02, .selects yJ0_isLatin1_aae02.cls yJ0_isLatin1_aae02 yJ0_isLatin1_aae02, .initialized yJ0_isLatin1_aae02.cls, .code yJ0_isLatin1_aae02 cJ0_isLatin1_aae02 1 (some .boolean)] : List Cond), w ∈ ax_tb := ax_w4 (ax_m2 196 (by decide +kernel) rfl) (ax_m2 197 (by decide +kernel) rfl) (ax_m1 11 (by decide +kernel) rfl) (ax_m2 198 (by decide +kernel) rfl)
theorem Js_isLatin1_ds : yJ0_isLatin1_aae02.cls ≠ "java/lang/invoke/MethodHandle" ∧ yJ0_isLatin1_aae02.cls ≠ "java/lang/invoke/VarHandle" ∧ (parseMethodDescriptor yJ0_isLatin1_aae02.desc).map (fun d => d.parameters.length) = some 0 := by decide +kernel
def Js_isLatin1_vc : Prop := ∀ (k : Nat) (σ : Hp), ax_H σ → Js_isLatin1_pre k σ →
  ((1 : Int) = (0 : Int) →
    ((0 : Int) = 0 ∨ (0 : Int) = 1) ∧ Js_isLatin1_post k σ 0 σ) ∧
  (¬ ((1 : Int) = (0 : Int)) →
    (¬ (0 : Int) = (0 : Int) →
      ((0 : Int) = 0 ∨ (0 : Int) = 1) ∧ Js_isLatin1_post k σ 0 σ) ∧
    (¬ (¬ (0 : Int) = (0 : Int)) →
      ((1 : Int) = 0 ∨ (1 : Int) = 1) ∧ Js_isLatin1_post k σ 1 σ))
theorem Js_isLatin1_p : Js_isLatin1_vc := by
  intro k σ hH hp
  exact ⟨fun h => absurd h (by decide), fun _ => ⟨fun h => absurd rfl h, fun _ => ⟨Or.inr rfl, rfl, rfl⟩⟩⟩
def Js_isLatin1_I : List AV → Hp → Nat → Nat → List AV → List AV → Hp → Prop := fun as σ0 pc n st ls σ => (match as with
    | [.inr (.inr (.inl (k, 9, 0)))] => False
    | _ => False)
def Js_isLatin1_ct : Nat → Ct := fun n => match n with
  | _ => Js_isLatin1_cs
set_option maxRecDepth 20000 in
set_option maxHeartbeats 4000000 in
theorem Js_isLatin1_met {l : Launch} {D : va_G} {ad : Nat → Nat} {ca : Nat → ClassId} {L : Nat} {fx : Nat → Int} : ax_MC l D ad ca L fx yJ0_isLatin1_aae02 cJ0_isLatin1_aae02 1 (some .boolean) 1 Js_isLatin1_cs := by
  refine ax_met (oc := 14) (ct := Js_isLatin1_ct) (calls := Js_isLatin1_cl) (bs := Js_isLatin1_bk) (cut := fun pc => false) (f := 4) (I := Js_isLatin1_I) (by decide) rfl rfl Js_isLatin1_ck (fun _ h => absurd h List.not_mem_nil) ?_ ?_
  · intro as σ0 hp hH
    match as, hp with
    | [.inr (.inr (.inl (k, 9, 0)))], hp => exact ⟨rfl, Js_isLatin1_p k σ0 hH hp⟩
  · intro as σ0 hp n pc st ls σ hH hI
    match as, hp, hI with
    | [.inr (.inr (.inl (k, 9, 0)))], hp, hI => exact False.elim hI
def Js_length_pre (_ : Nat) (_ : Hp) : Prop := True
def Js_length_post (_ : Nat) (σ : Hp) (r : Int) (σ' : Hp) : Prop := σ' = σ ∧ r = 11
def Js_length_bk : List (Nat × List Item) := [(0, [(.aload_n 0, 1, [], []), (.getfield 9, 3, [1], []), (.arraylength, 1, [], []), (.aload_n 0, 1, [], []), (.invokevirtual 335, 3, [0], []), (.ishr, 1, [], []), (.ireturn, 1, [], [])])]
def Js_length_cl : List (Instr × Nat) := [(.invokevirtual 335, 0)]
set_option maxRecDepth 20000 in
theorem Js_length_ck : Js_length_bk.all (fun b => ax_chB 14 1 cJ0_length_8abf5 Js_length_cl b.1 b.2) = true := by decide +kernel
def Js_length_cs : Ct := (1, 100, 1, (0, 0), fun as σ => (match as with
    | [.inr (.inr (.inl (k, 9, 0)))] => Js_length_pre k σ
    | _ => False), fun as σ r σ' => (match as with
    | [.inr (.inr (.inl (k, 9, 0)))] => Js_length_post k σ r σ'
    | _ => False))
theorem Js_length_w : ∀ w ∈ ([.instanceMethod yJ0_length_8abf5, .selects yJ0_length_8abf5.cls yJ0_length_8abf5 yJ0_length_8abf5, .initialized yJ0_length_8abf5.cls, .code yJ0_length_8abf5 cJ0_length_8abf5 1 (some .int)] : List Cond), w ∈ ax_tb := ax_w4 (ax_m2 202 (by decide +kernel) rfl) (ax_m2 203 (by decide +kernel) rfl) (ax_m1 11 (by decide +kernel) rfl) (ax_m2 204 (by decide +kernel) rfl)
theorem Js_length_ds : yJ0_length_8abf5.cls ≠ "java/lang/invoke/MethodHandle" ∧ yJ0_length_8abf5.cls ≠ "java/lang/invoke/VarHandle" ∧ (parseMethodDescriptor yJ0_length_8abf5.desc).map (fun d => d.parameters.length) = some 0 := by decide +kernel
def Js_length_vc : Prop := ∀ (k : Nat) (σ : Hp), ax_H σ → Js_length_pre k σ →
  Js_coder_pre k σ ∧
  ∀ (r2 : Int) (σ1 : Hp), Js_coder_post k σ r2 σ1 →
  Js_length_post k σ (iShr 11 r2) σ1
theorem Js_length_p : Js_length_vc := by
  intro k σ hH hp
  refine ⟨trivial, ?_⟩
  rintro r σ1 ⟨rfl, rfl⟩
  exact ⟨rfl, by decide +kernel⟩
def Js_length_I : List AV → Hp → Nat → Nat → List AV → List AV → Hp → Prop := fun as σ0 pc n st ls σ => (match as with
    | [.inr (.inr (.inl (k, 9, 0)))] => False
    | _ => False)
def Js_length_ct : Nat → Ct := fun n => match n with
  | 0 => Js_coder_cs
  | _ => Js_length_cs
set_option maxRecDepth 20000 in
set_option maxHeartbeats 4000000 in
theorem Js_length_met {l : Launch} {D : va_G} {ad : Nat → Nat} {ca : Nat → ClassId} {L : Nat} {fx : Nat → Int} : ax_MC l D ad ca L fx yJ0_length_8abf5 cJ0_length_8abf5 1 (some .int) 2 Js_length_cs := by
  refine ax_met (oc := 14) (ct := Js_length_ct) (calls := Js_length_cl) (bs := Js_length_bk) (cut := fun pc => false) (f := 2) (I := Js_length_I) (by decide) rfl rfl Js_length_ck (List.forall_mem_cons.mpr ⟨ax_cwT Js_coder_met (by decide) (by decide) rfl rfl (ax_m2 205 (by decide +kernel) rfl) Js_coder_w rfl Js_coder_ds, fun _ h => absurd h List.not_mem_nil⟩) ?_ ?_
  · intro as σ0 hp hH
    match as, hp with
    | [.inr (.inr (.inl (k, 9, 0)))], hp => exact ⟨rfl, Js_length_p k σ0 hH hp⟩
  · intro as σ0 hp n pc st ls σ hH hI
    match as, hp, hI with
    | [.inr (.inr (.inl (k, 9, 0)))], hp, hI => exact False.elim hI
def Jl_canEncode_pre (_ : Int) (_ : Hp) : Prop := True
def Jl_canEncode_post (a : Int) (σ : Hp) (r : Int) (σ' : Hp) : Prop := σ' = σ ∧ r = if 0 ≤ a ∧ a ≤ 255 then 1 else 0
def Jl_canEncode_bk : List (Nat × List Item) := [(0, [(.iload_n 0, 1, [], []), (.ifCond .lt 14, 3, [15], []), (.iload_n 0, 1, [], []), (.sipush 255, 3, [], []), (.if_icmp .gt 7, 3, [15], []), (.iconst 1, 1, [], []), (.goto 4, 3, [16], [])]),
  (15, [(.iconst 0, 1, [], [])]),
  (16, [(.ireturn, 1, [], [])])]
def Jl_canEncode_cl : List (Instr × Nat) := []
set_option maxRecDepth 20000 in
theorem Jl_canEncode_ck : Jl_canEncode_bk.all (fun b => ax_chB 15 1 cJ1_canEncode_9a6ad Jl_canEncode_cl b.1 b.2) = true := by decide +kernel
def Jl_canEncode_cs : Ct := (1, 0, 2, (0, 0), fun as σ => (match as with
    | [.inl a1] => Jl_canEncode_pre a1 σ
    | _ => False), fun as σ r σ' => (match as with
    | [.inl a1] => Jl_canEncode_post a1 σ r σ'
    | _ => False))
theorem Jl_canEncode_w : ∀ w ∈ ([.static yJ1_canEncode_9a6ad, .initialized yJ1_canEncode_9a6ad.cls, .code yJ1_canEncode_9a6ad cJ1_canEncode_9a6ad 1 (some .boolean)] : List Cond), w ∈ ax_tb := ax_w3 (ax_m2 213 (by decide +kernel) rfl) (ax_m1 12 (by decide +kernel) rfl) (ax_m2 214 (by decide +kernel) rfl)
theorem Jl_canEncode_ds : yJ1_canEncode_9a6ad.cls ≠ "java/lang/invoke/MethodHandle" ∧ yJ1_canEncode_9a6ad.cls ≠ "java/lang/invoke/VarHandle" ∧ (parseMethodDescriptor yJ1_canEncode_9a6ad.desc).map (fun d => d.parameters.length) = some 1 := by decide +kernel
def Jl_canEncode_vc : Prop := ∀ (a1 : Int) (σ : Hp), ax_H σ → Jl_canEncode_pre a1 σ →
  (a1 < 0 →
    ((0 : Int) = 0 ∨ (0 : Int) = 1) ∧ Jl_canEncode_post a1 σ 0 σ) ∧
  (¬ (a1 < 0) →
    (255 < a1 →
      ((0 : Int) = 0 ∨ (0 : Int) = 1) ∧ Jl_canEncode_post a1 σ 0 σ) ∧
    (¬ (255 < a1) →
      ((1 : Int) = 0 ∨ (1 : Int) = 1) ∧ Jl_canEncode_post a1 σ 1 σ))
theorem Jl_canEncode_p : Jl_canEncode_vc := by
  intro a σ hH hp
  exact ⟨fun h => ⟨Or.inl rfl, rfl, by rw [if_neg (by omega)]⟩, fun h => ⟨fun h2 => ⟨Or.inl rfl, rfl, by rw [if_neg (by omega)]⟩, fun h2 => ⟨Or.inr rfl, rfl, by rw [if_pos (by omega)]⟩⟩⟩
def Jl_canEncode_I : List AV → Hp → Nat → Nat → List AV → List AV → Hp → Prop := fun as σ0 pc n st ls σ => (match as with
    | [.inl a1] => False
    | _ => False)
def Jl_canEncode_ct : Nat → Ct := fun n => match n with
  | _ => Jl_canEncode_cs
set_option maxRecDepth 20000 in
set_option maxHeartbeats 4000000 in
theorem Jl_canEncode_met {l : Launch} {D : va_G} {ad : Nat → Nat} {ca : Nat → ClassId} {L : Nat} {fx : Nat → Int} : ax_MC l D ad ca L fx yJ1_canEncode_9a6ad cJ1_canEncode_9a6ad 1 (some .boolean) 1 Jl_canEncode_cs := by
  refine ax_met (oc := 15) (ct := Jl_canEncode_ct) (calls := Jl_canEncode_cl) (bs := Jl_canEncode_bk) (cut := fun pc => false) (f := 4) (I := Jl_canEncode_I) (by decide) rfl rfl Jl_canEncode_ck (fun _ h => absurd h List.not_mem_nil) ?_ ?_
  · intro as σ0 hp hH
    match as, hp with
    | [.inl a1], hp => exact ⟨rfl, Jl_canEncode_p a1 σ0 hH hp⟩
  · intro as σ0 hp n pc st ls σ hH hI
    match as, hp, hI with
    | [.inl a1], hp, hI => exact False.elim hI
def Jl_indexOfChar_pre (_q n : Nat) (a b c : Int) (_σ : Hp) : Prop := n = 11 ∧ 0 ≤ a ∧ a ≤ 255 ∧ b = 0 ∧ c = 11
def Jl_indexOfChar_post (_q _n : Nat) (a _b _c : Int) (σ : Hp) (r : Int) (σ' : Hp) : Prop := σ' = σ ∧ (0 ≤ r ↔ ∃ i, i < 11 ∧ ax_sg i = iByte a)
def Jl_indexOfChar_I7 (_q _n : Nat) (a _b _c : Int) (σ0 : Hp) (m : Nat) (v4 v5 : Int) (σ : Hp) : Prop := ∃ i : Nat, v5 = i ∧ i ≤ 11 ∧ m = 11 - i ∧ σ = σ0 ∧ v4 = iByte a ∧ ∀ j, j < i → ¬ ax_sg j = iByte a
def Jl_indexOfChar_bk : List (Nat × List Item) := [(0, [(.iload_n 1, 1, [], []), (.i2b, 1, [], []), (.istore 4, 2, [], []), (.iload_n 2, 1, [], []), (.istore 5, 2, [], [])]),
  (7, [(.iload 5, 2, [], []), (.iload_n 3, 1, [], []), (.if_icmp .ge 21, 3, [31], []), (.aload_n 0, 1, [], []), (.iload 5, 2, [], []), (.baload, 1, [], []), (.iload 4, 2, [], []), (.if_icmp .ne 6, 3, [25], []), (.iload 5, 2, [], []), (.ireturn, 1, [], [])]),
  (25, [(.iinc 5 1, 3, [], []), (.goto (-21), 3, [7], [])]),
  (31, [(.iconst (-1), 1, [], []), (.ireturn, 1, [], [])])]
def Jl_indexOfChar_cl : List (Instr × Nat) := []
set_option maxRecDepth 20000 in
theorem Jl_indexOfChar_ck : Jl_indexOfChar_bk.all (fun b => ax_chB 15 6 cJ1_indexOfChar_4cfef Jl_indexOfChar_cl b.1 b.2) = true := by decide +kernel
def Jl_indexOfChar_cs : Ct := (4, 0, 1, (0, 0), fun as σ => (match as with
    | [.inr (.inr (.inl (q1, 6, n1))), .inl a2, .inl a3, .inl a4] => Jl_indexOfChar_pre q1 n1 a2 a3 a4 σ
    | _ => False), fun as σ r σ' => (match as with
    | [.inr (.inr (.inl (q1, 6, n1))), .inl a2, .inl a3, .inl a4] => Jl_indexOfChar_post q1 n1 a2 a3 a4 σ r σ'
    | _ => False))
theorem Jl_indexOfChar_w : ∀ w ∈ ([.static yJ1_indexOfChar_4cfef, .initialized yJ1_indexOfChar_4cfef.cls, .code yJ1_indexOfChar_4cfef cJ1_indexOfChar_4cfef 6 (some .int)] : List Cond), w ∈ ax_tb := ax_w3 (ax_m2 222 (by decide +kernel) rfl) (ax_m1 12 (by decide +kernel) rfl) (ax_m2 223 (by decide +kernel) rfl)
theorem Jl_indexOfChar_ds : yJ1_indexOfChar_4cfef.cls ≠ "java/lang/invoke/MethodHandle" ∧ yJ1_indexOfChar_4cfef.cls ≠ "java/lang/invoke/VarHandle" ∧ (parseMethodDescriptor yJ1_indexOfChar_4cfef.desc).map (fun d => d.parameters.length) = some 4 := by decide +kernel
def Jl_indexOfChar_vc : Prop := ∀ (q1 : Nat) (n1 : Nat) (a2 : Int) (a3 : Int) (a4 : Int) (σ : Hp), ax_H σ → Jl_indexOfChar_pre q1 n1 a2 a3 a4 σ →
  ∃ n' : Nat, n1 = n1 ∧ q1 = q1 ∧ a2 = a2 ∧ a3 = a3 ∧ a4 = a4 ∧ Jl_indexOfChar_I7 q1 n1 a2 a3 a4 σ n' (iByte a2) a3 σ
def Jl_indexOfChar_vc7 : Prop := ∀ (q1 : Nat) (n1 : Nat) (a2 : Int) (a3 : Int) (a4 : Int) (σ0 : Hp), Jl_indexOfChar_pre q1 n1 a2 a3 a4 σ0 → ∀ (n : Nat) (v4 : Int) (v5 : Int) (σ : Hp), ax_H σ → Jl_indexOfChar_I7 q1 n1 a2 a3 a4 σ0 n v4 v5 σ →
  (a4 ≤ v5 →
    Jl_indexOfChar_post q1 n1 a2 a3 a4 σ0 (-1) σ) ∧
  (¬ (a4 ≤ v5) →
    (0 ≤ v5 ∧ v5 < (n1 : Int)) ∧
    (¬ ax_sg v5.toNat = v4 →
      ∃ n' : Nat, n' < n ∧ n1 = n1 ∧ q1 = q1 ∧ a2 = a2 ∧ a3 = a3 ∧ a4 = a4 ∧ Jl_indexOfChar_I7 q1 n1 a2 a3 a4 σ0 n' v4 (wr (v5 + 1)) σ) ∧
    (¬ (¬ ax_sg v5.toNat = v4) →
      Jl_indexOfChar_post q1 n1 a2 a3 a4 σ0 v5 σ))
theorem Jl_indexOfChar_p : Jl_indexOfChar_vc := by
  intro q n a b c σ hH hp
  obtain ⟨rfl, a0, a1, rfl, rfl⟩ := hp
  exact ⟨11, rfl, rfl, rfl, rfl, rfl, 0, rfl, by omega, rfl, rfl, rfl, fun j hj => absurd hj (Nat.not_lt_zero j)⟩
theorem Jl_indexOfChar_p7 : Jl_indexOfChar_vc7 := by
  intro q n a b c σ0 hp m v4 v5 σ hH hI
  obtain ⟨rfl, a0, a1, rfl, rfl⟩ := hp
  obtain ⟨i, rfl, hi, rfl, rfl, rfl, hr⟩ := hI
  rw [Int.toNat_natCast, wr1 (by omega) (by omega)]
  refine ⟨fun h => ⟨rfl, fun z => absurd z (by decide), fun ⟨j, j1, j2⟩ => absurd j2 (hr j (by omega))⟩, fun h => ⟨⟨by omega, by omega⟩, fun h2 => ⟨11 - (i + 1), by omega, rfl, rfl, rfl, rfl, rfl, i + 1, by simp, by omega, rfl, rfl, rfl, fun j hj => ?_⟩, fun h2 => ⟨rfl, fun _ => ⟨i, by omega, Classical.not_not.mp h2⟩, fun _ => by omega⟩⟩⟩
  by_cases e : j = i
  · rw [e]; exact h2
  · exact hr j (by omega)
def Jl_indexOfChar_I : List AV → Hp → Nat → Nat → List AV → List AV → Hp → Prop := fun as σ0 pc n st ls σ => (match as with
    | [.inr (.inr (.inl (q1, 6, n1))), .inl a2, .inl a3, .inl a4] => (bif Nat.beq pc 7 then (match st, ls with
      | [], [.inr (.inr (.inl (q1', 6, n1'))), .inl a2', .inl a3', .inl a4', .inl v4, .inl v5] => n1 = n1' ∧ q1 = q1' ∧ a2 = a2' ∧ a3 = a3' ∧ a4 = a4' ∧ Jl_indexOfChar_I7 q1 n1 a2 a3 a4 σ0 n v4 v5 σ
      | _, _ => False) else False)
    | _ => False)
def Jl_indexOfChar_ct : Nat → Ct := fun n => match n with
  | _ => Jl_indexOfChar_cs
set_option maxRecDepth 20000 in
set_option maxHeartbeats 4000000 in
theorem Jl_indexOfChar_met {l : Launch} {D : va_G} {ad : Nat → Nat} {ca : Nat → ClassId} {L : Nat} {fx : Nat → Int} : ax_MC l D ad ca L fx yJ1_indexOfChar_4cfef cJ1_indexOfChar_4cfef 6 (some .int) 1 Jl_indexOfChar_cs := by
  refine ax_met (oc := 15) (ct := Jl_indexOfChar_ct) (calls := Jl_indexOfChar_cl) (bs := Jl_indexOfChar_bk) (cut := fun pc => Nat.beq pc 7) (f := 5) (I := Jl_indexOfChar_I) (by decide) rfl rfl Jl_indexOfChar_ck (fun _ h => absurd h List.not_mem_nil) ?_ ?_
  · intro as σ0 hp hH
    match as, hp with
    | [.inr (.inr (.inl (q1, 6, n1))), .inl a2, .inl a3, .inl a4], hp => exact ⟨rfl, Jl_indexOfChar_p q1 n1 a2 a3 a4 σ0 hH hp⟩
  · intro as σ0 hp n pc st ls σ hH hI
    match as, hp, hI with
    | [.inr (.inr (.inl (q1, 6, n1))), .inl a2, .inl a3, .inl a4], hp, hI =>
      rcases ax_bifE hI with ⟨hpc, hI⟩ | ⟨-, hI⟩
      · have := Nat.eq_of_beq_eq_true hpc
        subst this
        match st, ls, hI with
        | [], [.inr (.inr (.inl (q1', 6, n1'))), .inl a2', .inl a3', .inl a4', .inl v4, .inl v5], hI =>
          obtain ⟨rfl, rfl, rfl, rfl, rfl, hI⟩ := hI
          exact Jl_indexOfChar_p7 q1 n1 a2 a3 a4 σ0 hp n v4 v5 σ hH hI
      exact False.elim hI
def Jl_indexOf_pre (_q n : Nat) (a b c : Int) (_σ : Hp) : Prop := n = 11 ∧ 0 ≤ a ∧ a ≤ 255 ∧ b = 0 ∧ c = 11
def Jl_indexOf_post (_q _n : Nat) (a _b _c : Int) (σ : Hp) (r : Int) (σ' : Hp) : Prop := σ' = σ ∧ (0 ≤ r ↔ ∃ i, i < 11 ∧ ax_sg i = iByte a)
def Jl_indexOf_bk : List (Nat × List Item) := [(0, [(.iload_n 1, 1, [], []), (.invokestatic 88, 3, [0], []), (.ifCond .ne 5, 3, [9], []), (.iconst (-1), 1, [], []), (.ireturn, 1, [], [])]),
  (9, [(.iload_n 2, 1, [], []), (.iconst 0, 1, [], []), (.invokestatic 92, 3, [1], []), (.istore_n 2, 1, [], []), (.iload_n 3, 1, [], []), (.aload_n 0, 1, [], []), (.arraylength, 1, [], []), (.invokestatic 38, 3, [2], []), (.istore_n 3, 1, [], []), (.iload_n 2, 1, [], []), (.iload_n 3, 1, [], []), (.if_icmp .lt 5, 3, [29], []), (.iconst (-1), 1, [], []), (.ireturn, 1, [], [])]),
  (29, [(.aload_n 0, 1, [], []), (.iload_n 1, 1, [], []), (.iload_n 2, 1, [], []), (.iload_n 3, 1, [], []), (.invokestatic 95, 3, [3], []), (.ireturn, 1, [], [])])]
def Jl_indexOf_cl : List (Instr × Nat) := [(.invokestatic 88, 0), (.invokestatic 92, 1), (.invokestatic 38, 2), (.invokestatic 95, 3)]
set_option maxRecDepth 20000 in
theorem Jl_indexOf_ck : Jl_indexOf_bk.all (fun b => ax_chB 15 4 cJ1_indexOf_4cfef Jl_indexOf_cl b.1 b.2) = true := by decide +kernel
def Jl_indexOf_cs : Ct := (4, 0, 1, (0, 0), fun as σ => (match as with
    | [.inr (.inr (.inl (q1, 6, n1))), .inl a2, .inl a3, .inl a4] => Jl_indexOf_pre q1 n1 a2 a3 a4 σ
    | _ => False), fun as σ r σ' => (match as with
    | [.inr (.inr (.inl (q1, 6, n1))), .inl a2, .inl a3, .inl a4] => Jl_indexOf_post q1 n1 a2 a3 a4 σ r σ'
    | _ => False))
theorem Jl_indexOf_w : ∀ w ∈ ([.static yJ1_indexOf_4cfef, .initialized yJ1_indexOf_4cfef.cls, .code yJ1_indexOf_4cfef cJ1_indexOf_4cfef 4 (some .int)] : List Cond), w ∈ ax_tb := ax_w3 (ax_m2 210 (by decide +kernel) rfl) (ax_m1 12 (by decide +kernel) rfl) (ax_m2 211 (by decide +kernel) rfl)
theorem Jl_indexOf_ds : yJ1_indexOf_4cfef.cls ≠ "java/lang/invoke/MethodHandle" ∧ yJ1_indexOf_4cfef.cls ≠ "java/lang/invoke/VarHandle" ∧ (parseMethodDescriptor yJ1_indexOf_4cfef.desc).map (fun d => d.parameters.length) = some 4 := by decide +kernel
def Jl_indexOf_vc : Prop := ∀ (q1 : Nat) (n1 : Nat) (a2 : Int) (a3 : Int) (a4 : Int) (σ : Hp), ax_H σ → Jl_indexOf_pre q1 n1 a2 a3 a4 σ →
  Jl_canEncode_pre a2 σ ∧
  ∀ (r2 : Int) (σ1 : Hp), Jl_canEncode_post a2 σ r2 σ1 →
  (¬ r2 = 0 →
    Jm_max_pre a3 0 σ1 ∧
    ∀ (r4 : Int) (σ3 : Hp), Jm_max_post a3 0 σ1 r4 σ3 →
    Jm_min_pre a4 (n1 : Int) σ3 ∧
    ∀ (r6 : Int) (σ5 : Hp), Jm_min_post a4 (n1 : Int) σ3 r6 σ5 →
    (r4 < r6 →
      Jl_indexOfChar_pre q1 n1 a2 r4 r6 σ5 ∧
      ∀ (r8 : Int) (σ7 : Hp), Jl_indexOfChar_post q1 n1 a2 r4 r6 σ5 r8 σ7 →
      Jl_indexOf_post q1 n1 a2 a3 a4 σ r8 σ7) ∧
    (¬ (r4 < r6) →
      Jl_indexOf_post q1 n1 a2 a3 a4 σ (-1) σ5)) ∧
  (¬ (¬ r2 = 0) →
    Jl_indexOf_post q1 n1 a2 a3 a4 σ (-1) σ1)
theorem Jl_indexOf_p : Jl_indexOf_vc := by
  intro q n a b c σ hH hp
  obtain ⟨rfl, a0, a1, rfl, rfl⟩ := hp
  refine ⟨trivial, ?_⟩
  rintro r σ1 ⟨rfl, rfl⟩
  rw [if_pos ⟨a0, a1⟩]
  refine ⟨fun _ => ⟨trivial, ?_⟩, fun h => absurd (by decide) h⟩
  rintro r σ1 ⟨rfl, rfl⟩
  refine ⟨trivial, ?_⟩
  rintro r σ1 ⟨rfl, rfl⟩
  refine ⟨fun _ => ⟨⟨rfl, a0, a1, rfl, rfl⟩, fun r σ2 h => h⟩, fun h => absurd (by decide) h⟩
def Jl_indexOf_I : List AV → Hp → Nat → Nat → List AV → List AV → Hp → Prop := fun as σ0 pc n st ls σ => (match as with
    | [.inr (.inr (.inl (q1, 6, n1))), .inl a2, .inl a3, .inl a4] => False
    | _ => False)
def Jl_indexOf_ct : Nat → Ct := fun n => match n with
  | 0 => Jl_canEncode_cs
  | 1 => Jm_max_cs
  | 2 => Jm_min_cs
  | 3 => Jl_indexOfChar_cs
  | _ => Jl_indexOf_cs
set_option maxRecDepth 20000 in
set_option maxHeartbeats 4000000 in
theorem Jl_indexOf_met {l : Launch} {D : va_G} {ad : Nat → Nat} {ca : Nat → ClassId} {L : Nat} {fx : Nat → Int} : ax_MC l D ad ca L fx yJ1_indexOf_4cfef cJ1_indexOf_4cfef 4 (some .int) 2 Jl_indexOf_cs := by
  refine ax_met (oc := 15) (ct := Jl_indexOf_ct) (calls := Jl_indexOf_cl) (bs := Jl_indexOf_bk) (cut := fun pc => false) (f := 4) (I := Jl_indexOf_I) (by decide) rfl rfl Jl_indexOf_ck (List.forall_mem_cons.mpr ⟨ax_cwS Jl_canEncode_met (by decide) (by decide) (ax_m2 212 (by decide +kernel) rfl) Jl_canEncode_w rfl Jl_canEncode_ds, List.forall_mem_cons.mpr ⟨ax_cwMax (by decide) (ax_m2 215 (by decide +kernel) rfl), List.forall_mem_cons.mpr ⟨ax_cwMin (by decide) (ax_m2 218 (by decide +kernel) rfl), List.forall_mem_cons.mpr ⟨ax_cwS Jl_indexOfChar_met (by decide) (by decide) (ax_m2 221 (by decide +kernel) rfl) Jl_indexOfChar_w rfl Jl_indexOfChar_ds, fun _ h => absurd h List.not_mem_nil⟩⟩⟩⟩) ?_ ?_
  · intro as σ0 hp hH
    match as, hp with
    | [.inr (.inr (.inl (q1, 6, n1))), .inl a2, .inl a3, .inl a4], hp => exact ⟨rfl, Jl_indexOf_p q1 n1 a2 a3 a4 σ0 hH hp⟩
  · intro as σ0 hp n pc st ls σ hH hI
    match as, hp, hI with
    | [.inr (.inr (.inl (q1, 6, n1))), .inl a2, .inl a3, .inl a4], hp, hI => exact False.elim hI
def Ju_indexOf_pre (_q _n : Nat) (_a _b _c : Int) (_σ : Hp) : Prop := False
def Ju_indexOf_post (_q _n : Nat) (_a _b _c : Int) (_σ : Hp) (_r : Int) (_σ' : Hp) : Prop := False
def Ju_indexOf_cs : Ct := (4, 0, 1, (0, 0), fun as σ => (match as with
    | [.inr (.inr (.inl (q1, 6, n1))), .inl a2, .inl a3, .inl a4] => Ju_indexOf_pre q1 n1 a2 a3 a4 σ
    | _ => False), fun as σ r σ' => (match as with
    | [.inr (.inr (.inl (q1, 6, n1))), .inl a2, .inl a3, .inl a4] => Ju_indexOf_post q1 n1 a2 a3 a4 σ r σ'
    | _ => False))
theorem Ju_indexOf_w : ∀ w ∈ ([.static yJ2_indexOf_4cfef, .initialized yJ2_indexOf_4cfef.cls, .code yJ2_indexOf_4cfef cJ2_indexOf_4cfef 4 (some .int)] : List Cond), w ∈ ax_tb := ax_w3 (ax_m2 225 (by decide +kernel) rfl) (ax_m1 14 (by decide +kernel) rfl) (ax_m2 226 (by decide +kernel) rfl)
theorem Ju_indexOf_ds : yJ2_indexOf_4cfef.cls ≠ "java/lang/invoke/MethodHandle" ∧ yJ2_indexOf_4cfef.cls ≠ "java/lang/invoke/VarHandle" ∧ (parseMethodDescriptor yJ2_indexOf_4cfef.desc).map (fun d => d.parameters.length) = some 4 := by decide +kernel
theorem Ju_indexOf_met {l : Launch} {D : va_G} {ad : Nat → Nat} {ca : Nat → ClassId} {L : Nat} {fx : Nat → Int} : ax_MC l D ad ca L fx yJ2_indexOf_4cfef cJ2_indexOf_4cfef 4 (some .int) 1 Ju_indexOf_cs := by
  intro as σ sz hlen hpre
  have h : Ju_indexOf_cs.2.2.2.2.1 as σ := hpre
  unfold Ju_indexOf_cs at h
  dsimp only at h
  split at h
  · exact False.elim h
  · exact False.elim h
def Js_indexOf2_pre (_k : Nat) (a b : Int) (_σ : Hp) : Prop := 0 ≤ a ∧ a ≤ 255 ∧ b = 0
def Js_indexOf2_post (_k : Nat) (a _b : Int) (σ : Hp) (r : Int) (σ' : Hp) : Prop := σ' = σ ∧ (0 ≤ r ↔ ∃ i, i < 11 ∧ ax_sg i = iByte a)
def Js_indexOf2_bk : List (Nat × List Item) := [(0, [(.aload_n 0, 1, [], []), (.invokevirtual 492, 3, [0], []), (.ifCond .eq 19, 3, [23], []), (.aload_n 0, 1, [], []), (.getfield 9, 3, [1], []), (.iload_n 1, 1, [], []), (.iload_n 2, 1, [], []), (.aload_n 0, 1, [], []), (.invokevirtual 505, 3, [1], []), (.invokestatic 637, 3, [2], []), (.goto 16, 3, [36], [])]),
  (23, [(.aload_n 0, 1, [], []), (.getfield 9, 3, [1], []), (.iload_n 1, 1, [], []), (.iload_n 2, 1, [], []), (.aload_n 0, 1, [], []), (.invokevirtual 505, 3, [1], []), (.invokestatic 640, 3, [3], [])]),
  (36, [(.ireturn, 1, [], [])])]
def Js_indexOf2_cl : List (Instr × Nat) := [(.invokevirtual 492, 0), (.invokevirtual 505, 1), (.invokestatic 637, 2), (.invokestatic 640, 3)]
set_option maxRecDepth 20000 in
theorem Js_indexOf2_ck : Js_indexOf2_bk.all (fun b => ax_chB 14 3 cJ0_indexOf_7cf53 Js_indexOf2_cl b.1 b.2) = true := by decide +kernel
def Js_indexOf2_cs : Ct := (3, 100, 1, (0, 0), fun as σ => (match as with
    | [.inr (.inr (.inl (k, 9, 0))), .inl a1, .inl a2] => Js_indexOf2_pre k a1 a2 σ
    | _ => False), fun as σ r σ' => (match as with
    | [.inr (.inr (.inl (k, 9, 0))), .inl a1, .inl a2] => Js_indexOf2_post k a1 a2 σ r σ'
    | _ => False))
theorem Js_indexOf2_w : ∀ w ∈ ([.instanceMethod yJ0_indexOf_7cf53, .selects yJ0_indexOf_7cf53.cls yJ0_indexOf_7cf53 yJ0_indexOf_7cf53, .initialized yJ0_indexOf_7cf53.cls, .code yJ0_indexOf_7cf53 cJ0_indexOf_7cf53 3 (some .int)] : List Cond), w ∈ ax_tb := ax_w4 (ax_m2 192 (by decide +kernel) rfl) (ax_m2 193 (by decide +kernel) rfl) (ax_m1 11 (by decide +kernel) rfl) (ax_m2 194 (by decide +kernel) rfl)
theorem Js_indexOf2_ds : yJ0_indexOf_7cf53.cls ≠ "java/lang/invoke/MethodHandle" ∧ yJ0_indexOf_7cf53.cls ≠ "java/lang/invoke/VarHandle" ∧ (parseMethodDescriptor yJ0_indexOf_7cf53.desc).map (fun d => d.parameters.length) = some 2 := by decide +kernel
def Js_indexOf2_vc : Prop := ∀ (k : Nat) (a1 : Int) (a2 : Int) (σ : Hp), ax_H σ → Js_indexOf2_pre k a1 a2 σ →
  Js_isLatin1_pre k σ ∧
  ∀ (r2 : Int) (σ1 : Hp), Js_isLatin1_post k σ r2 σ1 →
  (r2 = 0 →
    Js_length_pre k σ1 ∧
    ∀ (r4 : Int) (σ3 : Hp), Js_length_post k σ1 r4 σ3 →
    Ju_indexOf_pre 1003 11 a1 a2 r4 σ3 ∧
    ∀ (r6 : Int) (σ5 : Hp), Ju_indexOf_post 1003 11 a1 a2 r4 σ3 r6 σ5 →
    Js_indexOf2_post k a1 a2 σ r6 σ5) ∧
  (¬ (r2 = 0) →
    Js_length_pre k σ1 ∧
    ∀ (r8 : Int) (σ7 : Hp), Js_length_post k σ1 r8 σ7 →
    Jl_indexOf_pre 1003 11 a1 a2 r8 σ7 ∧
    ∀ (r10 : Int) (σ9 : Hp), Jl_indexOf_post 1003 11 a1 a2 r8 σ7 r10 σ9 →
    Js_indexOf2_post k a1 a2 σ r10 σ9)
theorem Js_indexOf2_p : Js_indexOf2_vc := by
  intro k a b σ hH hp
  obtain ⟨a0, a1, rfl⟩ := hp
  refine ⟨trivial, ?_⟩
  rintro r σ1 ⟨rfl, rfl⟩
  refine ⟨fun h => absurd h (by decide), fun _ => ⟨trivial, ?_⟩⟩
  rintro r σ1 ⟨rfl, rfl⟩
  exact ⟨⟨rfl, a0, a1, rfl, rfl⟩, fun r σ2 h => h⟩
def Js_indexOf2_I : List AV → Hp → Nat → Nat → List AV → List AV → Hp → Prop := fun as σ0 pc n st ls σ => (match as with
    | [.inr (.inr (.inl (k, 9, 0))), .inl a1, .inl a2] => False
    | _ => False)
def Js_indexOf2_ct : Nat → Ct := fun n => match n with
  | 0 => Js_isLatin1_cs
  | 1 => Js_length_cs
  | 2 => Jl_indexOf_cs
  | 3 => Ju_indexOf_cs
  | _ => Js_indexOf2_cs
set_option maxRecDepth 20000 in
set_option maxHeartbeats 4000000 in
theorem Js_indexOf2_met {l : Launch} {D : va_G} {ad : Nat → Nat} {ca : Nat → ClassId} {L : Nat} {fx : Nat → Int} : ax_MC l D ad ca L fx yJ0_indexOf_7cf53 cJ0_indexOf_7cf53 3 (some .int) 3 Js_indexOf2_cs := by
  refine ax_met (oc := 14) (ct := Js_indexOf2_ct) (calls := Js_indexOf2_cl) (bs := Js_indexOf2_bk) (cut := fun pc => false) (f := 4) (I := Js_indexOf2_I) (by decide) rfl rfl Js_indexOf2_ck (List.forall_mem_cons.mpr ⟨ax_cwT Js_isLatin1_met (by decide) (by decide) rfl rfl (ax_m2 195 (by decide +kernel) rfl) Js_isLatin1_w rfl Js_isLatin1_ds, List.forall_mem_cons.mpr ⟨ax_cwT Js_length_met (by decide) (by decide) rfl rfl (ax_m2 201 (by decide +kernel) rfl) Js_length_w rfl Js_length_ds, List.forall_mem_cons.mpr ⟨ax_cwS Jl_indexOf_met (by decide) (by decide) (ax_m2 209 (by decide +kernel) rfl) Jl_indexOf_w rfl Jl_indexOf_ds, List.forall_mem_cons.mpr ⟨ax_cwS Ju_indexOf_met (by decide) (by decide) (ax_m2 224 (by decide +kernel) rfl) Ju_indexOf_w rfl Ju_indexOf_ds, fun _ h => absurd h List.not_mem_nil⟩⟩⟩⟩) ?_ ?_
  · intro as σ0 hp hH
    match as, hp with
    | [.inr (.inr (.inl (k, 9, 0))), .inl a1, .inl a2], hp => exact ⟨rfl, Js_indexOf2_p k a1 a2 σ0 hH hp⟩
  · intro as σ0 hp n pc st ls σ hH hI
    match as, hp, hI with
    | [.inr (.inr (.inl (k, 9, 0))), .inl a1, .inl a2], hp, hI => exact False.elim hI
def Js_indexOf1_pre (_k : Nat) (a : Int) (_σ : Hp) : Prop := 0 ≤ a ∧ a ≤ 255
def Js_indexOf1_post (_k : Nat) (a : Int) (σ : Hp) (r : Int) (σ' : Hp) : Prop := σ' = σ ∧ (0 ≤ r ↔ a ∈ ax_sgL)
def Js_indexOf1_bk : List (Nat × List Item) := [(0, [(.aload_n 0, 1, [], []), (.iload_n 1, 1, [], []), (.iconst 0, 1, [], []), (.invokevirtual 633, 3, [0], []), (.ireturn, 1, [], [])])]
def Js_indexOf1_cl : List (Instr × Nat) := [(.invokevirtual 633, 0)]
set_option maxRecDepth 20000 in
theorem Js_indexOf1_ck : Js_indexOf1_bk.all (fun b => ax_chB 14 2 cJ0_indexOf_0f7a4 Js_indexOf1_cl b.1 b.2) = true := by decide +kernel
def Js_indexOf1_cs : Ct := (2, 100, 1, (0, 0), fun as σ => (match as with
    | [.inr (.inr (.inl (k, 9, 0))), .inl a1] => Js_indexOf1_pre k a1 σ
    | _ => False), fun as σ r σ' => (match as with
    | [.inr (.inr (.inl (k, 9, 0))), .inl a1] => Js_indexOf1_post k a1 σ r σ'
    | _ => False))
theorem Js_indexOf1_w : ∀ w ∈ ([.instanceMethod yJ0_indexOf_0f7a4, .selects yJ0_indexOf_0f7a4.cls yJ0_indexOf_0f7a4 yJ0_indexOf_0f7a4, .initialized yJ0_indexOf_0f7a4.cls, .code yJ0_indexOf_0f7a4 cJ0_indexOf_0f7a4 2 (some .int)] : List Cond), w ∈ ax_tb := ax_w4 (ax_m2 188 (by decide +kernel) rfl) (ax_m2 189 (by decide +kernel) rfl) (ax_m1 11 (by decide +kernel) rfl) (ax_m2 190 (by decide +kernel) rfl)
theorem Js_indexOf1_ds : yJ0_indexOf_0f7a4.cls ≠ "java/lang/invoke/MethodHandle" ∧ yJ0_indexOf_0f7a4.cls ≠ "java/lang/invoke/VarHandle" ∧ (parseMethodDescriptor yJ0_indexOf_0f7a4.desc).map (fun d => d.parameters.length) = some 1 := by decide +kernel
def Js_indexOf1_vc : Prop := ∀ (k : Nat) (a1 : Int) (σ : Hp), ax_H σ → Js_indexOf1_pre k a1 σ →
  Js_indexOf2_pre k a1 0 σ ∧
  ∀ (r2 : Int) (σ1 : Hp), Js_indexOf2_post k a1 0 σ r2 σ1 →
  Js_indexOf1_post k a1 σ r2 σ1
theorem sg_mem : ∀ n : Nat, n < 256 → ((∃ i, i < 11 ∧ ax_sg i = iByte (n : Int)) ↔ (n : Int) ∈ ax_sgL) := by decide +kernel
theorem Js_indexOf1_p : Js_indexOf1_vc := by
  intro k a σ hH hp
  refine ⟨⟨hp.1, hp.2, rfl⟩, ?_⟩
  rintro r σ1 ⟨rfl, h⟩
  refine ⟨rfl, h.trans ?_⟩
  have := sg_mem a.toNat (by have h1 := hp.1; have h2 := hp.2; omega)
  rw [← e_nat hp.1] at this
  exact this
def Js_indexOf1_I : List AV → Hp → Nat → Nat → List AV → List AV → Hp → Prop := fun as σ0 pc n st ls σ => (match as with
    | [.inr (.inr (.inl (k, 9, 0))), .inl a1] => False
    | _ => False)
def Js_indexOf1_ct : Nat → Ct := fun n => match n with
  | 0 => Js_indexOf2_cs
  | _ => Js_indexOf1_cs
set_option maxRecDepth 20000 in
set_option maxHeartbeats 4000000 in
theorem Js_indexOf1_met {l : Launch} {D : va_G} {ad : Nat → Nat} {ca : Nat → ClassId} {L : Nat} {fx : Nat → Int} : ax_MC l D ad ca L fx yJ0_indexOf_0f7a4 cJ0_indexOf_0f7a4 2 (some .int) 4 Js_indexOf1_cs := by
  refine ax_met (oc := 14) (ct := Js_indexOf1_ct) (calls := Js_indexOf1_cl) (bs := Js_indexOf1_bk) (cut := fun pc => false) (f := 2) (I := Js_indexOf1_I) (by decide) rfl rfl Js_indexOf1_ck (List.forall_mem_cons.mpr ⟨ax_cwT Js_indexOf2_met (by decide) (by decide) rfl rfl (ax_m2 191 (by decide +kernel) rfl) Js_indexOf2_w rfl Js_indexOf2_ds, fun _ h => absurd h List.not_mem_nil⟩) ?_ ?_
  · intro as σ0 hp hH
    match as, hp with
    | [.inr (.inr (.inl (k, 9, 0))), .inl a1], hp => exact ⟨rfl, Js_indexOf1_p k a1 σ0 hH hp⟩
  · intro as σ0 hp n pc st ls σ hH hI
    match as, hp, hI with
    | [.inr (.inr (.inl (k, 9, 0))), .inl a1], hp, hI => exact False.elim hI
-- THE READER'S TOKENS
def tpX (σ : Hp) : Tp := (tr (σ 1 1).toNat (σ 2), (σ 1 1).toNat)
def RT (σ : Hp) : Prop := 0 ≤ σ 1 1 ∧ σ 1 1 ≤ 1600
theorem tpX_eq {σ σ' : Hp} (h1 : σ' 1 1 = σ 1 1) (h2 : σ' 2 = σ 2) : tpX σ' = tpX σ := by unfold tpX; rw [h1, h2]
theorem RT.n {σ : Hp} (h : RT σ) : (tpX σ).2 ≤ 1600 ∧ σ 1 1 = ((tpX σ).2 : Int) := by
  have : (tpX σ).2 = (σ 1 1).toNat := rfl
  have := h.1
  have := h.2
  omega
theorem tpX_at {σ : Hp} {i : Nat} (h : i < (tpX σ).2) : (tpX σ).1 i = σ 2 i := tr_in h
theorem H_tape {σ : Hp} (hH : ax_H σ) (i : Nat) : -128 ≤ σ 2 i ∧ σ 2 i ≤ 127 := hH 2 i
def Rd_isLetter_pre (k : Nat) (_a : Int) (σ : Hp) : Prop := k = 1 ∧ RT σ
def Rd_isLetter_post (_k : Nat) (a : Int) (σ : Hp) (r : Int) (σ' : Hp) : Prop := σ' = σ ∧ r = if 0 ≤ a ∧ bL (tpX σ) a.toNat = true then 1 else 0
def Rd_isLetter_bk : List (Nat × List Item) := [(0, [(.iload_n 1, 1, [], []), (.ifCond .lt 44, 3, [45], []), (.iload_n 1, 1, [], []), (.aload_n 0, 1, [], []), (.getfield 19, 3, [5, 1, 0, 0, 0, 0], []), (.if_icmp .ge 36, 3, [45], []), (.iload_n 1, 1, [], []), (.sipush 1600, 3, [], []), (.if_icmp .ge 29, 3, [45], []), (.aload_n 0, 1, [], []), (.getfield 11, 3, [5, 0, 4, 1, 2, 1600], []), (.iload_n 1, 1, [], []), (.baload, 1, [], []), (.bipush 97, 2, [], []), (.if_icmp .lt 18, 3, [45], []), (.aload_n 0, 1, [], []), (.getfield 11, 3, [5, 0, 4, 1, 2, 1600], []), (.iload_n 1, 1, [], []), (.baload, 1, [], []), (.bipush 122, 2, [], []), (.if_icmp .gt 7, 3, [45], []), (.iconst 1, 1, [], []), (.goto 4, 3, [46], [])]),
  (45, [(.iconst 0, 1, [], [])]),
  (46, [(.ireturn, 1, [], [])])]
def Rd_isLetter_cl : List (Instr × Nat) := []
set_option maxRecDepth 20000 in
theorem Rd_isLetter_ck : Rd_isLetter_bk.all (fun b => ax_chB 5 2 cX5_isLetter Rd_isLetter_cl b.1 b.2) = true := by decide +kernel
def Rd_isLetter_cs : Ct := (2, 6, 2, (0, 0), fun as σ => (match as with
    | [.inr (.inr (.inl (k, 0, 5))), .inl a1] => Rd_isLetter_pre k a1 σ
    | _ => False), fun as σ r σ' => (match as with
    | [.inr (.inr (.inl (k, 0, 5))), .inl a1] => Rd_isLetter_post k a1 σ r σ'
    | _ => False))
theorem Rd_isLetter_w : ∀ w ∈ ([.instanceMethod yX5_isLetter, .selects yX5_isLetter.cls yX5_isLetter yX5_isLetter, .initialized yX5_isLetter.cls, .code yX5_isLetter cX5_isLetter 2 (some .boolean)] : List Cond), w ∈ ax_tb := ax_w4 (ax_m2 171 (by decide +kernel) rfl) (ax_m2 172 (by decide +kernel) rfl) (ax_m1 2 (by decide +kernel) rfl) (ax_m2 173 (by decide +kernel) rfl)
theorem Rd_isLetter_ds : yX5_isLetter.cls ≠ "java/lang/invoke/MethodHandle" ∧ yX5_isLetter.cls ≠ "java/lang/invoke/VarHandle" ∧ (parseMethodDescriptor yX5_isLetter.desc).map (fun d => d.parameters.length) = some 1 := by decide +kernel
def Rd_isLetter_vc : Prop := ∀ (k : Nat) (a1 : Int) (σ : Hp), ax_H σ → Rd_isLetter_pre k a1 σ →
  (a1 < 0 →
    ((0 : Int) = 0 ∨ (0 : Int) = 1) ∧ Rd_isLetter_post k a1 σ 0 σ) ∧
  (¬ (a1 < 0) →
    (σ k 1 ≤ a1 →
      ((0 : Int) = 0 ∨ (0 : Int) = 1) ∧ Rd_isLetter_post k a1 σ 0 σ) ∧
    (¬ (σ k 1 ≤ a1) →
      (1600 ≤ a1 →
        ((0 : Int) = 0 ∨ (0 : Int) = 1) ∧ Rd_isLetter_post k a1 σ 0 σ) ∧
      (¬ (1600 ≤ a1) →
        (0 ≤ a1 ∧ a1 < 1600) ∧
        (σ (k + 1) a1.toNat < 97 →
          ((0 : Int) = 0 ∨ (0 : Int) = 1) ∧ Rd_isLetter_post k a1 σ 0 σ) ∧
        (¬ (σ (k + 1) a1.toNat < 97) →
          (0 ≤ a1 ∧ a1 < 1600) ∧
          (122 < σ (k + 1) a1.toNat →
            ((0 : Int) = 0 ∨ (0 : Int) = 1) ∧ Rd_isLetter_post k a1 σ 0 σ) ∧
          (¬ (122 < σ (k + 1) a1.toNat) →
            ((1 : Int) = 0 ∨ (1 : Int) = 1) ∧ Rd_isLetter_post k a1 σ 1 σ)))))
theorem Rd_isLetter_p : Rd_isLetter_vc := by
  intro k a σ hH hp
  obtain ⟨rfl, hT⟩ := hp
  have hn := hT.n
  have no : ¬ (0 ≤ a ∧ bL (tpX σ) a.toNat = true) → ((0 : Int) = 0 ∨ (0 : Int) = 1) ∧ Rd_isLetter_post 1 a σ 0 σ := fun h => ⟨Or.inl rfl, rfl, by rw [if_neg h]⟩
  refine ⟨fun h => no (fun z => by omega), fun h => ⟨fun h2 => no (fun z => by have := bL_lt _ z.2; omega), fun h2 => ⟨fun h3 => no (fun z => by have := bL_lt _ z.2; omega), fun h3 => ⟨⟨by omega, by omega⟩, ?_⟩⟩⟩⟩
  have e : σ (1 + 1) a.toNat = (tpX σ).1 a.toNat := (tpX_at (by omega)).symm
  rw [e]
  exact ⟨fun h4 => no (fun z => by have := bL_t.mp z.2; omega), fun h4 => ⟨⟨by omega, by omega⟩, fun h5 => no (fun z => by have := bL_t.mp z.2; omega), fun h5 => ⟨Or.inr rfl, rfl, by rw [if_pos ⟨by omega, bL_t.mpr ⟨by omega, by omega, by omega⟩⟩]⟩⟩⟩
def Rd_isLetter_I : List AV → Hp → Nat → Nat → List AV → List AV → Hp → Prop := fun as σ0 pc n st ls σ => (match as with
    | [.inr (.inr (.inl (k, 0, 5))), .inl a1] => False
    | _ => False)
def Rd_isLetter_ct : Nat → Ct := fun n => match n with
  | _ => Rd_isLetter_cs
set_option maxRecDepth 20000 in
set_option maxHeartbeats 4000000 in
theorem Rd_isLetter_met {l : Launch} {D : va_G} {ad : Nat → Nat} {ca : Nat → ClassId} {L : Nat} {fx : Nat → Int} : ax_MC l D ad ca L fx yX5_isLetter cX5_isLetter 2 (some .boolean) 1 Rd_isLetter_cs := by
  refine ax_met (oc := 5) (ct := Rd_isLetter_ct) (calls := Rd_isLetter_cl) (bs := Rd_isLetter_bk) (cut := fun pc => false) (f := 4) (I := Rd_isLetter_I) (by decide) rfl rfl Rd_isLetter_ck (fun _ h => absurd h List.not_mem_nil) ?_ ?_
  · intro as σ0 hp hH
    match as, hp with
    | [.inr (.inr (.inl (k, 0, 5))), .inl a1], hp => exact ⟨rfl, Rd_isLetter_p k a1 σ0 hH hp⟩
  · intro as σ0 hp n pc st ls σ hH hI
    match as, hp, hI with
    | [.inr (.inr (.inl (k, 0, 5))), .inl a1], hp, hI => exact False.elim hI
def Rd_isDigit_pre (k : Nat) (_a : Int) (σ : Hp) : Prop := k = 1 ∧ RT σ
def Rd_isDigit_post (_k : Nat) (a : Int) (σ : Hp) (r : Int) (σ' : Hp) : Prop := σ' = σ ∧ r = if 0 ≤ a ∧ bD (tpX σ) a.toNat = true then 1 else 0
def Rd_isDigit_bk : List (Nat × List Item) := [(0, [(.iload_n 1, 1, [], []), (.ifCond .lt 44, 3, [45], []), (.iload_n 1, 1, [], []), (.aload_n 0, 1, [], []), (.getfield 19, 3, [5, 1, 0, 0, 0, 0], []), (.if_icmp .ge 36, 3, [45], []), (.iload_n 1, 1, [], []), (.sipush 1600, 3, [], []), (.if_icmp .ge 29, 3, [45], []), (.aload_n 0, 1, [], []), (.getfield 11, 3, [5, 0, 4, 1, 2, 1600], []), (.iload_n 1, 1, [], []), (.baload, 1, [], []), (.bipush 48, 2, [], []), (.if_icmp .lt 18, 3, [45], []), (.aload_n 0, 1, [], []), (.getfield 11, 3, [5, 0, 4, 1, 2, 1600], []), (.iload_n 1, 1, [], []), (.baload, 1, [], []), (.bipush 57, 2, [], []), (.if_icmp .gt 7, 3, [45], []), (.iconst 1, 1, [], []), (.goto 4, 3, [46], [])]),
  (45, [(.iconst 0, 1, [], [])]),
  (46, [(.ireturn, 1, [], [])])]
def Rd_isDigit_cl : List (Instr × Nat) := []
set_option maxRecDepth 20000 in
theorem Rd_isDigit_ck : Rd_isDigit_bk.all (fun b => ax_chB 5 2 cX5_isDigit Rd_isDigit_cl b.1 b.2) = true := by decide +kernel
def Rd_isDigit_cs : Ct := (2, 6, 2, (0, 0), fun as σ => (match as with
    | [.inr (.inr (.inl (k, 0, 5))), .inl a1] => Rd_isDigit_pre k a1 σ
    | _ => False), fun as σ r σ' => (match as with
    | [.inr (.inr (.inl (k, 0, 5))), .inl a1] => Rd_isDigit_post k a1 σ r σ'
    | _ => False))
theorem Rd_isDigit_w : ∀ w ∈ ([.instanceMethod yX5_isDigit, .selects yX5_isDigit.cls yX5_isDigit yX5_isDigit, .initialized yX5_isDigit.cls, .code yX5_isDigit cX5_isDigit 2 (some .boolean)] : List Cond), w ∈ ax_tb := ax_w4 (ax_m2 179 (by decide +kernel) rfl) (ax_m2 180 (by decide +kernel) rfl) (ax_m1 2 (by decide +kernel) rfl) (ax_m2 181 (by decide +kernel) rfl)
theorem Rd_isDigit_ds : yX5_isDigit.cls ≠ "java/lang/invoke/MethodHandle" ∧ yX5_isDigit.cls ≠ "java/lang/invoke/VarHandle" ∧ (parseMethodDescriptor yX5_isDigit.desc).map (fun d => d.parameters.length) = some 1 := by decide +kernel
def Rd_isDigit_vc : Prop := ∀ (k : Nat) (a1 : Int) (σ : Hp), ax_H σ → Rd_isDigit_pre k a1 σ →
  (a1 < 0 →
    ((0 : Int) = 0 ∨ (0 : Int) = 1) ∧ Rd_isDigit_post k a1 σ 0 σ) ∧
  (¬ (a1 < 0) →
    (σ k 1 ≤ a1 →
      ((0 : Int) = 0 ∨ (0 : Int) = 1) ∧ Rd_isDigit_post k a1 σ 0 σ) ∧
    (¬ (σ k 1 ≤ a1) →
      (1600 ≤ a1 →
        ((0 : Int) = 0 ∨ (0 : Int) = 1) ∧ Rd_isDigit_post k a1 σ 0 σ) ∧
      (¬ (1600 ≤ a1) →
        (0 ≤ a1 ∧ a1 < 1600) ∧
        (σ (k + 1) a1.toNat < 48 →
          ((0 : Int) = 0 ∨ (0 : Int) = 1) ∧ Rd_isDigit_post k a1 σ 0 σ) ∧
        (¬ (σ (k + 1) a1.toNat < 48) →
          (0 ≤ a1 ∧ a1 < 1600) ∧
          (57 < σ (k + 1) a1.toNat →
            ((0 : Int) = 0 ∨ (0 : Int) = 1) ∧ Rd_isDigit_post k a1 σ 0 σ) ∧
          (¬ (57 < σ (k + 1) a1.toNat) →
            ((1 : Int) = 0 ∨ (1 : Int) = 1) ∧ Rd_isDigit_post k a1 σ 1 σ)))))
theorem Rd_isDigit_p : Rd_isDigit_vc := by
  intro k a σ hH hp
  obtain ⟨rfl, hT⟩ := hp
  have hn := hT.n
  have no : ¬ (0 ≤ a ∧ bD (tpX σ) a.toNat = true) → ((0 : Int) = 0 ∨ (0 : Int) = 1) ∧ Rd_isDigit_post 1 a σ 0 σ := fun h => ⟨Or.inl rfl, rfl, by rw [if_neg h]⟩
  refine ⟨fun h => no (fun z => by omega), fun h => ⟨fun h2 => no (fun z => by have := bD_lt _ z.2; omega), fun h2 => ⟨fun h3 => no (fun z => by have := bD_lt _ z.2; omega), fun h3 => ⟨⟨by omega, by omega⟩, ?_⟩⟩⟩⟩
  have e : σ (1 + 1) a.toNat = (tpX σ).1 a.toNat := (tpX_at (by omega)).symm
  rw [e]
  exact ⟨fun h4 => no (fun z => by have := bD_t.mp z.2; omega), fun h4 => ⟨⟨by omega, by omega⟩, fun h5 => no (fun z => by have := bD_t.mp z.2; omega), fun h5 => ⟨Or.inr rfl, rfl, by rw [if_pos ⟨by omega, bD_t.mpr ⟨by omega, by omega, by omega⟩⟩]⟩⟩⟩
def Rd_isDigit_I : List AV → Hp → Nat → Nat → List AV → List AV → Hp → Prop := fun as σ0 pc n st ls σ => (match as with
    | [.inr (.inr (.inl (k, 0, 5))), .inl a1] => False
    | _ => False)
def Rd_isDigit_ct : Nat → Ct := fun n => match n with
  | _ => Rd_isDigit_cs
set_option maxRecDepth 20000 in
set_option maxHeartbeats 4000000 in
theorem Rd_isDigit_met {l : Launch} {D : va_G} {ad : Nat → Nat} {ca : Nat → ClassId} {L : Nat} {fx : Nat → Int} : ax_MC l D ad ca L fx yX5_isDigit cX5_isDigit 2 (some .boolean) 1 Rd_isDigit_cs := by
  refine ax_met (oc := 5) (ct := Rd_isDigit_ct) (calls := Rd_isDigit_cl) (bs := Rd_isDigit_bk) (cut := fun pc => false) (f := 4) (I := Rd_isDigit_I) (by decide) rfl rfl Rd_isDigit_ck (fun _ h => absurd h List.not_mem_nil) ?_ ?_
  · intro as σ0 hp hH
    match as, hp with
    | [.inr (.inr (.inl (k, 0, 5))), .inl a1], hp => exact ⟨rfl, Rd_isDigit_p k a1 σ0 hH hp⟩
  · intro as σ0 hp n pc st ls σ hH hI
    match as, hp, hI with
    | [.inr (.inr (.inl (k, 0, 5))), .inl a1], hp, hI => exact False.elim hI
def Rd_scanWord_pre (k : Nat) (σ : Hp) : Prop := k = 1 ∧ RT σ ∧ σ 1 4 = σ 1 6 ∧ 0 ≤ σ 1 6 ∧ bL (tpX σ) (σ 1 6).toNat = true
def Rd_scanWord_post (_k : Nat) (σ σ' : Hp) : Prop := Fr [1] σ σ' ∧ (∀ j, ¬ j = 4 → ¬ j = 5 → ¬ j = 7 → σ' 1 j = σ 1 j) ∧ σ' 1 4 = (eL (tpX σ) (σ 1 6).toNat : Nat) ∧ σ' 1 7 = wv (tpX σ) (σ 1 6).toNat (eL (tpX σ) (σ 1 6).toNat - (σ 1 6).toNat) ∧ σ' 1 5 = if eL (tpX σ) (σ 1 6).toNat - (σ 1 6).toNat ≤ 8 then 1 else 4
def Rd_scanWord_I5 (_k : Nat) (σ0 : Hp) (m : Nat) (σ : Hp) : Prop := ∃ v : Nat, σ 1 4 = v ∧ v ≤ (tpX σ0).2 ∧ m = 1600 - v ∧ (σ0 1 6).toNat ≤ v ∧ (∀ i, (σ0 1 6).toNat ≤ i → i < v → bL (tpX σ0) i = true) ∧ σ 1 7 = wv (tpX σ0) (σ0 1 6).toNat (v - (σ0 1 6).toNat) ∧ Fr [1] σ0 σ ∧ ∀ j, ¬ j = 4 → ¬ j = 7 → σ 1 j = σ0 1 j
def Rd_scanWord_bk : List (Nat × List Item) := [(0, [(.aload_n 0, 1, [], []), (.lconst 0, 1, [], [(0, 0)]), (.putfield 60, 3, [5, 7, 2, 0, 0, 0], [])]),
  (5, [(.aload_n 0, 1, [], []), (.getfield 30, 3, [5, 4, 0, 0, 0, 0], []), (.aload_n 0, 1, [], []), (.getfield 19, 3, [5, 1, 0, 0, 0, 0], []), (.if_icmp .ge 49, 3, [62], []), (.aload_n 0, 1, [], []), (.aload_n 0, 1, [], []), (.getfield 30, 3, [5, 4, 0, 0, 0, 0], []), (.invokevirtual 227, 3, [0], []), (.ifCond .eq 38, 3, [62], []), (.aload_n 0, 1, [], []), (.aload_n 0, 1, [], []), (.getfield 60, 3, [5, 7, 2, 0, 0, 0], []), (.bipush 8, 2, [], []), (.lshl, 1, [], []), (.aload_n 0, 1, [], []), (.getfield 11, 3, [5, 0, 4, 1, 2, 1600], []), (.aload_n 0, 1, [], []), (.getfield 30, 3, [5, 4, 0, 0, 0, 0], []), (.baload, 1, [], []), (.i2l, 1, [], []), (.lor, 1, [], []), (.putfield 60, 3, [5, 7, 2, 0, 0, 0], []), (.aload_n 0, 1, [], []), (.dup, 1, [], []), (.getfield 30, 3, [5, 4, 0, 0, 0, 0], []), (.iconst 1, 1, [], []), (.iadd, 1, [], []), (.putfield 30, 3, [5, 4, 0, 0, 0, 0], []), (.goto (-54), 3, [5], [])]),
  (62, [(.aload_n 0, 1, [], []), (.aload_n 0, 1, [], []), (.getfield 30, 3, [5, 4, 0, 0, 0, 0], []), (.aload_n 0, 1, [], []), (.getfield 224, 3, [5, 6, 0, 0, 0, 0], []), (.isub, 1, [], []), (.bipush 8, 2, [], []), (.if_icmp .gt 7, 3, [81], []), (.iconst 1, 1, [], []), (.goto 4, 3, [82], [])]),
  (81, [(.iconst 4, 1, [], [])]),
  (82, [(.putfield 36, 3, [5, 5, 0, 0, 0, 0], []), (.return_, 1, [], [])])]
def Rd_scanWord_cl : List (Instr × Nat) := [(.invokevirtual 227, 0)]
set_option maxRecDepth 20000 in
theorem Rd_scanWord_ck : Rd_scanWord_bk.all (fun b => ax_chB 5 1 cX5_scanWord Rd_scanWord_cl b.1 b.2) = true := by decide +kernel
def Rd_scanWord_cs : Ct := (1, 6, 0, (0, 0), fun as σ => (match as with
    | [.inr (.inr (.inl (k, 0, 5)))] => Rd_scanWord_pre k σ
    | _ => False), fun as σ r σ' => (match as with
    | [.inr (.inr (.inl (k, 0, 5)))] => Rd_scanWord_post k σ σ'
    | _ => False))
theorem Rd_scanWord_w : ∀ w ∈ ([.instanceMethod yX5_scanWord, .selects yX5_scanWord.cls yX5_scanWord yX5_scanWord, .initialized yX5_scanWord.cls, .code yX5_scanWord cX5_scanWord 1 none] : List Cond), w ∈ ax_tb := ax_w4 (ax_m2 175 (by decide +kernel) rfl) (ax_m2 176 (by decide +kernel) rfl) (ax_m1 2 (by decide +kernel) rfl) (ax_m2 177 (by decide +kernel) rfl)
theorem Rd_scanWord_ds : yX5_scanWord.cls ≠ "java/lang/invoke/MethodHandle" ∧ yX5_scanWord.cls ≠ "java/lang/invoke/VarHandle" ∧ (parseMethodDescriptor yX5_scanWord.desc).map (fun d => d.parameters.length) = some 0 := by decide +kernel
def Rd_scanWord_vc : Prop := ∀ (k : Nat) (σ : Hp), ax_H σ → Rd_scanWord_pre k σ →
  ∀ σ1 : Hp, σ1 = hp σ k 7 0 →
  ∃ n' : Nat, k = k ∧ Rd_scanWord_I5 k σ n' σ1
def Rd_scanWord_vc5 : Prop := ∀ (k : Nat) (σ0 : Hp), Rd_scanWord_pre k σ0 → ∀ (n : Nat)  (σ : Hp), ax_H σ → Rd_scanWord_I5 k σ0 n σ →
  (σ k 1 ≤ σ k 4 →
    (8 < wr ((σ k 4) - (σ k 6)) →
      ∀ σ1 : Hp, σ1 = hp σ k 5 4 →
      Rd_scanWord_post k σ0 σ1) ∧
    (¬ (8 < wr ((σ k 4) - (σ k 6))) →
      ∀ σ2 : Hp, σ2 = hp σ k 5 1 →
      Rd_scanWord_post k σ0 σ2)) ∧
  (¬ (σ k 1 ≤ σ k 4) →
    Rd_isLetter_pre k (σ k 4) σ ∧
    ∀ (r4 : Int) (σ3 : Hp), Rd_isLetter_post k (σ k 4) σ r4 σ3 →
    (r4 = 0 →
      (8 < wr ((σ3 k 4) - (σ3 k 6)) →
        ∀ σ5 : Hp, σ5 = hp σ3 k 5 4 →
        Rd_scanWord_post k σ0 σ5) ∧
      (¬ (8 < wr ((σ3 k 4) - (σ3 k 6))) →
        ∀ σ6 : Hp, σ6 = hp σ3 k 5 1 →
        Rd_scanWord_post k σ0 σ6)) ∧
    (¬ (r4 = 0) →
      (0 ≤ σ3 k 4 ∧ σ3 k 4 < 1600) ∧
      ∀ σ7 : Hp, σ7 = hp σ3 k 7 (lOr (lShl (σ3 k 7) 8) (σ3 (k + 1) (σ3 k 4).toNat)) →
      ∀ σ8 : Hp, σ8 = hp σ7 k 4 (wr ((σ7 k 4) + 1)) →
      ∃ n' : Nat, n' < n ∧ k = k ∧ Rd_scanWord_I5 k σ0 n' σ8))
theorem Rd_scanWord_p : Rd_scanWord_vc := by
  intro k σ hH hp
  obtain ⟨rfl, hT, h46, h0, hb⟩ := hp
  rintro σ1 rfl
  have hl := bL_lt _ hb
  refine ⟨1600 - (σ 1 6).toNat, rfl, (σ 1 6).toNat, ?_, by omega, rfl, Nat.le_refl _, fun i h1 h2 => absurd h2 (by omega), ?_, Fr.hp Fr.rf (by simp), fun j j1 j2 => hp_r2 (by omega)⟩
  · rw [hp_r2 (by omega), h46]; omega
  · rw [hp_r1, Nat.sub_self]; rfl
theorem Rd_scanWord_p5 : Rd_scanWord_vc5 := by
  intro k σ0 hp m σ hH hI
  obtain ⟨rfl, hT, h46, h0, hb⟩ := hp
  obtain ⟨v, h4, hvl, rfl, hqv, hr, h7, hf, hk⟩ := hI
  have hn := hT.n
  have h1 : σ 1 1 = σ0 1 1 := hk 1 (by decide) (by decide)
  have h6 : σ 1 6 = σ0 1 6 := hk 6 (by decide) (by decide)
  have hT1 : RT σ := by unfold RT; rw [h1]; exact hT
  have hB : tpX σ = tpX σ0 := tpX_eq h1 (hf 2 (by decide))
  have ew : wr ((v : Int) - σ0 1 6) = ((v - (σ0 1 6).toNat : Nat) : Int) := by rw [wr_id (by omega) (by omega)]; omega
  have fin : bL (tpX σ0) v = false → (8 < wr ((v : Int) - σ0 1 6) → ∀ σ1 : Hp, σ1 = hp σ 1 5 4 → Rd_scanWord_post 1 σ0 σ1) ∧ (¬ (8 < wr ((v : Int) - σ0 1 6)) → ∀ σ1 : Hp, σ1 = hp σ 1 5 1 → Rd_scanWord_post 1 σ0 σ1) := by
    intro hv
    have e : v = eL (tpX σ0) (σ0 1 6).toNat := run_is bL_lt (by omega) hqv hr hv
    rw [ew]
    constructor
    · rintro h σ1 rfl
      refine ⟨Fr.hp hf (by simp), fun j j1 j2 j3 => ?_, ?_, ?_, ?_⟩
      · rw [hp_r2 (by omega)]; exact hk j j1 j3
      · rw [hp_r2 (by omega), h4, ← e]
      · rw [hp_r2 (by omega), h7, ← e]
      · rw [hp_r1, ← e, if_neg (by omega)]
    · rintro h σ1 rfl
      refine ⟨Fr.hp hf (by simp), fun j j1 j2 j3 => ?_, ?_, ?_, ?_⟩
      · rw [hp_r2 (by omega)]; exact hk j j1 j3
      · rw [hp_r2 (by omega), h4, ← e]
      · rw [hp_r2 (by omega), h7, ← e]
      · rw [hp_r1, ← e, if_pos (by omega)]
  rw [h4, h6]
  refine ⟨fun h => fin ?_, fun h => ⟨⟨rfl, hT1⟩, ?_⟩⟩
  · cases z : bL (tpX σ0) v with
    | false => rfl
    | true => have := bL_lt _ z; rw [h1] at h; omega
  · rintro r σ1 ⟨rfl, rfl⟩
    rw [hB, h4, h6, Int.toNat_natCast]
    refine ⟨fun h2 => fin ?_, fun h2 => ?_⟩
    · cases z : bL (tpX σ0) v with
      | false => rfl
      | true => rw [if_pos ⟨by omega, z⟩] at h2; cases h2
    · have hv : bL (tpX σ0) v = true := by
        cases z : bL (tpX σ0) v with
        | true => rfl
        | false => rw [if_neg (by rw [z]; simp)] at h2; exact absurd rfl h2
      have hvn := bL_lt _ hv
      refine ⟨⟨by omega, by omega⟩, ?_⟩
      rintro σ2 rfl
      rw [hp_r2 (by omega), h4, wr1 (by omega) (by omega)]
      rintro σ3 rfl
      refine ⟨1600 - (v + 1), by omega, rfl, v + 1, by rw [hp_r1]; simp, by omega, rfl, by omega, fun i i1 i2 => ?_, ?_, Fr.hp (Fr.hp hf (by simp)) (by simp), fun j j1 j2 => ?_⟩
      · by_cases e : i = v
        · rw [e]; exact hv
        · exact hr i i1 (by omega)
      · rw [hp_r2 (by omega), hp_r1, show v + 1 - (σ0 1 6).toNat = (v - (σ0 1 6).toNat) + 1 by omega]
        show _ = lOr (lShl (wv (tpX σ0) (σ0 1 6).toNat (v - (σ0 1 6).toNat)) 8) ((tpX σ0).1 ((σ0 1 6).toNat + (v - (σ0 1 6).toNat)))
        rw [h7, show (σ0 1 6).toNat + (v - (σ0 1 6).toNat) = v by omega, tpX_at hvn, ← hf 2 (by decide)]
      · rw [hp_r2 (by omega), hp_r2 (by omega)]; exact hk j j1 j2
def Rd_scanWord_I : List AV → Hp → Nat → Nat → List AV → List AV → Hp → Prop := fun as σ0 pc n st ls σ => (match as with
    | [.inr (.inr (.inl (k, 0, 5)))] => (bif Nat.beq pc 5 then (match st, ls with
      | [], [.inr (.inr (.inl (k', 0, 5)))] => k = k' ∧ Rd_scanWord_I5 k σ0 n σ
      | _, _ => False) else False)
    | _ => False)
def Rd_scanWord_ct : Nat → Ct := fun n => match n with
  | 0 => Rd_isLetter_cs
  | _ => Rd_scanWord_cs
set_option maxRecDepth 20000 in
set_option maxHeartbeats 4000000 in
theorem Rd_scanWord_met {l : Launch} {D : va_G} {ad : Nat → Nat} {ca : Nat → ClassId} {L : Nat} {fx : Nat → Int} : ax_MC l D ad ca L fx yX5_scanWord cX5_scanWord 1 none 2 Rd_scanWord_cs := by
  refine ax_met (oc := 5) (ct := Rd_scanWord_ct) (calls := Rd_scanWord_cl) (bs := Rd_scanWord_bk) (cut := fun pc => Nat.beq pc 5) (f := 6) (I := Rd_scanWord_I) (by decide) rfl rfl Rd_scanWord_ck (List.forall_mem_cons.mpr ⟨ax_cwV Rd_isLetter_met (by decide) (by decide) rfl (by decide) rfl (ax_m2 170 (by decide +kernel) rfl) Rd_isLetter_w rfl Rd_isLetter_ds, fun _ h => absurd h List.not_mem_nil⟩) ?_ ?_
  · intro as σ0 hp hH
    match as, hp with
    | [.inr (.inr (.inl (k, 0, 5)))], hp => exact ⟨rfl, Rd_scanWord_p k σ0 hH hp⟩
  · intro as σ0 hp n pc st ls σ hH hI
    match as, hp, hI with
    | [.inr (.inr (.inl (k, 0, 5)))], hp, hI =>
      rcases ax_bifE hI with ⟨hpc, hI⟩ | ⟨-, hI⟩
      · have := Nat.eq_of_beq_eq_true hpc
        subst this
        match st, ls, hI with
        | [], [.inr (.inr (.inl (k', 0, 5)))], hI =>
          obtain ⟨rfl, hI⟩ := hI
          exact Rd_scanWord_p5 k σ0 hp n σ hH hI
      exact False.elim hI
def Rd_scanNumber_pre (k : Nat) (σ : Hp) : Prop := k = 1 ∧ RT σ ∧ σ 1 4 = σ 1 6 ∧ 0 ≤ σ 1 6 ∧ bD (tpX σ) (σ 1 6).toNat = true
def Rd_scanNumber_post (_k : Nat) (σ σ' : Hp) : Prop := Fr [1] σ σ' ∧ (∀ j, ¬ j = 4 → ¬ j = 5 → ¬ j = 8 → σ' 1 j = σ 1 j) ∧ σ' 1 4 = (eD (tpX σ) (σ 1 6).toNat : Nat) ∧ σ' 1 8 = nv (tpX σ) (σ 1 6).toNat (eD (tpX σ) (σ 1 6).toNat - (σ 1 6).toNat) ∧ σ' 1 5 = if eD (tpX σ) (σ 1 6).toNat - (σ 1 6).toNat ≤ 4 ∧ bL (tpX σ) (eD (tpX σ) (σ 1 6).toNat) = false then 2 else 4
def Rd_scanNumber_I5 (_k : Nat) (σ0 : Hp) (m : Nat) (σ : Hp) : Prop := ∃ v : Nat, σ 1 4 = v ∧ v ≤ (tpX σ0).2 ∧ m = 1600 - v ∧ (σ0 1 6).toNat ≤ v ∧ (∀ i, (σ0 1 6).toNat ≤ i → i < v → bD (tpX σ0) i = true) ∧ σ 1 8 = nv (tpX σ0) (σ0 1 6).toNat (v - (σ0 1 6).toNat) ∧ Fr [1] σ0 σ ∧ ∀ j, ¬ j = 4 → ¬ j = 8 → σ 1 j = σ0 1 j
def Rd_scanNumber_bk : List (Nat × List Item) := [(0, [(.aload_n 0, 1, [], []), (.iconst 0, 1, [], []), (.putfield 196, 3, [5, 8, 0, 0, 0, 0], [])]),
  (5, [(.aload_n 0, 1, [], []), (.getfield 30, 3, [5, 4, 0, 0, 0, 0], []), (.aload_n 0, 1, [], []), (.getfield 19, 3, [5, 1, 0, 0, 0, 0], []), (.if_icmp .ge 51, 3, [64], []), (.aload_n 0, 1, [], []), (.aload_n 0, 1, [], []), (.getfield 30, 3, [5, 4, 0, 0, 0, 0], []), (.invokevirtual 233, 3, [0], []), (.ifCond .eq 40, 3, [64], []), (.aload_n 0, 1, [], []), (.aload_n 0, 1, [], []), (.getfield 196, 3, [5, 8, 0, 0, 0, 0], []), (.bipush 10, 2, [], []), (.imul, 1, [], []), (.aload_n 0, 1, [], []), (.getfield 11, 3, [5, 0, 4, 1, 2, 1600], []), (.aload_n 0, 1, [], []), (.getfield 30, 3, [5, 4, 0, 0, 0, 0], []), (.baload, 1, [], []), (.iadd, 1, [], []), (.bipush 48, 2, [], []), (.isub, 1, [], []), (.putfield 196, 3, [5, 8, 0, 0, 0, 0], []), (.aload_n 0, 1, [], []), (.dup, 1, [], []), (.getfield 30, 3, [5, 4, 0, 0, 0, 0], []), (.iconst 1, 1, [], []), (.iadd, 1, [], []), (.putfield 30, 3, [5, 4, 0, 0, 0, 0], []), (.goto (-56), 3, [5], [])]),
  (64, [(.aload_n 0, 1, [], []), (.aload_n 0, 1, [], []), (.getfield 30, 3, [5, 4, 0, 0, 0, 0], []), (.aload_n 0, 1, [], []), (.getfield 224, 3, [5, 6, 0, 0, 0, 0], []), (.isub, 1, [], []), (.iconst 4, 1, [], []), (.if_icmp .gt 18, 3, [93], []), (.aload_n 0, 1, [], []), (.aload_n 0, 1, [], []), (.getfield 30, 3, [5, 4, 0, 0, 0, 0], []), (.invokevirtual 227, 3, [1], []), (.ifCond .ne 7, 3, [93], []), (.iconst 2, 1, [], []), (.goto 4, 3, [94], [])]),
  (93, [(.iconst 4, 1, [], [])]),
  (94, [(.putfield 36, 3, [5, 5, 0, 0, 0, 0], []), (.return_, 1, [], [])])]
def Rd_scanNumber_cl : List (Instr × Nat) := [(.invokevirtual 233, 0), (.invokevirtual 227, 1)]
set_option maxRecDepth 20000 in
theorem Rd_scanNumber_ck : Rd_scanNumber_bk.all (fun b => ax_chB 5 1 cX5_scanNumber Rd_scanNumber_cl b.1 b.2) = true := by decide +kernel
def Rd_scanNumber_cs : Ct := (1, 6, 0, (0, 0), fun as σ => (match as with
    | [.inr (.inr (.inl (k, 0, 5)))] => Rd_scanNumber_pre k σ
    | _ => False), fun as σ r σ' => (match as with
    | [.inr (.inr (.inl (k, 0, 5)))] => Rd_scanNumber_post k σ σ'
    | _ => False))
theorem Rd_scanNumber_w : ∀ w ∈ ([.instanceMethod yX5_scanNumber, .selects yX5_scanNumber.cls yX5_scanNumber yX5_scanNumber, .initialized yX5_scanNumber.cls, .code yX5_scanNumber cX5_scanNumber 1 none] : List Cond), w ∈ ax_tb := ax_w4 (ax_m2 183 (by decide +kernel) rfl) (ax_m2 184 (by decide +kernel) rfl) (ax_m1 2 (by decide +kernel) rfl) (ax_m2 185 (by decide +kernel) rfl)
theorem Rd_scanNumber_ds : yX5_scanNumber.cls ≠ "java/lang/invoke/MethodHandle" ∧ yX5_scanNumber.cls ≠ "java/lang/invoke/VarHandle" ∧ (parseMethodDescriptor yX5_scanNumber.desc).map (fun d => d.parameters.length) = some 0 := by decide +kernel
def Rd_scanNumber_vc : Prop := ∀ (k : Nat) (σ : Hp), ax_H σ → Rd_scanNumber_pre k σ →
  ∀ σ1 : Hp, σ1 = hp σ k 8 0 →
  ∃ n' : Nat, k = k ∧ Rd_scanNumber_I5 k σ n' σ1
def Rd_scanNumber_vc5 : Prop := ∀ (k : Nat) (σ0 : Hp), Rd_scanNumber_pre k σ0 → ∀ (n : Nat)  (σ : Hp), ax_H σ → Rd_scanNumber_I5 k σ0 n σ →
  (σ k 1 ≤ σ k 4 →
    (4 < wr ((σ k 4) - (σ k 6)) →
      ∀ σ1 : Hp, σ1 = hp σ k 5 4 →
      Rd_scanNumber_post k σ0 σ1) ∧
    (¬ (4 < wr ((σ k 4) - (σ k 6))) →
      Rd_isLetter_pre k (σ k 4) σ ∧
      ∀ (r3 : Int) (σ2 : Hp), Rd_isLetter_post k (σ k 4) σ r3 σ2 →
      (¬ r3 = 0 →
        ∀ σ4 : Hp, σ4 = hp σ2 k 5 4 →
        Rd_scanNumber_post k σ0 σ4) ∧
      (¬ (¬ r3 = 0) →
        ∀ σ5 : Hp, σ5 = hp σ2 k 5 2 →
        Rd_scanNumber_post k σ0 σ5))) ∧
  (¬ (σ k 1 ≤ σ k 4) →
    Rd_isDigit_pre k (σ k 4) σ ∧
    ∀ (r7 : Int) (σ6 : Hp), Rd_isDigit_post k (σ k 4) σ r7 σ6 →
    (r7 = 0 →
      (4 < wr ((σ6 k 4) - (σ6 k 6)) →
        ∀ σ8 : Hp, σ8 = hp σ6 k 5 4 →
        Rd_scanNumber_post k σ0 σ8) ∧
      (¬ (4 < wr ((σ6 k 4) - (σ6 k 6))) →
        Rd_isLetter_pre k (σ6 k 4) σ6 ∧
        ∀ (r10 : Int) (σ9 : Hp), Rd_isLetter_post k (σ6 k 4) σ6 r10 σ9 →
        (¬ r10 = 0 →
          ∀ σ11 : Hp, σ11 = hp σ9 k 5 4 →
          Rd_scanNumber_post k σ0 σ11) ∧
        (¬ (¬ r10 = 0) →
          ∀ σ12 : Hp, σ12 = hp σ9 k 5 2 →
          Rd_scanNumber_post k σ0 σ12))) ∧
    (¬ (r7 = 0) →
      (0 ≤ σ6 k 4 ∧ σ6 k 4 < 1600) ∧
      ∀ σ13 : Hp, σ13 = hp σ6 k 8 (wr ((wr ((wr ((σ6 k 8) * 10)) + (σ6 (k + 1) (σ6 k 4).toNat))) - 48)) →
      ∀ σ14 : Hp, σ14 = hp σ13 k 4 (wr ((σ13 k 4) + 1)) →
      ∃ n' : Nat, n' < n ∧ k = k ∧ Rd_scanNumber_I5 k σ0 n' σ14))
theorem Rd_scanNumber_p : Rd_scanNumber_vc := by
  intro k σ hH hp
  obtain ⟨rfl, hT, h46, h0, hb⟩ := hp
  rintro σ1 rfl
  have hl := bD_lt _ hb
  refine ⟨1600 - (σ 1 6).toNat, rfl, (σ 1 6).toNat, ?_, by omega, rfl, Nat.le_refl _, fun i h1 h2 => absurd h2 (by omega), ?_, Fr.hp Fr.rf (by simp), fun j j1 j2 => hp_r2 (by omega)⟩
  · rw [hp_r2 (by omega), h46]; omega
  · rw [hp_r1, Nat.sub_self]; rfl
theorem Rd_scanNumber_p5 : Rd_scanNumber_vc5 := by
  intro k σ0 hp m σ hH hI
  obtain ⟨rfl, hT, h46, h0, hb⟩ := hp
  obtain ⟨v, h4, hvl, rfl, hqv, hr, h8, hf, hk⟩ := hI
  have hn := hT.n
  have h1 : σ 1 1 = σ0 1 1 := hk 1 (by decide) (by decide)
  have h6 : σ 1 6 = σ0 1 6 := hk 6 (by decide) (by decide)
  have hT1 : RT σ := by unfold RT; rw [h1]; exact hT
  have hB : tpX σ = tpX σ0 := tpX_eq h1 (hf 2 (by decide))
  have ew : wr ((v : Int) - σ0 1 6) = ((v - (σ0 1 6).toNat : Nat) : Int) := by rw [wr_id (by omega) (by omega)]; omega
  have pst : ∀ c : Int, v = eD (tpX σ0) (σ0 1 6).toNat → (c = if eD (tpX σ0) (σ0 1 6).toNat - (σ0 1 6).toNat ≤ 4 ∧ bL (tpX σ0) (eD (tpX σ0) (σ0 1 6).toNat) = false then 2 else 4) → Rd_scanNumber_post 1 σ0 (hp σ 1 5 c) := by
    intro c e hc
    refine ⟨Fr.hp hf (by simp), fun j j1 j2 j3 => ?_, ?_, ?_, ?_⟩
    · rw [hp_r2 (by omega)]; exact hk j j1 j3
    · rw [hp_r2 (by omega), h4, ← e]
    · rw [hp_r2 (by omega), h8, ← e]
    · rw [hp_r1]; exact hc
  have fin : bD (tpX σ0) v = false → (4 < wr ((v : Int) - σ0 1 6) → ∀ σ1 : Hp, σ1 = hp σ 1 5 4 → Rd_scanNumber_post 1 σ0 σ1) ∧ (¬ (4 < wr ((v : Int) - σ0 1 6)) → Rd_isLetter_pre 1 (v : Int) σ ∧ ∀ (r3 : Int) (σ2 : Hp), Rd_isLetter_post 1 (v : Int) σ r3 σ2 → (¬ r3 = 0 → ∀ σ4 : Hp, σ4 = hp σ2 1 5 4 → Rd_scanNumber_post 1 σ0 σ4) ∧ (¬ (¬ r3 = 0) → ∀ σ5 : Hp, σ5 = hp σ2 1 5 2 → Rd_scanNumber_post 1 σ0 σ5)) := by
    intro hv
    have e : v = eD (tpX σ0) (σ0 1 6).toNat := run_is bD_lt (by omega) hqv hr hv
    rw [ew]
    refine ⟨?_, fun h => ⟨⟨rfl, hT1⟩, ?_⟩⟩
    · rintro h σ1 rfl
      exact pst 4 e (by rw [if_neg]; rw [← e]; omega)
    · rintro r3 σ2 ⟨rfl, rfl⟩
      rw [hB, Int.toNat_natCast]
      constructor
      · rintro h3 σ4 rfl
        refine pst 4 e (by
          rw [if_neg]
          rw [← e]
          intro z
          rw [if_neg (by rw [z.2]; simp)] at h3
          exact h3 rfl)
      · rintro h3 σ4 rfl
        refine pst 2 e (by
          rw [if_pos]
          rw [← e]
          refine ⟨by omega, ?_⟩
          cases z : bL (tpX σ0) v with
          | false => rfl
          | true => rw [if_pos ⟨by omega, z⟩] at h3; exact absurd (by decide) h3)
  rw [h4, h6]
  refine ⟨fun h => fin ?_, fun h => ⟨⟨rfl, hT1⟩, ?_⟩⟩
  · cases z : bD (tpX σ0) v with
    | false => rfl
    | true => have := bD_lt _ z; rw [h1] at h; omega
  · rintro r σ1 ⟨rfl, rfl⟩
    rw [hB, h4, h6, Int.toNat_natCast]
    refine ⟨fun h2 => fin ?_, fun h2 => ?_⟩
    · cases z : bD (tpX σ0) v with
      | false => rfl
      | true => rw [if_pos ⟨by omega, z⟩] at h2; cases h2
    · have hv : bD (tpX σ0) v = true := by
        cases z : bD (tpX σ0) v with
        | true => rfl
        | false => rw [if_neg (by rw [z]; simp)] at h2; exact absurd rfl h2
      have hvn := bD_lt _ hv
      refine ⟨⟨by omega, by omega⟩, ?_⟩
      rintro σ2 rfl
      rw [hp_r2 (by omega), h4, wr1 (by omega) (by omega)]
      rintro σ3 rfl
      refine ⟨1600 - (v + 1), by omega, rfl, v + 1, by rw [hp_r1]; simp, by omega, rfl, by omega, fun i i1 i2 => ?_, ?_, Fr.hp (Fr.hp hf (by simp)) (by simp), fun j j1 j2 => ?_⟩
      · by_cases e : i = v
        · rw [e]; exact hv
        · exact hr i i1 (by omega)
      · rw [hp_r2 (by omega), hp_r1, show v + 1 - (σ0 1 6).toNat = (v - (σ0 1 6).toNat) + 1 by omega]
        show _ = wr (wr (wr (nv (tpX σ0) (σ0 1 6).toNat (v - (σ0 1 6).toNat) * 10) + (tpX σ0).1 ((σ0 1 6).toNat + (v - (σ0 1 6).toNat))) - 48)
        rw [h8, show (σ0 1 6).toNat + (v - (σ0 1 6).toNat) = v by omega, tpX_at hvn, ← hf 2 (by decide)]
      · rw [hp_r2 (by omega), hp_r2 (by omega)]; exact hk j j1 j2
def Rd_scanNumber_I : List AV → Hp → Nat → Nat → List AV → List AV → Hp → Prop := fun as σ0 pc n st ls σ => (match as with
    | [.inr (.inr (.inl (k, 0, 5)))] => (bif Nat.beq pc 5 then (match st, ls with
      | [], [.inr (.inr (.inl (k', 0, 5)))] => k = k' ∧ Rd_scanNumber_I5 k σ0 n σ
      | _, _ => False) else False)
    | _ => False)
def Rd_scanNumber_ct : Nat → Ct := fun n => match n with
  | 0 => Rd_isDigit_cs
  | 1 => Rd_isLetter_cs
  | _ => Rd_scanNumber_cs
set_option maxRecDepth 20000 in
set_option maxHeartbeats 4000000 in
theorem Rd_scanNumber_met {l : Launch} {D : va_G} {ad : Nat → Nat} {ca : Nat → ClassId} {L : Nat} {fx : Nat → Int} : ax_MC l D ad ca L fx yX5_scanNumber cX5_scanNumber 1 none 2 Rd_scanNumber_cs := by
  refine ax_met (oc := 5) (ct := Rd_scanNumber_ct) (calls := Rd_scanNumber_cl) (bs := Rd_scanNumber_bk) (cut := fun pc => Nat.beq pc 5) (f := 6) (I := Rd_scanNumber_I) (by decide) rfl rfl Rd_scanNumber_ck (List.forall_mem_cons.mpr ⟨ax_cwV Rd_isDigit_met (by decide) (by decide) rfl (by decide) rfl (ax_m2 178 (by decide +kernel) rfl) Rd_isDigit_w rfl Rd_isDigit_ds, List.forall_mem_cons.mpr ⟨ax_cwV Rd_isLetter_met (by decide) (by decide) rfl (by decide) rfl (ax_m2 170 (by decide +kernel) rfl) Rd_isLetter_w rfl Rd_isLetter_ds, fun _ h => absurd h List.not_mem_nil⟩⟩) ?_ ?_
  · intro as σ0 hp hH
    match as, hp with
    | [.inr (.inr (.inl (k, 0, 5)))], hp => exact ⟨rfl, Rd_scanNumber_p k σ0 hH hp⟩
  · intro as σ0 hp n pc st ls σ hH hI
    match as, hp, hI with
    | [.inr (.inr (.inl (k, 0, 5)))], hp, hI =>
      rcases ax_bifE hI with ⟨hpc, hI⟩ | ⟨-, hI⟩
      · have := Nat.eq_of_beq_eq_true hpc
        subst this
        match st, ls, hI with
        | [], [.inr (.inr (.inl (k', 0, 5)))], hI =>
          obtain ⟨rfl, hI⟩ := hI
          exact Rd_scanNumber_p5 k σ0 hp n σ hH hI
      exact False.elim hI
/-- the reader stands at the token behind p -/
def RS (σ : Hp) (B : Tp) (p : Nat) : Prop := tpX σ = B ∧ RT σ ∧ p ≤ B.2 ∧ σ 1 5 = (tK B p : Nat) ∧ σ 1 6 = (tS B p : Nat) ∧ σ 1 4 = (tN B p : Nat) ∧ (tK B p = 1 → σ 1 7 = tV B p) ∧ (tK B p = 2 → σ 1 8 = tV B p) ∧ (tK B p = 3 → σ 1 9 = tV B p)
def Rd_advance_pre (k : Nat) (σ : Hp) : Prop := k = 1 ∧ RT σ ∧ 0 ≤ σ 1 4 ∧ σ 1 4 ≤ σ 1 1
def Rd_advance_post (_k : Nat) (σ σ' : Hp) : Prop := Fr [1] σ σ' ∧ σ' 1 2 = σ 1 2 ∧ σ' 1 3 = σ 1 3 ∧ σ' 1 1 = σ 1 1 ∧ RS σ' (tpX σ) (σ 1 4).toNat
def Rd_advance_I5 (_k : Nat) (σ0 : Hp) (m : Nat) (v1 : Int) (σ : Hp) : Prop := ∃ v : Nat, v1 = v ∧ σ = σ0 ∧ m = 1600 - v ∧ v ≤ (tpX σ0).2 ∧ (σ0 1 4).toNat ≤ v ∧ ∀ i, (σ0 1 4).toNat ≤ i → i < v → bW (tpX σ0) i = true
def Rd_advance_bk : List (Nat × List Item) := [(0, [(.aload_n 0, 1, [], []), (.getfield 30, 3, [5, 4, 0, 0, 0, 0], []), (.istore_n 1, 1, [], [])]),
  (5, [(.iload_n 1, 1, [], []), (.aload_n 0, 1, [], []), (.getfield 19, 3, [5, 1, 0, 0, 0, 0], []), (.if_icmp .ge 31, 3, [41], []), (.aload_n 0, 1, [], []), (.getfield 11, 3, [5, 0, 4, 1, 2, 1600], []), (.iload_n 1, 1, [], []), (.baload, 1, [], []), (.bipush 32, 2, [], []), (.if_icmp .eq 14, 3, [35], []), (.aload_n 0, 1, [], []), (.getfield 11, 3, [5, 0, 4, 1, 2, 1600], []), (.iload_n 1, 1, [], []), (.baload, 1, [], []), (.bipush 10, 2, [], []), (.if_icmp .ne 9, 3, [41], [])]),
  (35, [(.iinc 1 1, 3, [], []), (.goto (-33), 3, [5], [])]),
  (41, [(.aload_n 0, 1, [], []), (.iload_n 1, 1, [], []), (.putfield 224, 3, [5, 6, 0, 0, 0, 0], []), (.aload_n 0, 1, [], []), (.iload_n 1, 1, [], []), (.putfield 30, 3, [5, 4, 0, 0, 0, 0], []), (.iload_n 1, 1, [], []), (.aload_n 0, 1, [], []), (.getfield 19, 3, [5, 1, 0, 0, 0, 0], []), (.if_icmp .lt 11, 3, [67], []), (.aload_n 0, 1, [], []), (.iconst 0, 1, [], []), (.putfield 36, 3, [5, 5, 0, 0, 0, 0], []), (.goto 76, 3, [140], [])]),
  (67, [(.aload_n 0, 1, [], []), (.iload_n 1, 1, [], []), (.invokevirtual 227, 3, [0], []), (.ifCond .eq 10, 3, [82], []), (.aload_n 0, 1, [], []), (.invokevirtual 230, 3, [1], []), (.goto 61, 3, [140], [])]),
  (82, [(.aload_n 0, 1, [], []), (.iload_n 1, 1, [], []), (.invokevirtual 233, 3, [2], []), (.ifCond .eq 10, 3, [97], []), (.aload_n 0, 1, [], []), (.invokevirtual 236, 3, [3], []), (.goto 46, 3, [140], [])]),
  (97, [(.aload_n 0, 1, [], []), (.aload_n 0, 1, [], []), (.getfield 11, 3, [5, 0, 4, 1, 2, 1600], []), (.iload_n 1, 1, [], []), (.baload, 1, [], []), (.sipush 255, 3, [], []), (.iand, 1, [], []), (.i2c, 1, [], []), (.putfield 207, 3, [5, 9, 3, 0, 0, 0], []), (.aload_n 0, 1, [], []), (.ldc 239, 2, [1], []), (.aload_n 0, 1, [], []), (.getfield 207, 3, [5, 9, 3, 0, 0, 0], []), (.invokevirtual 241, 3, [4], []), (.ifCond .lt 7, 3, [129], []), (.iconst 3, 1, [], []), (.goto 4, 3, [130], [])]),
  (129, [(.iconst 4, 1, [], [])]),
  (130, [(.putfield 36, 3, [5, 5, 0, 0, 0, 0], []), (.aload_n 0, 1, [], []), (.iload_n 1, 1, [], []), (.iconst 1, 1, [], []), (.iadd, 1, [], []), (.putfield 30, 3, [5, 4, 0, 0, 0, 0], [])]),
  (140, [(.return_, 1, [], [])])]
def Rd_advance_cl : List (Instr × Nat) := [(.invokevirtual 227, 0), (.invokevirtual 230, 1), (.invokevirtual 233, 2), (.invokevirtual 236, 3), (.invokevirtual 241, 4)]
set_option maxRecDepth 20000 in
theorem Rd_advance_ck : Rd_advance_bk.all (fun b => ax_chB 5 2 cX5_advance Rd_advance_cl b.1 b.2) = true := by decide +kernel
def Rd_advance_cs : Ct := (1, 6, 0, (0, 0), fun as σ => (match as with
    | [.inr (.inr (.inl (k, 0, 5)))] => Rd_advance_pre k σ
    | _ => False), fun as σ r σ' => (match as with
    | [.inr (.inr (.inl (k, 0, 5)))] => Rd_advance_post k σ σ'
    | _ => False))
theorem Rd_advance_w : ∀ w ∈ ([.instanceMethod yX5_advance, .selects yX5_advance.cls yX5_advance yX5_advance, .initialized yX5_advance.cls, .code yX5_advance cX5_advance 2 none] : List Cond), w ∈ ax_tb := ax_w4 (ax_m2 167 (by decide +kernel) rfl) (ax_m2 168 (by decide +kernel) rfl) (ax_m1 2 (by decide +kernel) rfl) (ax_m2 169 (by decide +kernel) rfl)
theorem Rd_advance_ds : yX5_advance.cls ≠ "java/lang/invoke/MethodHandle" ∧ yX5_advance.cls ≠ "java/lang/invoke/VarHandle" ∧ (parseMethodDescriptor yX5_advance.desc).map (fun d => d.parameters.length) = some 0 := by decide +kernel
def Rd_advance_vc : Prop := ∀ (k : Nat) (σ : Hp), ax_H σ → Rd_advance_pre k σ →
  ∃ n' : Nat, k = k ∧ Rd_advance_I5 k σ n' (σ k 4) σ
def Rd_advance_vc5 : Prop := ∀ (k : Nat) (σ0 : Hp), Rd_advance_pre k σ0 → ∀ (n : Nat) (v1 : Int) (σ : Hp), ax_H σ → Rd_advance_I5 k σ0 n v1 σ →
  (σ k 1 ≤ v1 →
    ∀ σ1 : Hp, σ1 = hp σ k 6 v1 →
    ∀ σ2 : Hp, σ2 = hp σ1 k 4 v1 →
    (v1 < σ2 k 1 →
      Rd_isLetter_pre k v1 σ2 ∧
      ∀ (r4 : Int) (σ3 : Hp), Rd_isLetter_post k v1 σ2 r4 σ3 →
      (r4 = 0 →
        Rd_isDigit_pre k v1 σ3 ∧
        ∀ (r6 : Int) (σ5 : Hp), Rd_isDigit_post k v1 σ3 r6 σ5 →
        (r6 = 0 →
          (0 ≤ v1 ∧ v1 < 1600) ∧
          (0 ≤ iChar (iAnd (σ5 (k + 1) v1.toNat) 255) ∧ iChar (iAnd (σ5 (k + 1) v1.toNat) 255) ≤ 65535) ∧
          ∀ σ7 : Hp, σ7 = hp σ5 k 9 (iChar (iAnd (σ5 (k + 1) v1.toNat) 255)) →
          Js_indexOf1_pre 1000 (σ7 k 9) σ7 ∧
          ∀ (r9 : Int) (σ8 : Hp), Js_indexOf1_post 1000 (σ7 k 9) σ7 r9 σ8 →
          (r9 < 0 →
            ∀ σ10 : Hp, σ10 = hp σ8 k 5 4 →
            ∀ σ11 : Hp, σ11 = hp σ10 k 4 (wr (v1 + 1)) →
            Rd_advance_post k σ0 σ11) ∧
          (¬ (r9 < 0) →
            ∀ σ12 : Hp, σ12 = hp σ8 k 5 3 →
            ∀ σ13 : Hp, σ13 = hp σ12 k 4 (wr (v1 + 1)) →
            Rd_advance_post k σ0 σ13)) ∧
        (¬ (r6 = 0) →
          Rd_scanNumber_pre k σ5 ∧
          ∀ σ14 : Hp, Rd_scanNumber_post k σ5 σ14 →
          Rd_advance_post k σ0 σ14)) ∧
      (¬ (r4 = 0) →
        Rd_scanWord_pre k σ3 ∧
        ∀ σ15 : Hp, Rd_scanWord_post k σ3 σ15 →
        Rd_advance_post k σ0 σ15)) ∧
    (¬ (v1 < σ2 k 1) →
      ∀ σ16 : Hp, σ16 = hp σ2 k 5 0 →
      Rd_advance_post k σ0 σ16)) ∧
  (¬ (σ k 1 ≤ v1) →
    (0 ≤ v1 ∧ v1 < 1600) ∧
    (σ (k + 1) v1.toNat = 32 →
      ∃ n' : Nat, n' < n ∧ k = k ∧ Rd_advance_I5 k σ0 n' (wr (v1 + 1)) σ) ∧
    (¬ (σ (k + 1) v1.toNat = 32) →
      (0 ≤ v1 ∧ v1 < 1600) ∧
      (¬ σ (k + 1) v1.toNat = 10 →
        ∀ σ17 : Hp, σ17 = hp σ k 6 v1 →
        ∀ σ18 : Hp, σ18 = hp σ17 k 4 v1 →
        (v1 < σ18 k 1 →
          Rd_isLetter_pre k v1 σ18 ∧
          ∀ (r20 : Int) (σ19 : Hp), Rd_isLetter_post k v1 σ18 r20 σ19 →
          (r20 = 0 →
            Rd_isDigit_pre k v1 σ19 ∧
            ∀ (r22 : Int) (σ21 : Hp), Rd_isDigit_post k v1 σ19 r22 σ21 →
            (r22 = 0 →
              (0 ≤ v1 ∧ v1 < 1600) ∧
              (0 ≤ iChar (iAnd (σ21 (k + 1) v1.toNat) 255) ∧ iChar (iAnd (σ21 (k + 1) v1.toNat) 255) ≤ 65535) ∧
              ∀ σ23 : Hp, σ23 = hp σ21 k 9 (iChar (iAnd (σ21 (k + 1) v1.toNat) 255)) →
              Js_indexOf1_pre 1000 (σ23 k 9) σ23 ∧
              ∀ (r25 : Int) (σ24 : Hp), Js_indexOf1_post 1000 (σ23 k 9) σ23 r25 σ24 →
              (r25 < 0 →
                ∀ σ26 : Hp, σ26 = hp σ24 k 5 4 →
                ∀ σ27 : Hp, σ27 = hp σ26 k 4 (wr (v1 + 1)) →
                Rd_advance_post k σ0 σ27) ∧
              (¬ (r25 < 0) →
                ∀ σ28 : Hp, σ28 = hp σ24 k 5 3 →
                ∀ σ29 : Hp, σ29 = hp σ28 k 4 (wr (v1 + 1)) →
                Rd_advance_post k σ0 σ29)) ∧
            (¬ (r22 = 0) →
              Rd_scanNumber_pre k σ21 ∧
              ∀ σ30 : Hp, Rd_scanNumber_post k σ21 σ30 →
              Rd_advance_post k σ0 σ30)) ∧
          (¬ (r20 = 0) →
            Rd_scanWord_pre k σ19 ∧
            ∀ σ31 : Hp, Rd_scanWord_post k σ19 σ31 →
            Rd_advance_post k σ0 σ31)) ∧
        (¬ (v1 < σ18 k 1) →
          ∀ σ32 : Hp, σ32 = hp σ18 k 5 0 →
          Rd_advance_post k σ0 σ32)) ∧
      (¬ (¬ σ (k + 1) v1.toNat = 10) →
        ∃ n' : Nat, n' < n ∧ k = k ∧ Rd_advance_I5 k σ0 n' (wr (v1 + 1)) σ)))
theorem Rd_advance_p : Rd_advance_vc := by
  intro k σ hH hp
  obtain ⟨rfl, hT, h0, h1⟩ := hp
  have hn := hT.n
  exact ⟨1600 - (σ 1 4).toNat, rfl, (σ 1 4).toNat, by omega, rfl, rfl, by omega, Nat.le_refl _, fun i h1 h2 => absurd h2 (by omega)⟩
theorem chr255 : ∀ n : Nat, n < 256 → iChar (iAnd ((n : Int) - 128) 255) = ((n : Int) - 128) % 256 := by decide +kernel
theorem chr_b {v : Int} (h : -128 ≤ v ∧ v ≤ 127) : iChar (iAnd v 255) = v % 256 := by
  have := chr255 (v + 128).toNat (by omega)
  rw [show (((v + 128).toNat : Nat) : Int) - 128 = v by omega] at this
  exact this
theorem Rd_advance_p5 : Rd_advance_vc5 := by
  intro k σ0 hp m v1 σ hH hI
  obtain ⟨rfl, hT, h0, h1⟩ := hp
  obtain ⟨v, rfl, rfl, rfl, hvl, hqv, hr⟩ := hI
  have hn := hT.n
  have hb := H_tape hH v
  by_cases hw : bW (tpX σ) v = true
  · have hwt := bW_t.mp hw
    rw [tpX_at hwt.1] at hwt
    have lp : ∃ n' : Nat, n' < 1600 - v ∧ (1 : Nat) = 1 ∧ Rd_advance_I5 1 σ n' (wr ((v : Int) + 1)) σ := by
      refine ⟨1600 - (v + 1), by omega, rfl, v + 1, by rw [wr1 (by omega) (by omega)]; simp, rfl, rfl, by omega, by omega, fun i i1 i2 => ?_⟩
      by_cases e : i = v
      · rw [e]; exact hw
      · exact hr i i1 (by omega)
    refine ⟨fun h => absurd h (by omega), fun h => ⟨⟨by omega, by omega⟩, fun _ => lp, fun h2 => ⟨⟨by omega, by omega⟩, fun h3 => absurd hwt.2 ?_, fun _ => lp⟩⟩⟩
    rw [Int.toNat_natCast] at h2 h3
    exact fun z => z.elim h2 h3
  · have hwf : bW (tpX σ) v = false := by
      cases z : bW (tpX σ) v with
      | false => rfl
      | true => exact absurd z hw
    have e : tS (tpX σ) (σ 1 4).toNat = v := (run_is bW_lt (by omega) hqv hr hwf).symm
    have hnw : v < (tpX σ).2 → ¬ σ 2 v = 32 ∧ ¬ σ 2 v = 10 := fun z => ⟨fun y => hw (bW_t.mpr ⟨z, Or.inl (by rw [tpX_at z]; exact y)⟩), fun y => hw (bW_t.mpr ⟨z, Or.inr (by rw [tpX_at z]; exact y)⟩)⟩
    refine ⟨fun h => ?_, fun h => ⟨⟨by omega, by omega⟩, fun h2 => absurd h2 (by rw [Int.toNat_natCast]; exact (hnw (by omega)).1), fun h2 => ⟨⟨by omega, by omega⟩, fun h3 => ?_, fun h3 => absurd (by rw [Int.toNat_natCast]; exact (hnw (by omega)).2) h3⟩⟩⟩
    all_goals
      rintro σ1 rfl σ2 rfl
      have hf2 : Fr [1] σ (hp (hp σ 1 6 v) 1 4 v) := Fr.hp (Fr.hp Fr.rf (by simp)) (by simp)
      have hB2 : tpX (hp (hp σ 1 6 v) 1 4 v) = tpX σ := tpX_eq (by rw [hp_r2 (by omega), hp_r2 (by omega)]) (by rw [hp_ne (by decide), hp_ne (by decide)])
      have h11 : hp (hp σ 1 6 v) 1 4 (v : Int) 1 1 = σ 1 1 := by rw [hp_r2 (by omega), hp_r2 (by omega)]
      have h12 : hp (hp σ 1 6 v) 1 4 (v : Int) 1 2 = σ 1 2 := by rw [hp_r2 (by omega), hp_r2 (by omega)]
      have h13 : hp (hp σ 1 6 v) 1 4 (v : Int) 1 3 = σ 1 3 := by rw [hp_r2 (by omega), hp_r2 (by omega)]
      have h14 : hp (hp σ 1 6 v) 1 4 (v : Int) 1 4 = (v : Int) := hp_r1
      have h16 : hp (hp σ 1 6 v) 1 4 (v : Int) 1 6 = (v : Int) := by rw [hp_r2 (by omega), hp_r1]
      have h2v : hp (hp σ 1 6 v) 1 4 (v : Int) 2 = σ 2 := by rw [hp_ne (by decide), hp_ne (by decide)]
      generalize hp (hp σ 1 6 v) 1 4 (v : Int) = σ2 at *
      have hT2 : RT σ2 := by unfold RT; rw [h11]; exact hT
      rw [h11]
      refine ⟨fun g => ⟨⟨rfl, hT2⟩, ?_⟩, fun g => ?_⟩
      · rintro r4 σ3 ⟨rfl, rfl⟩
        rw [hB2, Int.toNat_natCast]
        refine ⟨fun g2 => ⟨⟨rfl, hT2⟩, ?_⟩, fun g2 => ?_⟩
        · have hnl : ¬ bL (tpX σ) v = true := fun z => by rw [if_pos ⟨by omega, z⟩] at g2; cases g2
          rintro r6 σ5 ⟨rfl, rfl⟩
          rw [hB2, Int.toNat_natCast, show (1 + 1 : Nat) = 2 from rfl, h2v, chr_b hb]
          refine ⟨fun g3 => ⟨⟨by omega, by omega⟩, ⟨by omega, by omega⟩, ?_⟩, fun g3 => ?_⟩
          · have hnd : ¬ bD (tpX σ) v = true := fun z => by rw [if_pos ⟨by omega, z⟩] at g3; cases g3
            rintro σ7 rfl
            rw [hp_r1]
            refine ⟨⟨by omega, by omega⟩, ?_⟩
            rintro r9 σ8 ⟨rfl, hix⟩
            rw [wr1 (by omega) (by omega)]
            have hvs : tV (tpX σ) (σ 1 4).toNat = σ 2 v % 256 := by
              unfold tV; rw [e, if_neg hnl, if_neg hnd, tpX_at (by omega)]
            have hnx : tN (tpX σ) (σ 1 4).toNat = v + 1 := by
              unfold tN; rw [e, if_neg (by omega), if_neg hnl, if_neg hnd]
            have fin : ∀ c : Nat, tK (tpX σ) (σ 1 4).toNat = c → (c = 3 ∨ c = 4) → Rd_advance_post 1 σ (hp (hp (hp σ5 1 9 (σ 2 v % 256)) 1 5 c) 1 4 ((v : Int) + 1)) := by
              intro c hc hc2
              refine ⟨Fr.hp (Fr.hp (Fr.hp hf2 (by simp)) (by simp)) (by simp), by simp [hp_rd, h12], by simp [hp_rd, h13], by simp [hp_rd, h11], ?_⟩
              refine ⟨?_, ?_, by omega, ?_, ?_, ?_, ?_, ?_, ?_⟩
              · rw [tpX_eq (σ := σ5) (by simp [hp_rd]) (by rw [hp_ne (by decide), hp_ne (by decide), hp_ne (by decide)])]; exact hB2
              · unfold RT; rw [hp_r2 (by omega), hp_r2 (by omega), hp_r2 (by omega), h11]; exact hT
              · rw [hc]; simp [hp_rd]
              · rw [e]; simp [hp_rd, h16]
              · rw [hnx]; simp [hp_rd]
              · intro z; omega
              · intro z; omega
              · intro z; rw [hvs]; simp [hp_rd]
            constructor
            · rintro g4 σ10 rfl σ11 rfl
              refine fin 4 ?_ (Or.inr rfl)
              unfold tK
              rw [e, if_neg (by omega), if_neg hnl, if_neg hnd, tpX_at (by omega), if_neg (fun z => by have := hix.mpr z; omega)]
            · rintro g4 σ10 rfl σ11 rfl
              refine fin 3 ?_ (Or.inl rfl)
              unfold tK
              rw [e, if_neg (by omega), if_neg hnl, if_neg hnd, tpX_at (by omega), if_pos (hix.mp (by omega))]
          · have hd : bD (tpX σ) v = true := by
              cases z : bD (tpX σ) v with
              | true => rfl
              | false => rw [if_neg (by rw [z]; simp)] at g3; exact absurd rfl g3
            refine ⟨⟨rfl, hT2, by rw [h14, h16], by rw [h16]; omega, by rw [h16, hB2, Int.toNat_natCast]; exact hd⟩, ?_⟩
            rintro σ14 ⟨k1, k2, k3, k4, k5⟩
            rw [h16, hB2, Int.toNat_natCast] at k3 k4 k5
            refine ⟨hf2.tr k1, by rw [k2 2 (by decide) (by decide) (by decide), h12], by rw [k2 3 (by decide) (by decide) (by decide), h13], by rw [k2 1 (by decide) (by decide) (by decide), h11], ?_⟩
            have hk : tK (tpX σ) (σ 1 4).toNat = if eD (tpX σ) v - v ≤ 4 ∧ bL (tpX σ) (eD (tpX σ) v) = false then 2 else 4 := by
              unfold tK; rw [e, if_neg (by omega), if_neg hnl, if_pos hd]
            refine ⟨?_, ?_, by omega, ?_, ?_, ?_, ?_, ?_, ?_⟩
            · rw [tpX_eq (σ := σ5) (k2 1 (by decide) (by decide) (by decide)) (k1 2 (by decide))]; exact hB2
            · unfold RT; rw [k2 1 (by decide) (by decide) (by decide), h11]; exact hT
            · rw [hk, k5]; split <;> rfl
            · rw [e, k2 6 (by decide) (by decide) (by decide), h16]
            · rw [k3]; unfold tN; rw [e, if_neg (by omega), if_neg hnl, if_pos hd]
            · intro z; rw [hk] at z; split at z <;> cases z
            · intro z; unfold tV; rw [e, if_neg hnl, if_pos hd, k4]
            · intro z; rw [hk] at z; split at z <;> cases z
        · have hl : bL (tpX σ) v = true := by
            cases z : bL (tpX σ) v with
            | true => rfl
            | false => rw [if_neg (by rw [z]; simp)] at g2; exact absurd rfl g2
          refine ⟨⟨rfl, hT2, by rw [h14, h16], by rw [h16]; omega, by rw [h16, hB2, Int.toNat_natCast]; exact hl⟩, ?_⟩
          rintro σ14 ⟨k1, k2, k3, k4, k5⟩
          rw [h16, hB2, Int.toNat_natCast] at k3 k4 k5
          refine ⟨hf2.tr k1, by rw [k2 2 (by decide) (by decide) (by decide), h12], by rw [k2 3 (by decide) (by decide) (by decide), h13], by rw [k2 1 (by decide) (by decide) (by decide), h11], ?_⟩
          have hk : tK (tpX σ) (σ 1 4).toNat = if eL (tpX σ) v - v ≤ 8 then 1 else 4 := by
            unfold tK; rw [e, if_neg (by omega), if_pos hl]
          refine ⟨?_, ?_, by omega, ?_, ?_, ?_, ?_, ?_, ?_⟩
          · rw [tpX_eq (σ := σ3) (k2 1 (by decide) (by decide) (by decide)) (k1 2 (by decide))]; exact hB2
          · unfold RT; rw [k2 1 (by decide) (by decide) (by decide), h11]; exact hT
          · rw [hk, k5]; split <;> rfl
          · rw [e, k2 6 (by decide) (by decide) (by decide), h16]
          · rw [k3]; unfold tN; rw [e, if_neg (by omega), if_pos hl]
          · intro z; unfold tV; rw [e, if_pos hl, k4]
          · intro z; rw [hk] at z; split at z <;> cases z
          · intro z; rw [hk] at z; split at z <;> cases z
      · rintro σ16 rfl
        refine ⟨Fr.hp hf2 (by simp), by simp [hp_rd, h12], by simp [hp_rd, h13], by simp [hp_rd, h11], ?_⟩
        have hk : tK (tpX σ) (σ 1 4).toNat = 0 := by unfold tK; rw [e, if_pos (by omega)]
        refine ⟨?_, ?_, by omega, ?_, ?_, ?_, ?_, ?_, ?_⟩
        · rw [tpX_eq (σ := σ2) (by simp [hp_rd]) (by rw [hp_ne (by decide)])]; exact hB2
        · unfold RT; rw [hp_r2 (by omega), h11]; exact hT
        · rw [hk]; simp [hp_rd]
        · rw [e]; simp [hp_rd, h16]
        · unfold tN; rw [e, if_pos (by omega)]; simp [hp_rd, h14]
        · intro z; omega
        · intro z; omega
        · intro z; omega
def Rd_advance_I : List AV → Hp → Nat → Nat → List AV → List AV → Hp → Prop := fun as σ0 pc n st ls σ => (match as with
    | [.inr (.inr (.inl (k, 0, 5)))] => (bif Nat.beq pc 5 then (match st, ls with
      | [], [.inr (.inr (.inl (k', 0, 5))), .inl v1] => k = k' ∧ Rd_advance_I5 k σ0 n v1 σ
      | _, _ => False) else False)
    | _ => False)
def Rd_advance_ct : Nat → Ct := fun n => match n with
  | 0 => Rd_isLetter_cs
  | 1 => Rd_scanWord_cs
  | 2 => Rd_isDigit_cs
  | 3 => Rd_scanNumber_cs
  | 4 => Js_indexOf1_cs
  | _ => Rd_advance_cs
set_option maxRecDepth 20000 in
set_option maxHeartbeats 4000000 in
theorem Rd_advance_met {l : Launch} {D : va_G} {ad : Nat → Nat} {ca : Nat → ClassId} {L : Nat} {fx : Nat → Int} : ax_MC l D ad ca L fx yX5_advance cX5_advance 2 none 5 Rd_advance_cs := by
  refine ax_met (oc := 5) (ct := Rd_advance_ct) (calls := Rd_advance_cl) (bs := Rd_advance_bk) (cut := fun pc => Nat.beq pc 5) (f := 11) (I := Rd_advance_I) (by decide) rfl rfl Rd_advance_ck (List.forall_mem_cons.mpr ⟨ax_cwV Rd_isLetter_met (by decide) (by decide) rfl (by decide) rfl (ax_m2 170 (by decide +kernel) rfl) Rd_isLetter_w rfl Rd_isLetter_ds, List.forall_mem_cons.mpr ⟨ax_cwV Rd_scanWord_met (by decide) (by decide) rfl (by decide) rfl (ax_m2 174 (by decide +kernel) rfl) Rd_scanWord_w rfl Rd_scanWord_ds, List.forall_mem_cons.mpr ⟨ax_cwV Rd_isDigit_met (by decide) (by decide) rfl (by decide) rfl (ax_m2 178 (by decide +kernel) rfl) Rd_isDigit_w rfl Rd_isDigit_ds, List.forall_mem_cons.mpr ⟨ax_cwV Rd_scanNumber_met (by decide) (by decide) rfl (by decide) rfl (ax_m2 182 (by decide +kernel) rfl) Rd_scanNumber_w rfl Rd_scanNumber_ds, List.forall_mem_cons.mpr ⟨ax_cwT Js_indexOf1_met (by decide) (by decide) rfl rfl (ax_m2 187 (by decide +kernel) rfl) Js_indexOf1_w rfl Js_indexOf1_ds, fun _ h => absurd h List.not_mem_nil⟩⟩⟩⟩⟩) ?_ ?_
  · intro as σ0 hp hH
    match as, hp with
    | [.inr (.inr (.inl (k, 0, 5)))], hp => exact ⟨rfl, Rd_advance_p k σ0 hH hp⟩
  · intro as σ0 hp n pc st ls σ hH hI
    match as, hp, hI with
    | [.inr (.inr (.inl (k, 0, 5)))], hp, hI =>
      rcases ax_bifE hI with ⟨hpc, hI⟩ | ⟨-, hI⟩
      · have := Nat.eq_of_beq_eq_true hpc
        subst this
        match st, ls, hI with
        | [], [.inr (.inr (.inl (k', 0, 5))), .inl v1], hI =>
          obtain ⟨rfl, hI⟩ := hI
          exact Rd_advance_p5 k σ0 hp n v1 σ hH hI
      exact False.elim hI
