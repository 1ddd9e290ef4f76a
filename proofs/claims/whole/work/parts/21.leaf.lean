-- LEAVES: Math, within
def Jm_min_pre (_ _ : Int) (_ : Hp) : Prop := True
def Jm_min_post (a b : Int) (σ : Hp) (r : Int) (σ' : Hp) : Prop := σ' = σ ∧ r = min a b
def Jm_min_cs : Ct := (2, 0, 1, (0, 0), fun as σ => (match as with
    | [.inl a1, .inl a2] => Jm_min_pre a1 a2 σ
    | _ => False), fun as σ r σ' => (match as with
    | [.inl a1, .inl a2] => Jm_min_post a1 a2 σ r σ'
    | _ => False))
theorem Jm_min_w : ∀ w ∈ ([.static yJ9_min_7cf53, .initialized yJ9_min_7cf53.cls, .code yJ9_min_7cf53 cJ9_min_7cf53 2 (some .int)] : List Cond), w ∈ ax_tb := ax_w3 (ax_m2 219 (by decide +kernel) rfl) (ax_m1 13 (by decide +kernel) rfl) (ax_m2 220 (by decide +kernel) rfl)
theorem Jm_min_ds : yJ9_min_7cf53.cls ≠ "java/lang/invoke/MethodHandle" ∧ yJ9_min_7cf53.cls ≠ "java/lang/invoke/VarHandle" ∧ (parseMethodDescriptor yJ9_min_7cf53.desc).map (fun d => d.parameters.length) = some 2 := by decide +kernel
def Jm_max_pre (_ _ : Int) (_ : Hp) : Prop := True
def Jm_max_post (a b : Int) (σ : Hp) (r : Int) (σ' : Hp) : Prop := σ' = σ ∧ r = max a b
def Jm_max_cs : Ct := (2, 0, 1, (0, 0), fun as σ => (match as with
    | [.inl a1, .inl a2] => Jm_max_pre a1 a2 σ
    | _ => False), fun as σ r σ' => (match as with
    | [.inl a1, .inl a2] => Jm_max_post a1 a2 σ r σ'
    | _ => False))
theorem Jm_max_w : ∀ w ∈ ([.static yJ9_max_7cf53, .initialized yJ9_max_7cf53.cls, .code yJ9_max_7cf53 cJ9_max_7cf53 2 (some .int)] : List Cond), w ∈ ax_tb := ax_w3 (ax_m2 216 (by decide +kernel) rfl) (ax_m1 13 (by decide +kernel) rfl) (ax_m2 217 (by decide +kernel) rfl)
theorem Jm_max_ds : yJ9_max_7cf53.cls ≠ "java/lang/invoke/MethodHandle" ∧ yJ9_max_7cf53.cls ≠ "java/lang/invoke/VarHandle" ∧ (parseMethodDescriptor yJ9_max_7cf53.desc).map (fun d => d.parameters.length) = some 2 := by decide +kernel
theorem ax_if32 {x y : Int} (hx : R32 x) (hy : R32 y) : (if Int32.ofInt x < Int32.ofInt y then Int32.ofInt y else Int32.ofInt x) = Int32.ofInt (max x y) := by
  by_cases h : x < y
  · rw [if_pos ((c_lt hx hy).mpr h), Int.max_eq_right (by omega)]
  · rw [if_neg (fun z => h ((c_lt hx hy).mp z)), Int.max_eq_left (by omega)]
theorem ax_cwMax {l : Launch} {D : va_G} {ad : Nat → Nat} {ca : Nat → ClassId} {L : Nat} {fx : Nat → Int} {oc d i : Nat} (hd : 1 ≤ d) (w1 : Cond.methodLink (ax_R oc) i yJ9_max_7cf53 ∈ ax_tb) : ax_CW l D ad ca L fx oc d (.invokestatic i) Jm_max_cs := by
  intro p e R s m args below meth c cells slots Q A cc nL C h1 h2 h3 h4 pc N st ls σ hdc hN h
  obtain ⟨as, rst, rfl, hlen, hcats, -, hpre, hq⟩ := ax_call_out h
  match as, hpre, hq, hlen with
  | [.inl x, .inl y], hpre, hq, hlen =>
    intro H locs la hP hD hS hH hst hls hn hl
    have hx : R32 x := hst (.inl x) (by simp)
    have hy : R32 y := hst (.inl y) (by simp)
    have hr : R32 (max x y) := by unfold R32 at *; omega
    refine va_mmax (rest := rst.map (ax_cv ad)) C.1 C.2.1 (C.2.2.1.trans hl.1.symm) C.2.2.2.1 (C.2.2.2.2.1 _ w1) (C.2.2.2.2.1 _ (Jm_max_w (.static Lib.Math.max.name) (List.mem_of_getElem? (i := 0) rfl))) (C.2.2.2.2.1 _ (Jm_max_w (.initialized "java/lang/Math") (List.mem_of_getElem? (i := 1) rfl))) (C.2.2.2.2.1 _ (Jm_max_w (.code Lib.Math.max.name Lib.Math.max.code 2 (some .int)) ?_)) (by omega) (by rw [ax_cats_eq]; omega) h3 h4 hdc ?_
    · exact List.mem_of_getElem? (i := 2) rfl
    · rw [ax_if32 hx hy]
      exact hN _ _ (hq (max x y) σ ⟨rfl, rfl⟩) H locs la hP hD hS hH (ok_c (v := .inl (max x y)) hr (fun v hv => hst v (by simp [hv]))) hls hn hl
theorem ax_if32m {x y : Int} (hx : R32 x) (hy : R32 y) : (if Int32.ofInt y < Int32.ofInt x then Int32.ofInt y else Int32.ofInt x) = Int32.ofInt (min x y) := by
  by_cases h : y < x
  · rw [if_pos ((c_lt hy hx).mpr h), Int.min_eq_right (by omega)]
  · rw [if_neg (fun z => h ((c_lt hy hx).mp z)), Int.min_eq_left (by omega)]
theorem ax_cwMin {l : Launch} {D : va_G} {ad : Nat → Nat} {ca : Nat → ClassId} {L : Nat} {fx : Nat → Int} {oc d i : Nat} (hd : 1 ≤ d) (w1 : Cond.methodLink (ax_R oc) i yJ9_min_7cf53 ∈ ax_tb) : ax_CW l D ad ca L fx oc d (.invokestatic i) Jm_min_cs := by
  intro p e R s m args below meth c cells slots Q A cc nL C h1 h2 h3 h4 pc N st ls σ hdc hN h
  obtain ⟨as, rst, rfl, hlen, hcats, -, hpre, hq⟩ := ax_call_out h
  match as, hpre, hq, hlen with
  | [.inl x, .inl y], hpre, hq, hlen =>
    intro H locs la hP hD hS hH hst hls hn hl
    have hx : R32 x := hst (.inl x) (by simp)
    have hy : R32 y := hst (.inl y) (by simp)
    have hr : R32 (min x y) := by unfold R32 at *; omega
    refine va_mmin (rest := rst.map (ax_cv ad)) C.1 C.2.1 (C.2.2.1.trans hl.1.symm) C.2.2.2.1 (C.2.2.2.2.1 _ w1) (C.2.2.2.2.1 _ (Jm_min_w (.static Lib.Math.min.name) (List.mem_of_getElem? (i := 0) rfl))) (C.2.2.2.2.1 _ (Jm_min_w (.initialized "java/lang/Math") (List.mem_of_getElem? (i := 1) rfl))) (C.2.2.2.2.1 _ (Jm_min_w (.code Lib.Math.min.name Lib.Math.min.code 2 (some .int)) ?_)) (by omega) (by rw [ax_cats_eq]; omega) h3 h4 hdc ?_
    · exact List.mem_of_getElem? (i := 2) rfl
    · rw [ax_if32m hx hy]
      exact hN _ _ (hq (min x y) σ ⟨rfl, rfl⟩) H locs la hP hD hS hH (ok_c (v := .inl (min x y)) hr (fun v hv => hst v (by simp [hv]))) hls hn hl
def wth (v m : Int) : Int := max 0 (min m v)
def Gh_within_pre (_ _ : Int) (_ : Hp) : Prop := True
def Gh_within_post (a b : Int) (σ : Hp) (r : Int) (σ' : Hp) : Prop := σ' = σ ∧ r = wth a b
def Gh_within_bk : List (Nat × List Item) := [(0, [(.iconst 0, 1, [], []), (.iload_n 1, 1, [], []), (.iload_n 0, 1, [], []), (.invokestatic 295, 3, [0], []), (.invokestatic 300, 3, [1], []), (.ireturn, 1, [], [])])]
def Gh_within_cl : List (Instr × Nat) := [(.invokestatic 295, 0), (.invokestatic 300, 1)]
set_option maxRecDepth 20000 in
theorem Gh_within_ck : Gh_within_bk.all (fun b => ax_chB 8 2 cX8_within Gh_within_cl b.1 b.2) = true := by decide +kernel
def Gh_within_cs : Ct := (2, 0, 1, (0, 0), fun as σ => (match as with
    | [.inl a1, .inl a2] => Gh_within_pre a1 a2 σ
    | _ => False), fun as σ r σ' => (match as with
    | [.inl a1, .inl a2] => Gh_within_post a1 a2 σ r σ'
    | _ => False))
theorem Gh_within_w : ∀ w ∈ ([.static yX8_within, .initialized yX8_within.cls, .code yX8_within cX8_within 2 (some .int)] : List Cond), w ∈ ax_tb := ax_w3 (ax_m3 157 (by decide +kernel) rfl) (ax_m1 1 (by decide +kernel) rfl) (ax_m3 158 (by decide +kernel) rfl)
theorem Gh_within_ds : yX8_within.cls ≠ "java/lang/invoke/MethodHandle" ∧ yX8_within.cls ≠ "java/lang/invoke/VarHandle" ∧ (parseMethodDescriptor yX8_within.desc).map (fun d => d.parameters.length) = some 2 := by decide +kernel
def Gh_within_vc : Prop := ∀ (a1 : Int) (a2 : Int) (σ : Hp), ax_H σ → Gh_within_pre a1 a2 σ →
  Jm_min_pre a2 a1 σ ∧
  ∀ (r2 : Int) (σ1 : Hp), Jm_min_post a2 a1 σ r2 σ1 →
  Jm_max_pre 0 r2 σ1 ∧
  ∀ (r4 : Int) (σ3 : Hp), Jm_max_post 0 r2 σ1 r4 σ3 →
  Gh_within_post a1 a2 σ r4 σ3
theorem Gh_within_p : Gh_within_vc := by
  intro a b σ hH hp
  refine ⟨trivial, ?_⟩
  rintro r1 σ1 ⟨rfl, rfl⟩
  refine ⟨trivial, ?_⟩
  rintro r2 σ2 ⟨rfl, rfl⟩
  exact ⟨rfl, rfl⟩
def Gh_within_I : List AV → Hp → Nat → Nat → List AV → List AV → Hp → Prop := fun as σ0 pc n st ls σ => (match as with
    | [.inl a1, .inl a2] => False
    | _ => False)
def Gh_within_ct : Nat → Ct := fun n => match n with
  | 0 => Jm_min_cs
  | 1 => Jm_max_cs
  | _ => Gh_within_cs
set_option maxRecDepth 20000 in
set_option maxHeartbeats 4000000 in
theorem Gh_within_met {l : Launch} {D : va_G} {ad : Nat → Nat} {ca : Nat → ClassId} {L : Nat} {fx : Nat → Int} : ax_MC l D ad ca L fx yX8_within cX8_within 2 (some .int) 2 Gh_within_cs := by
  refine ax_met (oc := 8) (ct := Gh_within_ct) (calls := Gh_within_cl) (bs := Gh_within_bk) (cut := fun pc => false) (f := 2) (I := Gh_within_I) (by decide) rfl rfl Gh_within_ck (List.forall_mem_cons.mpr ⟨ax_cwMin (by decide) (ax_m3 159 (by decide +kernel) rfl), List.forall_mem_cons.mpr ⟨ax_cwMax (by decide) (ax_m3 160 (by decide +kernel) rfl), fun _ h => absurd h List.not_mem_nil⟩⟩) ?_ ?_
  · intro as σ0 hp hH
    match as, hp with
    | [.inl a1, .inl a2], hp => exact ⟨rfl, Gh_within_p a1 a2 σ0 hH hp⟩
  · intro as σ0 hp n pc st ls σ hH hI
    match as, hp, hI with
    | [.inl a1, .inl a2], hp, hI => exact False.elim hI
