-- RETURNS, BLOCKS, LOOPS, METHODS
def ax_Rt (cs : Ct) (as : List AV) (σ0 : Hp) (v : Option AV) (σ : Hp) : Prop := match cs.2.2.1 with
  | 0 => (match v with
    | none => cs.2.2.2.2.2 as σ0 0 σ
    | _ => False)
  | 1 => (match v with
    | some (.inl x) => cs.2.2.2.2.2 as σ0 x σ
    | _ => False)
  | 2 => (match v with
    | some (.inl x) => (x = 0 ∨ x = 1) ∧ cs.2.2.2.2.2 as σ0 x σ
    | _ => False)
  | 3 => (match v with
    | some (.inr (.inr (.inl x))) => (x.2 = cs.2.2.2.1 ∧ x.2.1 ≤ 4) ∧ cs.2.2.2.2.2 as σ0 (x.1 : Int) σ
    | _ => False)
  | _ => (match v with
    | some (.inl x) => (-128 ≤ x ∧ x ≤ 127) ∧ cs.2.2.2.2.2 as σ0 x σ
    | _ => False)
def ax_rko (rk : Nat) (ret : Option FieldType) : Bool := match rk with
  | 0 => (match ret with
    | none => true
    | _ => false)
  | 1 => (match ret with
    | some .int => true
    | _ => false)
  | 2 => (match ret with
    | some .boolean => true
    | _ => false)
  | 3 => (match ret with
    | some (.object _) => true
    | _ => false)
  | _ => (match ret with
    | some .byte => true
    | _ => false)
def ax_find : List (Nat × List Item) → Nat → List Item
  | [], _ => []
  | b :: r, pc => bif Nat.beq b.1 pc then b.2 else ax_find r pc
def ax_wp (fx : Nat → Int) (ct : Nat → Ct) (Rt : Option AV → Hp → Prop) (bs : List (Nat × List Item)) (K : Nat → List AV → List AV → Hp → Prop) (cut : Nat → Bool) : Nat → Nat → List AV → List AV → Hp → Prop
  | 0, _, _, _, _ => False
  | f + 1, pc, st, ls, σ => ax_wpB fx ct (fun pc' st' ls' σ' => bif cut pc' then K pc' st' ls' σ' else ax_wp fx ct Rt bs K cut f pc' st' ls' σ') Rt pc (ax_find bs pc) st ls σ
section FLOYD
variable {p : Program} {l : Launch} {e : Env} {R : Room} {s : State} {m : MethodId} {args : Array Value} {below : List Frame} {meth : Method} {c : Code} {cells slots : Nat} {Q : State → Prop}
variable {D : va_G} {ad : Nat → Nat} {ca : Nat → ClassId} {A : Nat → Prop} {cc : ByteArray} {nL oc L : Nat} {fx : Nat → Int} {ct : Nat → Ct} {calls : List (Instr × Nat)} {K : Nat → List AV → List AV → Hp → Prop} {Rt : Option AV → Hp → Prop}
def ax_RetOk (p : Program) (l : Launch) (e : Env) (R : Room) (s : State) (m : MethodId) (args : Array Value) (below : List Frame) (meth : Method) (c : Code) (cells slots : Nat) (Q : State → Prop) (D : va_G) (ad : Nat → Nat) (ca : Nat → ClassId) (A : Nat → Prop) (cc : ByteArray) (nL L : Nat) (Rt : Option AV → Hp → Prop) : Prop :=
  (∀ pc ls σ x, decode cc pc = .ok (.ireturn, 1) → Rt (some (.inl x)) σ → ax_SW p l e R s m args below meth c cells slots Q D ad ca A nL L pc [.inl x] ls σ) ∧
  (∀ pc ls σ x, decode cc pc = .ok (.areturn, 1) → Rt (some (.inr (.inr (.inl x)))) σ → ax_SW p l e R s m args below meth c cells slots Q D ad ca A nL L pc [.inr (.inr (.inl x))] ls σ) ∧
  (∀ pc ls σ, decode cc pc = .ok (.return_, 1) → Rt none σ → ax_SW p l e R s m args below meth c cells slots Q D ad ca A nL L pc [] ls σ)
def ax_CallOk (p : Program) (l : Launch) (e : Env) (R : Room) (s : State) (m : MethodId) (args : Array Value) (below : List Frame) (meth : Method) (c : Code) (cells slots : Nat) (Q : State → Prop) (D : va_G) (ad : Nat → Nat) (ca : Nat → ClassId) (A : Nat → Prop) (cc : ByteArray) (nL L : Nat) (i : Instr) (cs : Ct) : Prop :=
  ∀ pc N st ls σ, decode cc pc = .ok (i, 3) → (∀ st' σ', N st' σ' → ax_SW p l e R s m args below meth c cells slots Q D ad ca A nL L (pc + 3) st' ls σ') → ax_call cs N st σ → ax_SW p l e R s m args below meth c cells slots Q D ad ca A nL L pc st ls σ
theorem bif_out {b : Bool} {P : Prop} (h : bif b then P else False) : b = true ∧ P := by
  cases b with
  | false => exact False.elim h
  | true => exact ⟨rfl, h⟩
theorem bif_outF {b : Bool} {P : Prop} (h : bif b then False else P) : b = false ∧ P := by
  cases b with
  | true => exact False.elim h
  | false => exact ⟨rfl, h⟩
theorem ax_ldI_out {v : AV} {P : Int → Prop} (h : ax_ldI v P) : ∃ x, v = .inl x ∧ P x := by
  rcases v with y | y | y | y
  · exact ⟨y, rfl, h⟩
  · exact False.elim h
  · exact False.elim h
  · exact False.elim h
theorem ax_ldL_out {v : AV} {P : Int → Prop} (h : ax_ldL v P) : ∃ x, v = .inr (.inl x) ∧ P x := by
  rcases v with y | y | y | y
  · exact False.elim h
  · exact ⟨y, rfl, h⟩
  · exact False.elim h
  · exact False.elim h
theorem ax_ldR_out {v : AV} {P : Nat × Nat × Nat → Prop} (h : ax_ldR v P) : ∃ x, v = .inr (.inr (.inl x)) ∧ P x := by
  rcases v with y | y | y | y
  · exact False.elim h
  · exact False.elim h
  · exact ⟨y, rfl, h⟩
  · exact False.elim h
theorem ax_sw_mono {K K' : Nat → Prop} {x : Int} (h : ∀ t, K t → K' t) : ∀ {tg : List (Int × Nat)}, ax_sw K x tg → ax_sw K' x tg := by
  intro tg
  induction tg with
  | nil => intro z; exact z
  | cons a r ih =>
    intro z
    cases r with
    | nil => exact h _ z
    | cons b r => exact ⟨fun y => h _ (z.1 y), fun y => ih (z.2 y)⟩
theorem ax_wt_mono {ty n k j : Nat} {v : AV} {σ : Hp} {P P' : Hp → Prop} (h : ∀ σ', P σ' → P' σ') (z : ax_wt ty n k j v σ P) : ax_wt ty n k j v σ P' := by
  unfold ax_wt at z ⊢
  match ty, z with
  | 0, z =>
    match v, z with
    | .inl x, z => exact fun σ' e => h _ (z σ' e)
  | 1, z =>
    match v, z with
    | .inl x, z => exact ⟨z.1, fun σ' e => h _ (z.2 σ' e)⟩
  | 2, z =>
    match v, z with
    | .inr (.inl x), z => exact fun σ' e => h _ (z σ' e)
  | 3, z =>
    match v, z with
    | .inl x, z => exact ⟨z.1, fun σ' e => h _ (z.2 σ' e)⟩
  | 5, z =>
    match v, z with
    | .inr (.inr (.inl (k', 0, n'))), z =>
      obtain ⟨a, b⟩ := bif_out z
      show (bif Nat.beq n' n then (∀ σ' : Hp, σ' = hp σ k j k' → P' σ') else False)
      rw [a]
      exact fun σ' e => h _ (b σ' e)
set_option maxHeartbeats 4000000 in
theorem sn_item (C : ax_Cx p s m args c D ad ca A cc nL oc L fx) (hret : ax_RetOk p l e R s m args below meth c cells slots Q D ad ca A cc nL L Rt)
    (hcall : ∀ q ∈ calls, ax_CallOk p l e R s m args below meth c cells slots Q D ad ca A cc nL L q.1 (ct q.2)) (hK : ∀ pc st ls σ, K pc st ls σ → ax_SW p l e R s m args below meth c cells slots Q D ad ca A nL L pc st ls σ)
    {N : List AV → List AV → Hp → Prop} {pc : Nat} {it : Item} (hN : ∀ st ls σ, N st ls σ → ax_SW p l e R s m args below meth c cells slots Q D ad ca A nL L (pc + it.2.1) st ls σ) (hch : ax_ch oc nL cc calls pc it = true)
    {st ls : List AV} {σ : Hp} (h : ax_wpI fx ct K Rt it N st ls σ) : ax_SW p l e R s m args below meth c cells slots Q D ad ca A nL L pc st ls σ := by
  obtain ⟨i, len, ns, tg⟩ := it
  unfold ax_ch at hch
  simp only [Bool.and_eq_true, decide_eq_true_eq] at hch
  obtain ⟨hd, hln, hc⟩ := hch
  have hlen : ax_sws i = false → len = ax_ln i := by
    intro z
    rw [z, Bool.false_or] at hln
    exact Nat.eq_of_beq_eq_true hln
  unfold ax_wpI at h
  cases i with
  | iconst x => have := hlen rfl; subst this; exact sn_iconst C hd (of_decide_eq_true hc) (hN _ _ _ h)
  | bipush x => have := hlen rfl; subst this; exact sn_bipush C hd (of_decide_eq_true hc) (hN _ _ _ h)
  | sipush x => have := hlen rfl; subst this; exact sn_sipush C hd (of_decide_eq_true hc) (hN _ _ _ h)
  | ldc i =>
    have := hlen rfl; subst this
    match ns, hc, h, hN with
    | [], hc, h, hN => exact sn_ldc C hd (of_decide_eq_true hc) (hN _ _ _ h)
    | a :: r, hc, h, hN => exact sn_ldcS C hd (of_decide_eq_true hc) (hN _ _ _ h)
  | ldc_w i => have := hlen rfl; subst this; exact sn_ldcw C hd (of_decide_eq_true hc) (hN _ _ _ h)
  | ldc2_w i => have := hlen rfl; subst this; exact sn_ldc2 C hd (of_decide_eq_true hc) (hN _ _ _ h)
  | lconst n => have := hlen rfl; subst this; exact sn_lconst C hd (of_decide_eq_true hc) (hN _ _ _ h)
  | iload k =>
    have := hlen rfl; subst this
    obtain ⟨x, hg, h2⟩ := ax_ldI_out h
    exact sn_iload C hd hg (hN _ _ _ h2)
  | iload_n k =>
    have := hlen rfl; subst this
    obtain ⟨x, hg, h2⟩ := ax_ldI_out h
    exact sn_iload_n C hd hg (hN _ _ _ h2)
  | aload k =>
    have := hlen rfl; subst this
    obtain ⟨x, hg, h2⟩ := ax_ldR_out h
    exact sn_aload C hd hg (hN _ _ _ h2)
  | aload_n k =>
    have := hlen rfl; subst this
    obtain ⟨x, hg, h2⟩ := ax_ldR_out h
    exact sn_aload_n C hd hg (hN _ _ _ h2)
  | lload_n k =>
    have := hlen rfl; subst this
    obtain ⟨x, hg, h2⟩ := ax_ldL_out h
    exact sn_lload_n C hd hg (hN _ _ _ h2)
  | istore k =>
    have := hlen rfl; subst this
    match st, h with
    | .inl x :: r, h => exact sn_istore C hd (of_decide_eq_true hc) (bif_outF h).1 (hN _ _ _ (bif_outF h).2)
  | istore_n k =>
    have := hlen rfl; subst this
    match st, h with
    | .inl x :: r, h => exact sn_istore_n C hd (of_decide_eq_true hc) (bif_outF h).1 (hN _ _ _ (bif_outF h).2)
  | astore k =>
    have := hlen rfl; subst this
    match st, h with
    | .inr (.inr (.inl x)) :: r, h => exact sn_astore C hd (of_decide_eq_true hc) (bif_outF h).1 (hN _ _ _ (bif_outF h).2)
  | astore_n k =>
    have := hlen rfl; subst this
    match st, h with
    | .inr (.inr (.inl x)) :: r, h => exact sn_astore_n C hd (of_decide_eq_true hc) (bif_outF h).1 (hN _ _ _ (bif_outF h).2)
  | iinc k n =>
    have := hlen rfl; subst this
    obtain ⟨x, hg, h2⟩ := ax_ldI_out h
    exact sn_iinc C hd (of_decide_eq_true hc).1 hg (hN _ _ _ h2)
  | iadd =>
    have := hlen rfl; subst this
    match st, h with
    | .inl y :: .inl x :: r, h => exact sn_iadd C hd (hN _ _ _ h)
  | isub =>
    have := hlen rfl; subst this
    match st, h with
    | .inl y :: .inl x :: r, h => exact sn_isub C hd (hN _ _ _ h)
  | imul =>
    have := hlen rfl; subst this
    match st, h with
    | .inl y :: .inl x :: r, h => exact sn_imul C hd (hN _ _ _ h)
  | idiv =>
    have := hlen rfl; subst this
    match st, h with
    | .inl y :: .inl x :: r, h => exact sn_idiv C hd h.1 (hN _ _ _ h.2)
  | irem =>
    have := hlen rfl; subst this
    match st, h with
    | .inl y :: .inl x :: r, h => exact sn_irem C hd h.1 (hN _ _ _ h.2)
  | ineg =>
    have := hlen rfl; subst this
    match st, h with
    | .inl x :: r, h => exact sn_ineg C hd (hN _ _ _ h)
  | iand =>
    have := hlen rfl; subst this
    match st, h with
    | .inl y :: .inl x :: r, h => exact sn_iand C hd (hN _ _ _ h)
  | ior =>
    have := hlen rfl; subst this
    match st, h with
    | .inl y :: .inl x :: r, h => exact sn_ior C hd (hN _ _ _ h)
  | ixor =>
    have := hlen rfl; subst this
    match st, h with
    | .inl y :: .inl x :: r, h => exact sn_ixor C hd (hN _ _ _ h)
  | ishl =>
    have := hlen rfl; subst this
    match st, h with
    | .inl y :: .inl x :: r, h => exact sn_ishl C hd (hN _ _ _ h)
  | ishr =>
    have := hlen rfl; subst this
    match st, h with
    | .inl y :: .inl x :: r, h => exact sn_ishr C hd (hN _ _ _ h)
  | iushr =>
    have := hlen rfl; subst this
    match st, h with
    | .inl y :: .inl x :: r, h => exact sn_iushr C hd (hN _ _ _ h)
  | i2b =>
    have := hlen rfl; subst this
    match st, h with
    | .inl x :: r, h => exact sn_i2b C hd (hN _ _ _ h)
  | i2c =>
    have := hlen rfl; subst this
    match st, h with
    | .inl x :: r, h => exact sn_i2c C hd (hN _ _ _ h)
  | i2l =>
    have := hlen rfl; subst this
    match st, h with
    | .inl x :: r, h => exact sn_i2l C hd (hN _ _ _ h)
  | lor =>
    have := hlen rfl; subst this
    match st, h with
    | .inr (.inl y) :: .inr (.inl x) :: r, h => exact sn_lor C hd (hN _ _ _ h)
  | lshl =>
    have := hlen rfl; subst this
    match st, h with
    | .inl y :: .inr (.inl x) :: r, h => exact sn_lshl C hd (hN _ _ _ h)
  | lcmp =>
    have := hlen rfl; subst this
    match st, h with
    | .inr (.inl y) :: .inr (.inl x) :: r, h => exact sn_lcmp C hd (hN _ _ _ h)
  | dup =>
    have := hlen rfl; subst this
    match st, h with
    | .inl x :: r, h => exact sn_dup C hd rfl (hN _ _ _ h)
    | .inr (.inr (.inl x)) :: r, h => exact sn_dup C hd rfl (hN _ _ _ h)
  | dup_x1 =>
    have := hlen rfl; subst this
    match st, h with
    | .inl x :: .inr (.inr (.inl y)) :: r, h => exact sn_dup_x1 C hd rfl rfl (hN _ _ _ h)
  | dup2 =>
    have := hlen rfl; subst this
    match st, h with
    | .inl x :: .inr (.inr (.inl y)) :: r, h => exact sn_dup2 C hd rfl rfl (hN _ _ _ h)
  | pop =>
    have := hlen rfl; subst this
    match st, h with
    | .inl x :: r, h => exact sn_pop (v := .inl x) C hd rfl (hN _ _ _ h)
  | goto off => have := hlen rfl; subst this; exact sn_goto C hd (of_decide_eq_true hc) (hK _ _ _ _ h)
  | ifCond cnd off =>
    have := hlen rfl; subst this
    match st, h with
    | .inl x :: r, h => exact sn_if C hd (of_decide_eq_true hc) (fun z => hK _ _ _ _ (h.1 z)) (fun z => hN _ _ _ (h.2 z))
  | if_icmp cnd off =>
    have := hlen rfl; subst this
    match st, h with
    | .inl y :: .inl x :: r, h => exact sn_icmp C hd (of_decide_eq_true hc) (fun z => hK _ _ _ _ (h.1 z)) (fun z => hN _ _ _ (h.2 z))
  | tableswitch dd lo hi offs =>
    match st, h with
    | .inl x :: r, h => exact sn_table C hd (of_decide_eq_true hc) (ax_sw_mono (fun t z => hK _ _ _ _ z) h)
  | lookupswitch dd ps =>
    match st, h with
    | .inl x :: r, h => exact sn_lookup C hd (of_decide_eq_true hc) (ax_sw_mono (fun t z => hK _ _ _ _ z) h)
  | getfield i =>
    have := hlen rfl; subst this
    match ns, st, hc, h, hN with
    | [ci, j, ty, o, t, n], .inr (.inr (.inl (k, 0, c1))) :: r, hc, h, hN =>
      obtain ⟨hb, h2⟩ := bif_out h
      have hcc := Nat.eq_of_beq_eq_true hb
      subst hcc
      exact sn_getfield C hd (of_decide_eq_true hc) (hN _ _ _ h2)
    | [0], .inr (.inr (.inl (k, 9, n))) :: r, hc, h, hN => exact sn_getf0 C hd (of_decide_eq_true hc) (hN _ _ _ h)
    | [1], .inr (.inr (.inl (k, 9, n))) :: r, hc, h, hN => exact sn_getf1 C hd (of_decide_eq_true hc) (hN _ _ _ h)
  | putfield i =>
    have := hlen rfl; subst this
    match ns, st, hc, h, hN with
    | [ci, j, ty, o, t, n], v :: .inr (.inr (.inl (k, 0, c1))) :: r, hc, h, hN =>
      obtain ⟨hb, h2⟩ := bif_out h
      have hcc := Nat.eq_of_beq_eq_true hb
      subst hcc
      exact sn_putfield C hd (of_decide_eq_true hc) (ax_wt_mono (fun σ' z => hN _ _ _ z) h2)
  | getstatic i =>
    have := hlen rfl; subst this
    match ns, hc, h, hN with
    | [0], hc, h, hN => exact sn_gets0 C hd (of_decide_eq_true hc) (hN _ _ _ h)
    | [1], hc, h, hN => exact sn_gets1 C hd (of_decide_eq_true hc) (hN _ _ _ h)
  | arraylength =>
    have := hlen rfl; subst this
    match st, h with
    | .inr (.inr (.inl (k, t, n))) :: r, h =>
      obtain ⟨hb, h2⟩ := bif_outF h
      rw [Bool.or_eq_false_iff] at hb
      exact sn_alen C hd (fun z => by subst z; simp at hb) (fun z => by subst z; simp at hb) (hN _ _ _ h2)
  | iaload =>
    have := hlen rfl; subst this
    match st, h with
    | .inl i :: .inr (.inr (.inl (k, t, n))) :: r, h =>
      obtain ⟨hb, h2⟩ := bif_out h
      rw [Bool.or_eq_true] at hb
      exact sn_iaload C hd (hb.imp Nat.eq_of_beq_eq_true Nat.eq_of_beq_eq_true) h2.1 (hN _ _ _ h2.2)
  | baload =>
    have := hlen rfl; subst this
    match st, h with
    | .inl i :: .inr (.inr (.inl (k, t, n))) :: r, h =>
      obtain ⟨hb, h2⟩ := bif_out h
      rw [Bool.or_eq_true, Bool.or_eq_true] at hb
      exact sn_baload C hd (hb.imp Nat.eq_of_beq_eq_true (fun z => z.imp Nat.eq_of_beq_eq_true Nat.eq_of_beq_eq_true)) h2.1 (hN _ _ _ h2.2)
  | laload =>
    have := hlen rfl; subst this
    match st, h with
    | .inl i :: .inr (.inr (.inl (k, t, n))) :: r, h =>
      obtain ⟨hb, h2⟩ := bif_out h
      rw [Bool.or_eq_true] at hb
      exact sn_laload C hd (hb.imp Nat.eq_of_beq_eq_true Nat.eq_of_beq_eq_true) h2.1 (hN _ _ _ h2.2)
  | iastore =>
    have := hlen rfl; subst this
    match st, h with
    | .inl x :: .inl i :: .inr (.inr (.inl (k, 1, n))) :: r, h => exact sn_iastore C hd h.1 (hN _ _ _ (h.2 _ rfl))
  | bastore =>
    have := hlen rfl; subst this
    match st, h with
    | .inl x :: .inl i :: .inr (.inr (.inl (k, 2, n))) :: r, h => exact sn_bastore2 C hd h.1 (hN _ _ _ (h.2 _ rfl))
    | .inl x :: .inl i :: .inr (.inr (.inl (k, 3, n))) :: r, h => exact sn_bastore3 C hd h.1 h.2.1 (hN _ _ _ (h.2.2 _ rfl))
  | lastore =>
    have := hlen rfl; subst this
    match st, h with
    | .inr (.inl x) :: .inl i :: .inr (.inr (.inl (k, 4, n))) :: r, h => exact sn_lastore C hd h.1 (hN _ _ _ (h.2 _ rfl))
  | invokevirtual i =>
    have := hlen rfl; subst this
    obtain ⟨q, hq, hb⟩ := List.any_eq_true.mp hc
    simp only [Bool.and_eq_true, decide_eq_true_eq] at hb
    have := hcall q hq
    rw [hb.1, Nat.eq_of_beq_eq_true hb.2] at this
    exact this pc _ st ls σ hd (fun st' σ' z => hN _ _ _ z) h
  | invokestatic i =>
    have := hlen rfl; subst this
    obtain ⟨q, hq, hb⟩ := List.any_eq_true.mp hc
    simp only [Bool.and_eq_true, decide_eq_true_eq] at hb
    have := hcall q hq
    rw [hb.1, Nat.eq_of_beq_eq_true hb.2] at this
    exact this pc _ st ls σ hd (fun st' σ' z => hN _ _ _ z) h
  | ireturn =>
    have := hlen rfl; subst this
    match st, h with
    | [.inl x], h => exact hret.1 pc ls σ x hd h
  | areturn =>
    have := hlen rfl; subst this
    match st, h with
    | [.inr (.inr (.inl x))], h => exact hret.2.1 pc ls σ x hd h
  | return_ =>
    have := hlen rfl; subst this
    match st, h with
    | [], h => exact hret.2.2 pc ls σ hd h
  | _ => exact False.elim h
theorem sn_block (C : ax_Cx p s m args c D ad ca A cc nL oc L fx) (hret : ax_RetOk p l e R s m args below meth c cells slots Q D ad ca A cc nL L Rt)
    (hcall : ∀ q ∈ calls, ax_CallOk p l e R s m args below meth c cells slots Q D ad ca A cc nL L q.1 (ct q.2)) (hK : ∀ pc st ls σ, K pc st ls σ → ax_SW p l e R s m args below meth c cells slots Q D ad ca A nL L pc st ls σ) :
    ∀ (b : List Item) (pc : Nat) (st ls : List AV) (σ : Hp), ax_chB oc nL cc calls pc b = true → ax_wpB fx ct K Rt pc b st ls σ → ax_SW p l e R s m args below meth c cells slots Q D ad ca A nL L pc st ls σ := by
  intro b
  induction b with
  | nil => intro pc st ls σ _ h; exact hK _ _ _ _ h
  | cons it r ih =>
    intro pc st ls σ hc h
    have hc' : (ax_ch oc nL cc calls pc it && ax_chB oc nL cc calls (pc + it.2.1) r) = true := hc
    rw [Bool.and_eq_true] at hc'
    exact sn_item C hret hcall hK (fun st ls σ z => ih _ st ls σ hc'.2 z) hc'.1 h
theorem ax_find_ok {bs : List (Nat × List Item)} {P : Nat → List Item → Prop} (h0 : ∀ pc, P pc []) (h : ∀ b ∈ bs, P b.1 b.2) (pc : Nat) : P pc (ax_find bs pc) := by
  induction bs with
  | nil => exact h0 pc
  | cons b r ih =>
    unfold ax_find
    cases hb : Nat.beq b.1 pc with
    | true =>
      have := Nat.eq_of_beq_eq_true hb
      subst this
      exact h b List.mem_cons_self
    | false => exact ih (fun b hb => h b (List.mem_cons_of_mem _ hb))
theorem sn_wp (C : ax_Cx p s m args c D ad ca A cc nL oc L fx) (hret : ax_RetOk p l e R s m args below meth c cells slots Q D ad ca A cc nL L Rt)
    (hcall : ∀ q ∈ calls, ax_CallOk p l e R s m args below meth c cells slots Q D ad ca A cc nL L q.1 (ct q.2)) (hK : ∀ pc st ls σ, K pc st ls σ → ax_SW p l e R s m args below meth c cells slots Q D ad ca A nL L pc st ls σ)
    {bs : List (Nat × List Item)} (hb : bs.all (fun b => ax_chB oc nL cc calls b.1 b.2) = true) {cut : Nat → Bool} :
    ∀ (f : Nat) (pc : Nat) (st ls : List AV) (σ : Hp), ax_wp fx ct Rt bs K cut f pc st ls σ → ax_SW p l e R s m args below meth c cells slots Q D ad ca A nL L pc st ls σ := by
  intro f
  induction f with
  | zero => intro pc st ls σ h; exact False.elim h
  | succ f ih =>
    intro pc st ls σ h
    refine sn_block C hret hcall (K := fun pc' st' ls' σ' => bif cut pc' then K pc' st' ls' σ' else ax_wp fx ct Rt bs K cut f pc' st' ls' σ') (fun pc' st' ls' σ' z => ?_) (ax_find bs pc) pc st ls σ ?_ h
    · cases hq : cut pc' with
      | true => rw [hq] at z; exact hK _ _ _ _ z
      | false => rw [hq] at z; exact ih _ _ _ _ z
    · exact ax_find_ok (P := fun pc b => ax_chB oc nL cc calls pc b = true) (fun _ => rfl) (fun b h => List.all_eq_true.mp hb b h) pc
/-- LOOPS: what holds at the cuts, with a number that falls -/
theorem sn_floyd (C : ax_Cx p s m args c D ad ca A cc nL oc L fx) (hret : ax_RetOk p l e R s m args below meth c cells slots Q D ad ca A cc nL L Rt)
    (hcall : ∀ q ∈ calls, ax_CallOk p l e R s m args below meth c cells slots Q D ad ca A cc nL L q.1 (ct q.2))
    {bs : List (Nat × List Item)} (hb : bs.all (fun b => ax_chB oc nL cc calls b.1 b.2) = true) {cut : Nat → Bool} {f : Nat} {I : Nat → Nat → List AV → List AV → Hp → Prop}
    (vc : ∀ n pc st ls σ, ax_H σ → I pc n st ls σ → ax_wp fx ct Rt bs (fun pc' st' ls' σ' => ∃ n', n' < n ∧ I pc' n' st' ls' σ') cut f pc st ls σ) :
    ∀ (n pc : Nat) (st ls : List AV) (σ : Hp), I pc n st ls σ → ax_SW p l e R s m args below meth c cells slots Q D ad ca A nL L pc st ls σ := by
  intro n
  induction n using Nat.strongRecOn with
  | ind n ih =>
    intro pc st ls σ hI H locs la hP hD hS hH
    refine sn_wp C hret hcall (K := fun pc' st' ls' σ' => ∃ n', n' < n ∧ I pc' n' st' ls' σ') ?_ hb f pc st ls σ (vc n pc st ls σ hH hI) H locs la hP hD hS hH
    rintro pc' st' ls' σ' ⟨n', h1, h2⟩
    exact ih n' h1 pc' st' ls' σ' h2
end FLOYD
