-- A METHOD OUT OF ITS CONDITIONS
def ax_loc (n : Nat) (as : List AV) : List AV := ax_ent as ++ List.replicate (n - (ax_ent as).length) (.inr (.inr (.inr ())))
theorem ax_ent_len (ad : Nat → Nat) (as : List AV) : (lg_sl (as.map (ax_cv ad))).length = (ax_ent as).length := by
  induction as with
  | nil => rfl
  | cons v r ih =>
    rcases v with x | x | x | x
    · have : lg_sl (List.map (ax_cv ad) (.inl x :: r)) = .val (.int (Int32.ofInt x)) :: lg_sl (List.map (ax_cv ad) r) := rfl
      rw [this, List.length_cons, ih]; rfl
    · have : lg_sl (List.map (ax_cv ad) (.inr (.inl x) :: r)) = .val (.long (Int64.ofInt x)) :: .second :: lg_sl (List.map (ax_cv ad) r) := rfl
      rw [this, List.length_cons, List.length_cons, ih]; rfl
    · have : lg_sl (List.map (ax_cv ad) (.inr (.inr (.inl x)) :: r)) = .val (.ref (ad x.1)) :: lg_sl (List.map (ax_cv ad) r) := rfl
      rw [this, List.length_cons, ih]; rfl
    · have : lg_sl (List.map (ax_cv ad) (.inr (.inr (.inr x)) :: r)) = .val .null :: lg_sl (List.map (ax_cv ad) r) := rfl
      rw [this, List.length_cons, ih]; rfl
theorem ax_ent_ok {L : Nat} (as : List AV) (h : ∀ v ∈ as, ax_okv L v) : ∀ v ∈ ax_ent as, ax_okv L v := by
  induction as with
  | nil => intro v hv; cases hv
  | cons a r ih =>
    have ih := ih (fun v hv => h v (List.mem_cons_of_mem _ hv))
    have ha := h a List.mem_cons_self
    rcases a with x | x | x | x
    · intro v hv; exact (List.mem_cons.mp hv).elim (fun e => by subst e; exact ha) (ih v)
    · intro v hv
      rcases List.mem_cons.mp hv with e | hv
      · subst e; exact ha
      · rcases List.mem_cons.mp hv with e | hv
        · subst e; trivial
        · exact ih v hv
    · intro v hv; exact (List.mem_cons.mp hv).elim (fun e => by subst e; exact ha) (ih v)
    · intro v hv; exact (List.mem_cons.mp hv).elim (fun e => by subst e; exact ha) (ih v)
def ax_CW (l : Launch) (D : va_G) (ad : Nat → Nat) (ca : Nat → ClassId) (L : Nat) (fx : Nat → Int) (oc d : Nat) (i : Instr) (cs : Ct) : Prop :=
  ∀ (p : Program) (e : Env) (R : Room) (s : State) (m : MethodId) (args : Array Value) (below : List Frame) (meth : Method) (c : Code) (cells slots : Nat) (Q : State → Prop) (A : Nat → Prop) (cc : ByteArray) (nL : Nat),
    ax_Cx p s m args c D ad ca A cc nL oc L fx → d ≤ R.frames → 40 * d ≤ R.locals → cells ≤ R.cells → slots ≤ R.slots → ax_CallOk p l e R s m args below meth c cells slots Q D ad ca A cc nL L i cs
section MET
variable {l : Launch} {D : va_G} {ad : Nat → Nat} {ca : Nat → ClassId} {L : Nat} {fx : Nat → Int}
theorem ax_cwV {oc d d' ci i n maxL : Nat} {cs : Ct} {y : MethodName} {bc : ByteArray} {ret : Option FieldType} (hM : ax_MC l D ad ca L fx y bc maxL ret d' cs) (hd : d' < d) (hmx : maxL ≤ 21) (hrc : cs.2.1 = ci + 1) (hci : ci < 10) (hy : y.cls = ax_R ci)
    (w1 : Cond.methodLink (ax_R oc) i y ∈ ax_tb) (w2 : ∀ w ∈ ([.instanceMethod y, .selects y.cls y y, .initialized y.cls, .code y bc maxL ret] : List Cond), w ∈ ax_tb) (hn1 : cs.1 = n + 1) (hds : y.cls ≠ "java/lang/invoke/MethodHandle" ∧ y.cls ≠ "java/lang/invoke/VarHandle" ∧ (parseMethodDescriptor y.desc).map (fun d => d.parameters.length) = some n) : ax_CW l D ad ca L fx oc d (.invokevirtual i) cs := by
  intro p e R s m args below meth c cells slots Q A cc nL C h1 h2 h3 h4 pc N st ls σ hdc hN h
  exact sn_callV C hM hrc hci hy w1 w2 hn1 hds (by omega) (by omega) h3 h4 hdc hN h
theorem ax_cwS {oc d d' i n maxL : Nat} {cs : Ct} {y : MethodName} {bc : ByteArray} {ret : Option FieldType} (hM : ax_MC l D ad ca L fx y bc maxL ret d' cs) (hd : d' < d) (hmx : maxL ≤ 21)
    (w1 : Cond.methodLink (ax_R oc) i y ∈ ax_tb) (w2 : ∀ w ∈ ([.static y, .initialized y.cls, .code y bc maxL ret] : List Cond), w ∈ ax_tb) (hn1 : cs.1 = n) (hds : y.cls ≠ "java/lang/invoke/MethodHandle" ∧ y.cls ≠ "java/lang/invoke/VarHandle" ∧ (parseMethodDescriptor y.desc).map (fun d => d.parameters.length) = some n) : ax_CW l D ad ca L fx oc d (.invokestatic i) cs := by
  intro p e R s m args below meth c cells slots Q A cc nL C h1 h2 h3 h4 pc N st ls σ hdc hN h
  exact sn_callS C hM w1 w2 hn1 hds (by omega) (by omega) h3 h4 hdc hN h
theorem ax_cwN {oc d d' i n maxL : Nat} {cs : Ct} {bc : ByteArray} {ret : Option FieldType} (hM : ax_MC l D ad ca L fx yX8_within bc maxL ret d' cs) (hd : d' < d) (hmx : maxL ≤ 21)
    (w1 : (oc = 1 ∧ i = 104) ∨ (oc = 7 ∧ i = 32)) (w2 : ∀ w ∈ ([.static yX8_within, .initialized yX8_within.cls, .code yX8_within bc maxL ret] : List Cond), w ∈ ax_tb) (hn1 : cs.1 = n) (hds : yX8_within.cls ≠ "java/lang/invoke/MethodHandle" ∧ yX8_within.cls ≠ "java/lang/invoke/VarHandle" ∧ (parseMethodDescriptor yX8_within.desc).map (fun d => d.parameters.length) = some n) : ax_CW l D ad ca L fx oc d (.invokestatic i) cs := by
  intro p e R s m args below meth c cells slots Q A cc nL C h1 h2 h3 h4 pc N st ls σ hdc hN h
  refine sn_callSN C hM ?_ w2 hn1 hds (by omega) (by omega) h3 h4 hdc hN h
  rcases w1 with ⟨rfl, rfl⟩ | ⟨rfl, rfl⟩
  · exact C.2.2.2.2.2.2.1.2.2.2.2.2.2.1
  · exact C.2.2.2.2.2.2.1.2.2.2.2.2.2.2
theorem ax_ret {p : Program} {e : Env} {R : Room} {s : State} {m : MethodId} {args : Array Value} {below : List Frame} {meth : Method} {c : Code} {cc : ByteArray} {nL oc sz : Nat} {cs : Ct} {as : List AV} {σ0 : Hp} {ret : Option FieldType}
    (C : ax_Cx p s m args c D ad ca (ax_A ad sz) cc nL oc L fx) (hr : meth.sig.returnType = ret) (hlocks : meth.locks = false) (hrk : ax_rko cs.2.2.1 ret = true) :
    ax_RetOk p l e R s m args below meth c 0 0 (MQ below (ax_Qc D ad ca cs as σ0 sz) args s 0 0 (ax_A ad sz)) D ad ca (ax_A ad sz) cc nL L (ax_Rt cs as σ0) := by
  obtain ⟨na, rc, rk, tn, pre, post⟩ := cs
  refine ⟨?_, ?_, ?_⟩
  · intro pc ls σ x hd hx H locs la hP hD hS hH hst hls hn hl
    have hok : R32 x := ok_h hst
    have hB : ∀ t : State, t.heap = H → s.WarmedH t.vm → ax_B D ad ca sz σ t := fun t ht hW => ⟨by rw [ht]; exact hP, ax_KK_moved hW.alike C.2.2.2.2.2.1, hD⟩
    match rk, hrk, hx with
    | 1, hrk, hx =>
      match ret, hrk, hr with
      | some .int, _, hr => exact W.iret C.1 C.2.1 hr (fun t ht hW => ⟨⟨_, (σ, x), rfl, ⟨rfl, hok, hx, hH⟩, hB t ht hW⟩, hS.F ht⟩) hS.2.2 hd
    | 2, hrk, hx =>
      match ret, hrk, hr with
      | some .boolean, _, hr => exact W.zret C.1 C.2.1 hr (by rcases hx.1 with e | e <;> subst e <;> rfl) (fun t ht hW => ⟨⟨_, (σ, x), rfl, ⟨rfl, hok, hx.2, hH⟩, hB t ht hW⟩, hS.F ht⟩) hS.2.2 hd
    | rk + 4, hrk, hx =>
      match ret, hrk, hr with
      | some .byte, _, hr =>
        refine W.zret C.1 C.2.1 hr ?_ (fun t ht hW => ⟨⟨_, (σ, x), rfl, ⟨rfl, hok, hx.2, hH⟩, hB t ht hW⟩, hS.F ht⟩) hS.2.2 hd
        show Value.int (Int32.ofInt x).toInt8.toInt32 = Value.int (Int32.ofInt x)
        have hx1 : -128 ≤ x ∧ x ≤ 127 := hx.1
        refine congrArg Value.int ?_
        rw [← Int32.toInt_inj, Int8.toInt_toInt32, Int32.toInt_toInt8, o32 hok]
        simp only [Int.bmod_def]
        omega
  · intro pc ls σ x hd hx H locs la hP hD hS hH hst hls hn hl
    have hB : ∀ t : State, t.heap = H → s.WarmedH t.vm → ax_B D ad ca sz σ t := fun t ht hW => ⟨by rw [ht]; exact hP, ax_KK_moved hW.alike C.2.2.2.2.2.1, hD⟩
    match rk, hrk, hx with
    | 3, hrk, hx =>
      match ret, hrk, hr with
      | some (.object nm), _, hr =>
        obtain ⟨k, t, n⟩ := x
        have hk := ax_ok_k (ok_h hst) hx.1.2
        exact W.aret C.1 C.2.1 hr (Or.inl ⟨_, rfl⟩) (Or.inr ⟨ad k, rfl⟩) (fun t ht hW => ⟨⟨(σ, k), ad k, rfl, ⟨hx.2, hH, by rw [hk]; exact hx.1.1, by rw [← hx.1.1]; exact hx.1.2⟩, rfl, hB t ht hW⟩, hS.F ht⟩) hS.2.2 hd
  · intro pc ls σ hd hx H locs la hP hD hS hH hst hls hn hl
    have hB : ∀ t : State, t.heap = H → s.WarmedH t.vm → ax_B D ad ca sz σ t := fun t ht hW => ⟨by rw [ht]; exact hP, ax_KK_moved hW.alike C.2.2.2.2.2.1, hD⟩
    match rk, hrk, hx with
    | 0, hrk, hx =>
      match ret, hrk, hr with
      | none, _, hr => exact W.vret C.1 C.2.1 hr (fun t ht hW => ⟨⟨σ, rfl, ⟨hx, hH⟩, hB t ht hW⟩, hS.F ht⟩) hS.2.2 hd
    | 1, _, hx => exact False.elim hx
    | 2, _, hx => exact False.elim hx
    | 3, _, hx => exact False.elim hx
    | rk + 4, _, hx => exact False.elim hx
/-- a method keeps its contract, if its conditions hold -/
theorem ax_met {y : MethodName} {cc : ByteArray} {maxL oc d f : Nat} {ret : Option FieldType} {cs : Ct} {ct : Nat → Ct} {calls : List (Instr × Nat)} {bs : List (Nat × List Item)} {cut : Nat → Bool} {I : List AV → Hp → Nat → Nat → List AV → List AV → Hp → Prop}
    (hpl : plainName y.cls = true) (hyc : y.cls = ax_R oc) (hrk : ax_rko cs.2.2.1 ret = true) (hb : bs.all (fun b => ax_chB oc maxL cc calls b.1 b.2) = true) (hcall : ∀ q ∈ calls, ax_CW l D ad ca L fx oc d q.1 (ct q.2))
    (vc0 : ∀ as σ0, cs.2.2.2.2.1 as σ0 → ax_H σ0 → Nat.ble (ax_ent as).length maxL = true ∧ ax_wp fx ct (ax_Rt cs as σ0) bs (fun pc' st' ls' σ' => ∃ n', I as σ0 pc' n' st' ls' σ') cut f 0 [] (ax_loc maxL as) σ0)
    (vc : ∀ as σ0, cs.2.2.2.2.1 as σ0 → ∀ n pc st ls σ, ax_H σ → I as σ0 pc n st ls σ → ax_wp fx ct (ax_Rt cs as σ0) bs (fun pc' st' ls' σ' => ∃ n', n' < n ∧ I as σ0 pc' n' st' ls' σ') cut f pc st ls σ) : ax_MC l D ad ca L fx y cc maxL ret d cs := by
  intro as σ0 sz hlen hpre hH0 hok
  refine Met.ofW (cc := cc) (maxL := maxL) (ret := ret) hpl rfl ?_
  intro p e s m args below meth c s₁ B hml hv
  obtain ⟨rfl, hsz, hP, hK, hD0, hF⟩ := hv
  have hts := atoms_spec (ws := Cond.code y cc maxL ret :: ax_tb) B.pre
  have hown : s.vm.findClass (ax_R oc) = some m.cls := by rw [← hyc]; exact findClass_of_methodNamed B.named
  subst hsz
  have hD : va_D (ax_A ad s.heap.size) (ax_wo ca ad σ0) := by rw [← ax_A_eq (ca := ca) (σ := σ0)]; exact hD0.self
  have C : ax_Cx p s m ((as.map (ax_cv ad)).toArray) c D ad ca (ax_A ad s.heap.size) cc maxL oc L fx := ⟨B.exec, B.bytes, hml, hown, fun w h => hts w (List.mem_cons_of_mem _ h), hK, hF, fun q h => Or.inr h⟩
  obtain ⟨hle, hw⟩ := vc0 as σ0 hpre hH0
  have hle' := Nat.le_of_ble_eq_true hle
  have hret := ax_ret (l := l) (e := e) (R := (headSpec (Cond.code y cc maxL ret :: ax_tb) (ax_rm d)).room) (below := below) (as := as) (σ0 := σ0) C B.returns B.notSynchronized hrk
  have hcall' : ∀ q ∈ calls, ax_CallOk p l e (headSpec (Cond.code y cc maxL ret :: ax_tb) (ax_rm d)).room s m ((as.map (ax_cv ad)).toArray) below meth c 0 0 (MQ below (ax_Qc D ad ca cs as σ0 s.heap.size) ((as.map (ax_cv ad)).toArray) s 0 0 (ax_A ad s.heap.size)) D ad ca (ax_A ad s.heap.size) cc maxL L q.1 (ct q.2) :=
    fun q hq => hcall q hq p e _ s m _ below meth c 0 0 _ _ cc maxL C (Nat.le_refl _) (Nat.le_refl _) (Nat.zero_le _) (Nat.zero_le _)
  have hfl := sn_floyd C hret hcall' hb (I := I as σ0) (f := f) (cut := cut) (fun n pc st ls σ hH hI => vc as σ0 hpre n pc st ls σ hH hI)
  have hsw := sn_wp C hret hcall' (K := fun pc' st' ls' σ' => ∃ n', I as σ0 pc' n' st' ls' σ') (fun pc st ls σ z => by obtain ⟨n', h⟩ := z; exact hfl n' pc st ls σ h) hb f 0 [] (ax_loc maxL as) σ0 hw
  have hl := lv_entry (as.map (ax_cv ad)) (n := maxL) (by rw [ax_ent_len]; exact hle')
  rw [lg_entry_eq]
  refine hsw s.heap [] _ hP hD va_S.rf hH0 (fun v hv => by cases hv) ?_ ?_ (ax_lv_ent hl)
  · intro v hv
    rcases List.mem_append.mp hv with h | h
    · exact ax_ent_ok as hok v h
    · rw [List.eq_of_mem_replicate h]; trivial
  · simp [ax_loc]; omega
end MET
