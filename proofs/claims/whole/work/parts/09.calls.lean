-- CONTRACTS, CALLS, RETURNS
def ax_rm (d : Nat) : Room := { frames := d, cells := 0, slots := 0, locals := 40 * d }
def ax_Pc (D : va_G) (ad : Nat → Nat) (ca : Nat → ClassId) (L : Nat) (fx : Nat → Int) (as : List AV) (σ : Hp) (sz : Nat) : Array Value → State → Prop :=
  va_Pc (as.map (ax_cv ad)) (fun U => U.heap.size = sz ∧ va_P D vwCl (ax_wo ca ad σ) U.heap ∧ ax_KK D ca U ∧ va_D (fun _ => True) (ax_wo ca ad σ) ∧ ax_Fo L fx ad (ax_A ad sz) U U.heap)
def ax_B (D : va_G) (ad : Nat → Nat) (ca : Nat → ClassId) (sz : Nat) (σ : Hp) (t : State) : Prop := va_P D vwCl (ax_wo ca ad σ) t.heap ∧ ax_KK D ca t ∧ va_D (ax_A ad sz) (ax_wo ca ad σ)
def ax_Qc (D : va_G) (ad : Nat → Nat) (ca : Nat → ClassId) (cs : Ct) (as : List AV) (σ : Hp) (sz : Nat) : Array Value → State → Outcome → State → Prop := match cs.2.2.1 with
  | 0 => va_Qv (S := Hp) (fun σ' => cs.2.2.2.2.2 as σ 0 σ' ∧ ax_H σ') (fun σ' t => ax_B D ad ca sz σ' t) (ax_A ad sz)
  | 3 => va_Qr (S := Hp × Nat) (fun u => cs.2.2.2.2.2 as σ (u.2 : Int) u.1 ∧ ax_H u.1 ∧ ax_kd u.2 = cs.2.2.2.1 ∧ cs.2.2.2.1.1 ≤ 4) (fun u a t => a = ad u.2 ∧ ax_B D ad ca sz u.1 t) (ax_A ad sz)
  | _ => va_Qi (S := Hp × Int) (fun r u => r = Int32.ofInt u.2 ∧ R32 u.2 ∧ cs.2.2.2.2.2 as σ u.2 u.1 ∧ ax_H u.1) (fun u t => ax_B D ad ca sz u.1 t) (ax_A ad sz)
/-- a method keeps a contract, d frames deep at most -/
def ax_MC (l : Launch) (D : va_G) (ad : Nat → Nat) (ca : Nat → ClassId) (L : Nat) (fx : Nat → Int) (y : MethodName) (bc : ByteArray) (maxL : Nat) (ret : Option FieldType) (d : Nat) (cs : Ct) : Prop :=
  ∀ (as : List AV) (σ : Hp) (sz : Nat), as.length = cs.1 → cs.2.2.2.2.1 as σ → ax_H σ → (∀ v ∈ as, ax_okv L v) → Met l y (Cond.code y bc maxL ret :: ax_tb) (ax_rm d) (ax_Pc D ad ca L fx as σ sz) (ax_Qc D ad ca cs as σ sz) 0 0 (ax_A ad sz)
theorem ax_goodIn {ws : List Cond} (h : ∀ w ∈ ws, w ∈ ax_tb) : GoodIn ax_tb ws := fun w hw => ⟨h w hw, good_of_word (ax_tb_good (h w hw))⟩
section CALLS
variable {p : Program} {l : Launch} {e : Env} {R : Room} {s : State} {m : MethodId} {args : Array Value} {below : List Frame} {meth : Method} {c : Code} {cells slots : Nat} {Q : State → Prop}
variable {D : va_G} {ad : Nat → Nat} {ca : Nat → ClassId} {A : Nat → Prop} {cc : ByteArray} {nL oc L : Nat} {fx : Nat → Int}
theorem ax_KK_moved {u U : State} (hvm : u.vm.Alike U.vm) (h : ax_KK D ca u) : ax_KK D ca U := ⟨va_K.moved hvm h.1, fun k h1 h2 => ⟨arrOfT_moved hvm (h.2 k h1 h2).1, (h.2 k h1 h2).2.moved hvm⟩⟩
/-- what lies outside is still there at a call -/
theorem ax_Fo_call {A' : Nat → Prop} {u U : State} {H0 H : Heap} (hF : ax_Fo L fx ad A u H0) (hq : ∀ a : Nat, a < H0.size → ¬ A a → H[a]? = H0[a]?) (hz : H0.size ≤ H.size) (hAA : ∀ q, A' q → A q) (hvm : u.vm.Alike U.vm)
    (hR : vk_R RX5 239 ";()<>=+-*/%" (ad 1000) U) (h1 : va_Nw (.methodLinkNest RX1 104 yX8_within "GreyHair") U) (h2 : va_Nw (.methodLinkNest RX7 32 yX8_within "GreyHair") U) : ax_Fo L fx ad A' U H := by
  obtain ⟨⟨xs, f1, f2, f3, f4, f5⟩, g1, g2, g3, g4, g5, -⟩ := hF
  exact ⟨⟨xs, f1, va_X.moved hvm (f2.kept (hq _ f4 f3)), fun z => f3 (hAA _ z), Nat.lt_of_lt_of_le f4 hz, f5⟩, ((va_Z.moved hvm g1).kept hq).narrow hAA, ((va_T.moved hvm g2).kept hq).narrow hAA, ((va_Z.moved hvm g3).kept hq).narrow hAA, hR, ((vk_S.moved hvm g5).kept hq).narrow hAA, h1, h2⟩
theorem ax_blind {as : List AV} {σ : Hp} {sz : Nat} : FrameBlind (ax_Pc D ad ca L fx as σ sz) := by
  intro a U g mk q
  obtain ⟨q0, q1, q2, q3, q4, q5⟩ := q
  refine ⟨q0, q1, q2, ax_KK_moved (u := U) (U := U.calling g mk a) (Vm.Alike.refl U.vm) q3, q4, ?_⟩
  refine ax_Fo_call (u := U) (H0 := U.heap) q5 (fun _ _ _ => rfl) (Nat.le_refl _) (fun _ h => h) (Vm.Alike.refl U.vm) ?_ ?_ ?_
  · exact vk_R.same (u := U) rfl q5.2.2.2.2.1
  · exact va_Nw.same rfl (u := U) rfl q5.2.2.2.2.2.2.1
  · exact va_Nw.same rfl (u := U) rfl q5.2.2.2.2.2.2.2
theorem ax_pre (C : ax_Cx p s m args c D ad ca A cc nL oc L fx) {as : List AV} {σ : Hp} {H : Heap} {locs : List Loc} (hP : va_P D vwCl (ax_wo ca ad σ) H) (hD : va_D A (ax_wo ca ad σ)) (hS : va_S A s.heap H locs) :
    ∀ U : State, U.heap = H → s.WarmedH U.vm → ax_Pc D ad ca L fx as σ H.size (as.map (ax_cv ad)).toArray U := by
  intro U hU hW
  obtain ⟨-, -, -, -, -, hK, hF, hA⟩ := C
  refine ⟨rfl, by rw [hU], by rw [hU]; exact hP, ax_KK_moved hW.alike hK, hD.weaken (fun _ _ _ _ => trivial), ?_⟩
  rw [hU]
  refine ax_Fo_call (u := s) (H0 := s.heap) hF hS.2.1 hS.1 ?_ hW.alike (vk_R.warm hW hF.2.2.2.2.1) (va_Nw.warmM hW hF.2.2.2.2.2.2.1) (va_Nw.warmM hW hF.2.2.2.2.2.2.2)
  rintro q (⟨k, hk, rfl⟩ | hq)
  · exact hD.2 k (ad k, ax_ce ca ad σ k) (ax_wo_at hk)
  · exact hA q (Nat.le_trans hS.1 hq)
theorem ax_free (C : ax_Cx p s m args c D ad ca A cc nL oc L fx) {σ : Hp} {H : Heap} {locs : List Loc} (hD : va_D A (ax_wo ca ad σ)) (hS : va_S A s.heap H locs) : ∀ q, ax_A ad H.size q → A q := by
  rintro q (⟨k, hk, rfl⟩ | hq)
  · exact hD.2 k (ad k, ax_ce ca ad σ k) (ax_wo_at hk)
  · exact C.2.2.2.2.2.2.2 q (Nat.le_trans hS.1 hq)
/-- behind a call, whatever its kind -/
theorem ax_after (C : ax_Cx p s m args c D ad ca A cc nL oc L fx) {cs : Ct} {as rst ls : List AV} {σ : Hp} {pc : Nat} {H : Heap} {locs : List Loc} {la : Array Slot} {st0 : List Value} {a : Array Value} {N : List AV → Hp → Prop}
    (hr : va_Run p l e R s m args below meth c H locs cells slots 0 0 (F0 m pc la st0) (rst.map (ax_cv ad)) (ax_Qc D ad ca cs as σ H.size a) (ax_A ad H.size))
    (hN : ∀ st' σ', N st' σ' → ax_SW p l e R s m args below meth c cells slots Q D ad ca A nL L (pc + 3) st' ls σ') (hq : ax_res cs.2.2.1 cs.2.2.2.1 (cs.2.2.2.2.2 as σ) N rst)
    (hP : va_P D vwCl (ax_wo ca ad σ) H) (hD : va_D A (ax_wo ca ad σ)) (hS : va_S A s.heap H locs) (hst : ∀ v ∈ rst, ax_okv L v) (hls : ∀ v ∈ ls, ax_okv L v) (hn : ls.length = nL) (hl : lv_has la nL (ax_lv ad ls)) : W p l e R s m args below meth c H locs cells slots Q (F0 m pc la st0) := by
  have hfr := ax_free C hD hS
  obtain ⟨na, rc, rk, tn, pre, post⟩ := cs
  have kI : (∀ (r : Int) (σ' : Hp), post as σ r σ' → N (.inl r :: rst) σ') → va_Run p l e R s m args below meth c H locs cells slots 0 0 (F0 m pc la st0) (rst.map (ax_cv ad)) (va_Qi (S := Hp × Int) (fun r u => r = Int32.ofInt u.2 ∧ R32 u.2 ∧ post as σ u.2 u.1 ∧ ax_H u.1) (fun u t => ax_B D ad ca H.size u.1 t) (ax_A ad H.size) a) (ax_A ad H.size) → W p l e R s m args below meth c H locs cells slots Q (F0 m pc la st0) := by
    intro hq' hr
    refine va_calli hr hS (fun q _ h => hfr q h) hfr (fun r u t H1 locs1 ht hvm hw hB hz1 hk1 hS1 => ?_)
    obtain ⟨b1, b2, b3⟩ := hB
    rw [ht] at b1
    obtain ⟨rfl, w1, w2, w3⟩ := hw
    exact hN _ u.1 (hq' u.2 u.1 w2) H1 locs1 la b1 (b3.weaken (fun k q _ h => hfr q.1 h)) hS1 w3 (ok_c (v := .inl u.2) w1 hst) hls hn hl
  match rk, hr, hq with
  | 0, hr, hq =>
    refine va_callv (a := a) (S := Hp) (post := fun σ' => post as σ 0 σ' ∧ ax_H σ') (B := fun σ' t => ax_B D ad ca H.size σ' t) (A1 := ax_A ad H.size) hr hS (fun q _ h => hfr q h) hfr (fun σ' t H1 locs1 ht hvm hw hB hz1 hk1 hS1 => ?_)
    obtain ⟨b1, b2, b3⟩ := hB
    rw [ht] at b1
    exact hN rst σ' (hq σ' hw.1) H1 locs1 la b1 (b3.weaken (fun k q _ h => hfr q.1 h)) hS1 hw.2 hst hls hn hl
  | 3, hr, hq =>
    refine va_callr (a := a) (S := Hp × Nat) (post := fun u => post as σ (u.2 : Int) u.1 ∧ ax_H u.1 ∧ ax_kd u.2 = tn ∧ tn.1 ≤ 4) (B := fun u a t => a = ad u.2 ∧ ax_B D ad ca H.size u.1 t) (A1 := ax_A ad H.size) hr hS (fun q _ h => hfr q h) hfr (fun u ra t H1 locs1 ht hvm hw hB hz1 hk1 hS1 => ?_)
    obtain ⟨rfl, b1, b2, b3⟩ := hB
    rw [ht] at b1
    refine hN (.inr (.inr (.inl (u.2, tn.1, tn.2))) :: rst) u.1 (hq u.2 u.1 hw.1) H1 locs1 la b1 (b3.weaken (fun k q _ h => hfr q.1 h)) hS1 hw.2.1 (ok_c ?_ hst) hls hn hl
    exact Or.inl ⟨hw.2.2.2, hw.2.2.1⟩
  | 1, hr, hq => exact kI hq hr
  | 2, hr, hq => exact kI hq hr
  | rk + 4, hr, hq => exact kI hq hr
theorem ax_cats_eq (st : List AV) : ((st.map (ax_cv ad)).map fun v => v.category).sum = ax_cats st := by
  induction st with
  | nil => rfl
  | cons v r ih =>
    rcases v with x | x | x | x <;> (simp only [List.map_cons, List.sum_cons, ih, ax_cats]; rfl)
theorem ax_call_out {cs : Ct} {N : List AV → Hp → Prop} {st : List AV} {σ : Hp} (h : ax_call cs N st σ) : ∃ as rst, st = as.reverse ++ rst ∧ as.length = cs.1 ∧ ax_cats rst ≤ 8 ∧ ax_rcv cs.2.1 as = true ∧ cs.2.2.2.2.1 as σ ∧ ax_res cs.2.2.1 cs.2.2.2.1 (cs.2.2.2.2.2 as σ) N rst := by
  unfold ax_call at h
  cases hb : (Nat.ble cs.1 st.length && (Nat.ble (ax_cats (st.drop cs.1)) 8 && ax_rcv cs.2.1 (st.take cs.1).reverse)) with
  | false => rw [hb] at h; exact False.elim h
  | true =>
    rw [hb] at h
    simp only [Bool.and_eq_true] at hb
    refine ⟨(st.take cs.1).reverse, st.drop cs.1, by simp, ?_, Nat.le_of_ble_eq_true hb.2.1, hb.2.2, h.1, h.2⟩
    have := Nat.le_of_ble_eq_true hb.1
    simp; omega
theorem sn_callV (C : ax_Cx p s m args c D ad ca A cc nL oc L fx) {cs : Ct} {y : MethodName} {bc : ByteArray} {maxL d ci i n : Nat} {ret : Option FieldType} (hM : ax_MC l D ad ca L fx y bc maxL ret d cs) (hrc : cs.2.1 = ci + 1) (hci : ci < 10) (hy : y.cls = ax_R ci)
    (w1 : Cond.methodLink (ax_R oc) i y ∈ ax_tb) (w2 : ∀ w ∈ ([.instanceMethod y, .selects y.cls y y, .initialized y.cls, .code y bc maxL ret] : List Cond), w ∈ ax_tb) (hn1 : cs.1 = n + 1) (hds : y.cls ≠ "java/lang/invoke/MethodHandle" ∧ y.cls ≠ "java/lang/invoke/VarHandle" ∧ (parseMethodDescriptor y.desc).map (fun d => d.parameters.length) = some n)
    (hfr : d + 1 ≤ R.frames) (hlo : 8 + (maxL + 11) + 40 * d ≤ R.locals) (hce : cells ≤ R.cells) (hsl : slots ≤ R.slots) {N : List AV → Hp → Prop} {st ls : List AV} {σ : Hp} {pc : Nat} (hd : decode cc pc = .ok (.invokevirtual i, 3))
    (hN : ∀ st' σ', N st' σ' → ax_SW p l e R s m args below meth c cells slots Q D ad ca A nL L (pc + 3) st' ls σ') (h : ax_call cs N st σ) : ax_SW p l e R s m args below meth c cells slots Q D ad ca A nL L pc st ls σ := by
  obtain ⟨as, rst, rfl, hlen, hcats, hrcv, hpre, hq⟩ := ax_call_out h
  intro H locs la hP hD hS hH hst hls hn hl
  rw [hrc] at hrcv
  obtain ⟨k, as', rfl⟩ : ∃ k as', as = .inr (.inr (.inl (k, 0, ci))) :: as' := by
    match as, hrcv with
    | .inr (.inr (.inl (k, 0, c1))) :: as', hrcv => exact ⟨k, as', by rw [Nat.eq_of_beq_eq_true (show Nat.beq c1 ci = true from hrcv)]⟩
    | .inr (.inr (.inl (k, 9, c1))) :: as', hrcv =>
      have := Nat.eq_of_beq_eq_true (show Nat.beq ci 99 = true from hrcv)
      omega
  have hoka : ∀ v ∈ (.inr (.inr (.inl (k, 0, ci))) :: as' : List AV), ax_okv L v := fun v hv => hst v (List.mem_append_left _ (List.mem_reverse.mpr hv))
  have hokr : ∀ v ∈ rst, ax_okv L v := fun v hv => hst v (List.mem_append_right _ hv)
  have hk : ax_kd k = (0, ci) := ax_ok_k (ok_h hoka) (Nat.zero_le _)
  have hkN : k < ax_N := ax_kd_lt (by rw [hk]; exact Nat.zero_le _)
  have hwg : ∀ w ∈ wsV (ax_R oc) i (ax_R ci) y (Cond.code y bc maxL ret :: ax_tb), w ∈ ax_tb := by
    intro w hw
    rw [hy] at w2
    rcases List.mem_append.mp (show w ∈ ([.methodLink (ax_R oc) i y, .instanceMethod y, .selects (ax_R ci) y y, .initialized (ax_R ci)] : List Cond) ++ (Cond.code y bc maxL ret :: ax_tb) from hw) with hw | hw
    · simp only [List.mem_cons, List.not_mem_nil, or_false] at hw
      rcases hw with rfl | rfl | rfl | rfl
      · exact w1
      · exact w2 _ (by simp)
      · exact w2 _ (by simp)
      · exact w2 _ (by simp)
    · rcases List.mem_cons.mp hw with rfl | hw
      · exact w2 _ (by simp)
      · exact hw
  refine ax_after (a := (Value.ref (ad k) :: as'.map (ax_cv ad)).toArray) (as := .inr (.inr (.inl (k, 0, ci))) :: as') (rst := rst) C ?_ hN hq hP hD hS hokr hls hn hl
  refine va_runV (C := ax_R ci) (As := as'.map (ax_cv ad)) (b := ad k) (n := n) ⟨C.1, C.2.1, C.2.2.1, C.2.2.2.1, C.2.2.2.2.1⟩ (hM _ σ H.size hlen hpre hH hoka)
    (cwV n C.2.2.2.2.1 (ax_goodIn hwg) rfl rfl rfl ⟨hy, hds⟩ ⟨hfr, hlo⟩) ⟨ax_blind, va_recv (ax_K C.2.2.2.2.2.1) hP (ax_cl ci hci) (ax_wo_at hkN |>.trans (by rw [ax_ce_obj hk])), ax_pre (as := .inr (.inr (.inl (k, 0, ci))) :: as') C hP hD hS⟩ rfl (by simp at hlen ⊢; omega) hl.1 ?_ (lv_room (by rw [ax_cats_eq]; exact hcats)) hd ⟨hce, hsl⟩
  simp [ax_cv]
theorem sn_callS (C : ax_Cx p s m args c D ad ca A cc nL oc L fx) {cs : Ct} {y : MethodName} {bc : ByteArray} {maxL d i n : Nat} {ret : Option FieldType} (hM : ax_MC l D ad ca L fx y bc maxL ret d cs)
    (w1 : Cond.methodLink (ax_R oc) i y ∈ ax_tb) (w2 : ∀ w ∈ ([.static y, .initialized y.cls, .code y bc maxL ret] : List Cond), w ∈ ax_tb) (hn1 : cs.1 = n) (hds : y.cls ≠ "java/lang/invoke/MethodHandle" ∧ y.cls ≠ "java/lang/invoke/VarHandle" ∧ (parseMethodDescriptor y.desc).map (fun d => d.parameters.length) = some n)
    (hfr : d + 1 ≤ R.frames) (hlo : 8 + (maxL + 11) + 40 * d ≤ R.locals) (hce : cells ≤ R.cells) (hsl : slots ≤ R.slots) {N : List AV → Hp → Prop} {st ls : List AV} {σ : Hp} {pc : Nat} (hd : decode cc pc = .ok (.invokestatic i, 3))
    (hN : ∀ st' σ', N st' σ' → ax_SW p l e R s m args below meth c cells slots Q D ad ca A nL L (pc + 3) st' ls σ') (h : ax_call cs N st σ) : ax_SW p l e R s m args below meth c cells slots Q D ad ca A nL L pc st ls σ := by
  obtain ⟨as, rst, rfl, hlen, hcats, hrcv, hpre, hq⟩ := ax_call_out h
  intro H locs la hP hD hS hH hst hls hn hl
  have hoka : ∀ v ∈ as, ax_okv L v := fun v hv => hst v (List.mem_append_left _ (List.mem_reverse.mpr hv))
  have hokr : ∀ v ∈ rst, ax_okv L v := fun v hv => hst v (List.mem_append_right _ hv)
  have hwg : ∀ w ∈ va_wsS (ax_R oc) i y (Cond.code y bc maxL ret :: ax_tb), w ∈ ax_tb := by
    intro w hw
    rcases List.mem_append.mp (show w ∈ ([.methodLink (ax_R oc) i y, .static y, .initialized y.cls] : List Cond) ++ (Cond.code y bc maxL ret :: ax_tb) from hw) with hw | hw
    · simp only [List.mem_cons, List.not_mem_nil, or_false] at hw
      rcases hw with rfl | rfl | rfl
      · exact w1
      · exact w2 _ (by simp)
      · exact w2 _ (by simp)
    · rcases List.mem_cons.mp hw with rfl | hw
      · exact w2 _ (by simp)
      · exact hw
  refine ax_after (a := (as.map (ax_cv ad)).toArray) (as := as) (rst := rst) C ?_ hN hq hP hD hS hokr hls hn hl
  refine va_runS (As := as.map (ax_cv ad)) (n := n) ⟨C.1, C.2.1, C.2.2.1, C.2.2.2.1, C.2.2.2.2.1⟩ (hM _ σ H.size hlen hpre hH hoka)
    (va_cwS n C.2.2.2.2.1 (ax_goodIn hwg) rfl rfl rfl hds ⟨hfr, hlo⟩) ⟨ax_blind, ax_pre C hP hD hS⟩ rfl (by simp; omega) hl.1 ?_ (lv_room (by rw [ax_cats_eq]; exact hcats)) hd ⟨hce, hsl⟩
  simp
theorem sn_callSN (C : ax_Cx p s m args c D ad ca A cc nL oc L fx) {cs : Ct} {y : MethodName} {bc : ByteArray} {maxL d i n : Nat} {ret : Option FieldType} (hM : ax_MC l D ad ca L fx y bc maxL ret d cs)
    (w1 : va_Nw (.methodLinkNest (ax_R oc) i y "GreyHair") s) (w2 : ∀ w ∈ ([.static y, .initialized y.cls, .code y bc maxL ret] : List Cond), w ∈ ax_tb) (hn1 : cs.1 = n) (hds : y.cls ≠ "java/lang/invoke/MethodHandle" ∧ y.cls ≠ "java/lang/invoke/VarHandle" ∧ (parseMethodDescriptor y.desc).map (fun d => d.parameters.length) = some n)
    (hfr : d + 1 ≤ R.frames) (hlo : 8 + (maxL + 11) + 40 * d ≤ R.locals) (hce : cells ≤ R.cells) (hsl : slots ≤ R.slots) {N : List AV → Hp → Prop} {st ls : List AV} {σ : Hp} {pc : Nat} (hd : decode cc pc = .ok (.invokestatic i, 3))
    (hN : ∀ st' σ', N st' σ' → ax_SW p l e R s m args below meth c cells slots Q D ad ca A nL L (pc + 3) st' ls σ') (h : ax_call cs N st σ) : ax_SW p l e R s m args below meth c cells slots Q D ad ca A nL L pc st ls σ := by
  obtain ⟨as, rst, rfl, hlen, hcats, hrcv, hpre, hq⟩ := ax_call_out h
  intro H locs la hP hD hS hH hst hls hn hl
  have hoka : ∀ v ∈ as, ax_okv L v := fun v hv => hst v (List.mem_append_left _ (List.mem_reverse.mpr hv))
  have hokr : ∀ v ∈ rst, ax_okv L v := fun v hv => hst v (List.mem_append_right _ hv)
  have hwg : ∀ w ∈ (Cond.code y bc maxL ret :: ax_tb), w ∈ ax_tb := by
    intro w hw
    rcases List.mem_cons.mp hw with rfl | hw
    · exact w2 _ (by simp)
    · exact hw
  refine ax_after (a := (as.map (ax_cv ad)).toArray) (as := as) (rst := rst) C ?_ hN hq hP hD hS hokr hls hn hl
  refine va_runSN (As := as.map (ax_cv ad)) (n := n) ⟨C.1, C.2.1, C.2.2.1, C.2.2.2.1, C.2.2.2.2.1⟩ (hM _ σ H.size hlen hpre hH hoka)
    ⟨va_cnB n C.2.2.2.2.1 (ax_goodIn hwg) rfl rfl rfl w1 (C.2.2.2.2.1 _ (w2 _ (by simp))) hds ⟨hfr, hlo⟩, C.2.2.2.2.1 _ (w2 _ (by simp)), trivial⟩ ⟨ax_blind, ax_pre C hP hD hS⟩ rfl (by simp; omega) hl.1 ?_ (lv_room (by rw [ax_cats_eq]; exact hcats)) hd ⟨hce, hsl⟩
  simp
end CALLS
