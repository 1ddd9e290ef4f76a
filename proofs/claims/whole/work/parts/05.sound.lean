-- EACH INSTRUCTION OF THE ABSTRACT MACHINE IS SOUND
section SND
variable {p : Program} {l : Launch} {e : Env} {R : Room} {s : State} {m : MethodId} {args : Array Value} {below : List Frame} {meth : Method} {c : Code} {cells slots : Nat} {Q : State → Prop}
variable {D : va_G} {ad : Nat → Nat} {ca : Nat → ClassId} {A : Nat → Prop} {cc : ByteArray} {nL oc L : Nat} {fx : Nat → Int}
def ax_Cx (p : Program) (s : State) (m : MethodId) (args : Array Value) (c : Code) (D : va_G) (ad : Nat → Nat) (ca : Nat → ClassId) (A : Nat → Prop) (cc : ByteArray) (nL oc L : Nat) (fx : Nat → Int) : Prop :=
  p.tables.exec = Jvm.exec ∧ c.code = cc ∧ c.maxLocals = nL ∧ s.vm.findClass (ax_R oc) = some m.cls ∧ (∀ w ∈ ax_tb, w.before args s = true) ∧ ax_KK D ca s ∧ ax_Fo L fx ad A s s.heap ∧ ∀ q, s.heap.size ≤ q → A q
def ax_SW (p : Program) (l : Launch) (e : Env) (R : Room) (s : State) (m : MethodId) (args : Array Value) (below : List Frame) (meth : Method) (c : Code) (cells slots : Nat) (Q : State → Prop) (D : va_G) (ad : Nat → Nat) (ca : Nat → ClassId) (A : Nat → Prop) (nL L : Nat) (pc : Nat) (st ls : List AV) (σ : Hp) : Prop :=
  ∀ (H : Heap) (locs : List Loc) (la : Array Slot), va_P D vwCl (ax_wo ca ad σ) H → va_D A (ax_wo ca ad σ) → va_S A s.heap H locs → ax_H σ → (∀ v ∈ st, ax_okv L v) → (∀ v ∈ ls, ax_okv L v) → ls.length = nL → lv_has la nL (ax_lv ad ls) →
    W p l e R s m args below meth c H locs cells slots Q (F0 m pc la (st.map (ax_cv ad)))
-- constants
theorem sn_const {st ls : List AV} {σ : Hp} {pc n : Nat} {x : Int} (hx : R32 x)
    (row : ∀ (H : Heap) (locs : List Loc) (la : Array Slot), W p l e R s m args below meth c H locs cells slots Q (F0 m (pc + n) la (.int (Int32.ofInt x) :: st.map (ax_cv ad))) → W p l e R s m args below meth c H locs cells slots Q (F0 m pc la (st.map (ax_cv ad))))
    (h : ax_SW p l e R s m args below meth c cells slots Q D ad ca A nL L (pc + n) (.inl x :: st) ls σ) : ax_SW p l e R s m args below meth c cells slots Q D ad ca A nL L pc st ls σ := by
  intro H locs la hP hD hS hH hst hls hn hl
  exact row H locs la (h H locs la hP hD hS hH (fun v hv => (List.mem_cons.mp hv).elim (fun e => by subst e; exact hx) (hst v)) hls hn hl)
theorem sn_iconst (C : ax_Cx p s m args c D ad ca A cc nL oc L fx) {st ls : List AV} {σ : Hp} {pc : Nat} {x : Int} (hd : decode cc pc = .ok (.iconst x, 1)) (hx : -1 ≤ x ∧ x ≤ 5)
    (h : ax_SW p l e R s m args below meth c cells slots Q D ad ca A nL L (pc + 1) (.inl x :: st) ls σ) : ax_SW p l e R s m args below meth c cells slots Q D ad ca A nL L pc st ls σ :=
  sn_const (by unfold R32; omega) (fun H locs la k => lv_iconst C.1 C.2.1 hd rfl k) h
theorem sn_i8 : ∀ x : Int, -128 ≤ x → x ≤ 127 → (Int8.ofInt x).toInt32 = Int32.ofInt x := by
  intro x h1 h2
  rw [← Int32.toInt_inj, o32 (by unfold R32; omega), Int8.toInt_toInt32, Int8.toInt_ofInt_of_le h1 (by omega)]
theorem sn_i16 : ∀ x : Int, -32768 ≤ x → x ≤ 32767 → (Int16.ofInt x).toInt32 = Int32.ofInt x := by
  intro x h1 h2
  rw [← Int32.toInt_inj, o32 (by unfold R32; omega), Int16.toInt_toInt32, Int16.toInt_ofInt_of_le h1 (by omega)]
theorem sn_bipush (C : ax_Cx p s m args c D ad ca A cc nL oc L fx) {st ls : List AV} {σ : Hp} {pc : Nat} {x : Int} (hd : decode cc pc = .ok (.bipush x, 2)) (hx : -128 ≤ x ∧ x ≤ 127)
    (h : ax_SW p l e R s m args below meth c cells slots Q D ad ca A nL L (pc + 2) (.inl x :: st) ls σ) : ax_SW p l e R s m args below meth c cells slots Q D ad ca A nL L pc st ls σ :=
  sn_const (by unfold R32; omega) (fun H locs la k => lv_bipush C.1 C.2.1 hd (sn_i8 x hx.1 hx.2) k) h
theorem sn_sipush (C : ax_Cx p s m args c D ad ca A cc nL oc L fx) {st ls : List AV} {σ : Hp} {pc : Nat} {x : Int} (hd : decode cc pc = .ok (.sipush x, 3)) (hx : -32768 ≤ x ∧ x ≤ 32767)
    (h : ax_SW p l e R s m args below meth c cells slots Q D ad ca A nL L (pc + 3) (.inl x :: st) ls σ) : ax_SW p l e R s m args below meth c cells slots Q D ad ca A nL L pc st ls σ :=
  sn_const (by unfold R32; omega) (fun H locs la k => lv_sipush C.1 C.2.1 hd (sn_i16 x hx.1 hx.2) k) h
theorem sn_ldc (C : ax_Cx p s m args c D ad ca A cc nL oc L fx) {st ls : List AV} {σ : Hp} {pc i : Nat} {x : Int} (hd : decode cc pc = .ok (.ldc i, 2)) (hx : (oc, i, x) ∈ ax_ki)
    (h : ax_SW p l e R s m args below meth c cells slots Q D ad ca A nL L (pc + 2) (.inl x :: st) ls σ) : ax_SW p l e R s m args below meth c cells slots Q D ad ca A nL L pc st ls σ :=
  sn_const (ax_ki_ok _ hx).2 (fun H locs la k => lv_ldc C.1 C.2.1 C.2.2.2.1 (C.2.2.2.2.1 _ (ax_ki_ok _ hx).1) hd k) h
theorem sn_ldcw (C : ax_Cx p s m args c D ad ca A cc nL oc L fx) {st ls : List AV} {σ : Hp} {pc i : Nat} {x : Int} (hd : decode cc pc = .ok (.ldc_w i, 3)) (hx : (oc, i, x) ∈ ax_ki)
    (h : ax_SW p l e R s m args below meth c cells slots Q D ad ca A nL L (pc + 3) (.inl x :: st) ls σ) : ax_SW p l e R s m args below meth c cells slots Q D ad ca A nL L pc st ls σ :=
  sn_const (ax_ki_ok _ hx).2 (fun H locs la k => lv_ldcw C.1 C.2.1 C.2.2.2.1 (C.2.2.2.2.1 _ (ax_ki_ok _ hx).1) hd k) h
/-- anything that puts one value on the stack -/
theorem sn_push {st ls : List AV} {σ : Hp} {pc n : Nat} {v : AV} (hv : ax_okv L v)
    (row : ∀ (H : Heap) (locs : List Loc) (la : Array Slot), va_P D vwCl (ax_wo ca ad σ) H → va_S A s.heap H locs → ls.length = nL → lv_has la nL (ax_lv ad ls) → W p l e R s m args below meth c H locs cells slots Q (F0 m (pc + n) la (ax_cv ad v :: st.map (ax_cv ad))) → W p l e R s m args below meth c H locs cells slots Q (F0 m pc la (st.map (ax_cv ad))))
    (h : ax_SW p l e R s m args below meth c cells slots Q D ad ca A nL L (pc + n) (v :: st) ls σ) : ax_SW p l e R s m args below meth c cells slots Q D ad ca A nL L pc st ls σ := by
  intro H locs la hP hD hS hH hst hls hn hl
  exact row H locs la hP hS hn hl (h H locs la hP hD hS hH (fun w hw => (List.mem_cons.mp hw).elim (fun e => by subst e; exact hv) (hst w)) hls hn hl)
theorem sn_ldcS (C : ax_Cx p s m args c D ad ca A cc nL oc L fx) {st ls : List AV} {σ : Hp} {pc i : Nat} (hd : decode cc pc = .ok (.ldc i, 2)) (hx : oc = 5 ∧ i = 239)
    (h : ax_SW p l e R s m args below meth c cells slots Q D ad ca A nL L (pc + 2) (.inr (.inr (.inl (1000, 9, 0))) :: st) ls σ) : ax_SW p l e R s m args below meth c cells slots Q D ad ca A nL L pc st ls σ := by
  obtain ⟨rfl, rfl⟩ := hx
  exact sn_push (v := .inr (.inr (.inl (1000, 9, 0)))) (Or.inr (Or.inl ⟨rfl, rfl⟩)) (fun H locs la _ _ _ _ k => va_ldcS C.1 C.2.1 C.2.2.2.1 C.2.2.2.2.2.2.1.2.2.2.2.1 hd k) h
theorem sn_ldc2 (C : ax_Cx p s m args c D ad ca A cc nL oc L fx) {st ls : List AV} {σ : Hp} {pc i : Nat} {x : Int} (hd : decode cc pc = .ok (.ldc2_w i, 3)) (hx : (oc, i, x) ∈ ax_kl)
    (h : ax_SW p l e R s m args below meth c cells slots Q D ad ca A nL L (pc + 3) (.inr (.inl x) :: st) ls σ) : ax_SW p l e R s m args below meth c cells slots Q D ad ca A nL L pc st ls σ :=
  sn_push (v := .inr (.inl x)) (ax_kl_ok _ hx).2 (fun H locs la _ _ _ _ k => lv_ldc2 C.1 C.2.1 C.2.2.2.1 (C.2.2.2.2.1 _ (ax_kl_ok _ hx).1) hd k) h
theorem sn_lconst (C : ax_Cx p s m args c D ad ca A cc nL oc L fx) {st ls : List AV} {σ : Hp} {pc : Nat} {n : Fin 2} {x : Int} (hd : decode cc pc = .ok (.lconst n, 1)) (hx : x = (n.val : Int))
    (h : ax_SW p l e R s m args below meth c cells slots Q D ad ca A nL L (pc + 1) (.inr (.inl x) :: st) ls σ) : ax_SW p l e R s m args below meth c cells slots Q D ad ca A nL L pc st ls σ := by
  subst hx
  refine sn_push ?_ (fun H locs la _ _ _ _ k => lv_lconst C.1 C.2.1 hd (v := Int64.ofInt (n.val : Int)) rfl k) h
  show R64 _
  have := n.isLt
  unfold R64; omega
-- locals
theorem sn_iload (C : ax_Cx p s m args c D ad ca A cc nL oc L fx) {st ls : List AV} {σ : Hp} {pc k : Nat} {x : Int} (hd : decode cc pc = .ok (.iload k, 2)) (hg : ax_get ls k = .inl x)
    (h : ax_SW p l e R s m args below meth c cells slots Q D ad ca A nL L (pc + 2) (.inl x :: st) ls σ) : ax_SW p l e R s m args below meth c cells slots Q D ad ca A nL L pc st ls σ := by
  intro H locs la hP hD hS hH hst hls hn hl
  have hv : ax_okv L (.inl x) := by rw [← hg]; exact ax_get_ok hls k
  have ha := ax_lv_at hl (i := k) (by rw [hg]; rfl)
  rw [hg] at ha
  exact lv_iload C.1 C.2.1 hd ha (h H locs la hP hD hS hH (fun w hw => (List.mem_cons.mp hw).elim (fun e => by subst e; exact hv) (hst w)) hls hn hl)
theorem sn_iload_n (C : ax_Cx p s m args c D ad ca A cc nL oc L fx) {st ls : List AV} {σ : Hp} {pc : Nat} {k : Fin 4} {x : Int} (hd : decode cc pc = .ok (.iload_n k, 1)) (hg : ax_get ls k.val = .inl x)
    (h : ax_SW p l e R s m args below meth c cells slots Q D ad ca A nL L (pc + 1) (.inl x :: st) ls σ) : ax_SW p l e R s m args below meth c cells slots Q D ad ca A nL L pc st ls σ := by
  intro H locs la hP hD hS hH hst hls hn hl
  have hv : ax_okv L (.inl x) := by rw [← hg]; exact ax_get_ok hls k.val
  have ha := ax_lv_at hl (i := k.val) (by rw [hg]; rfl)
  rw [hg] at ha
  exact lv_iload_n C.1 C.2.1 hd rfl ha (h H locs la hP hD hS hH (fun w hw => (List.mem_cons.mp hw).elim (fun e => by subst e; exact hv) (hst w)) hls hn hl)
theorem sn_aload (C : ax_Cx p s m args c D ad ca A cc nL oc L fx) {st ls : List AV} {σ : Hp} {pc k : Nat} {x : Nat × Nat × Nat} (hd : decode cc pc = .ok (.aload k, 2)) (hg : ax_get ls k = .inr (.inr (.inl x)))
    (h : ax_SW p l e R s m args below meth c cells slots Q D ad ca A nL L (pc + 2) (.inr (.inr (.inl x)) :: st) ls σ) : ax_SW p l e R s m args below meth c cells slots Q D ad ca A nL L pc st ls σ := by
  intro H locs la hP hD hS hH hst hls hn hl
  have hv : ax_okv L (.inr (.inr (.inl x))) := by rw [← hg]; exact ax_get_ok hls k
  have ha := ax_lv_at hl (i := k) (by rw [hg]; rfl)
  rw [hg] at ha
  exact lv_aload C.1 C.2.1 hd ha (h H locs la hP hD hS hH (fun w hw => (List.mem_cons.mp hw).elim (fun e => by subst e; exact hv) (hst w)) hls hn hl)
theorem sn_aload_n (C : ax_Cx p s m args c D ad ca A cc nL oc L fx) {st ls : List AV} {σ : Hp} {pc : Nat} {k : Fin 4} {x : Nat × Nat × Nat} (hd : decode cc pc = .ok (.aload_n k, 1)) (hg : ax_get ls k.val = .inr (.inr (.inl x)))
    (h : ax_SW p l e R s m args below meth c cells slots Q D ad ca A nL L (pc + 1) (.inr (.inr (.inl x)) :: st) ls σ) : ax_SW p l e R s m args below meth c cells slots Q D ad ca A nL L pc st ls σ := by
  intro H locs la hP hD hS hH hst hls hn hl
  have hv : ax_okv L (.inr (.inr (.inl x))) := by rw [← hg]; exact ax_get_ok hls k.val
  have ha := ax_lv_at hl (i := k.val) (by rw [hg]; rfl)
  rw [hg] at ha
  exact lv_aload_n C.1 C.2.1 hd rfl ha (h H locs la hP hD hS hH (fun w hw => (List.mem_cons.mp hw).elim (fun e => by subst e; exact hv) (hst w)) hls hn hl)
theorem sn_lload_n (C : ax_Cx p s m args c D ad ca A cc nL oc L fx) {st ls : List AV} {σ : Hp} {pc : Nat} {k : Fin 4} {x : Int} (hd : decode cc pc = .ok (.lload_n k, 1)) (hg : ax_get ls k.val = .inr (.inl x))
    (h : ax_SW p l e R s m args below meth c cells slots Q D ad ca A nL L (pc + 1) (.inr (.inl x) :: st) ls σ) : ax_SW p l e R s m args below meth c cells slots Q D ad ca A nL L pc st ls σ := by
  intro H locs la hP hD hS hH hst hls hn hl
  have hv : ax_okv L (.inr (.inl x)) := by rw [← hg]; exact ax_get_ok hls k.val
  have ha := ax_lv_at hl (i := k.val) (by rw [hg]; rfl)
  rw [hg] at ha
  exact lv_lload_n C.1 C.2.1 hd rfl ha (h H locs la hP hD hS hH (fun w hw => (List.mem_cons.mp hw).elim (fun e => by subst e; exact hv) (hst w)) hls hn hl)
theorem sn_istore (C : ax_Cx p s m args c D ad ca A cc nL oc L fx) {r ls : List AV} {σ : Hp} {pc k : Nat} {x : Int} (hd : decode cc pc = .ok (.istore k, 2)) (hk : k < nL) (hh : ax_half ls k = false)
    (h : ax_SW p l e R s m args below meth c cells slots Q D ad ca A nL L (pc + 2) r (ax_set ls k (.inl x)) σ) : ax_SW p l e R s m args below meth c cells slots Q D ad ca A nL L pc (.inl x :: r) ls σ := by
  intro H locs la hP hD hS hH hst hls hn hl
  refine lv_istore C.1 C.2.1 hd hl hk rfl (fun la' hl' => h H locs la' hP hD hS hH (fun v hv => hst v (by simp [hv])) (ax_set_ok hls k (hst _ (by simp))) (by rw [ax_set_len]; exact hn) (ax_lv_set (by omega) hh rfl hl'))
theorem sn_istore_n (C : ax_Cx p s m args c D ad ca A cc nL oc L fx) {r ls : List AV} {σ : Hp} {pc : Nat} {k : Fin 4} {x : Int} (hd : decode cc pc = .ok (.istore_n k, 1)) (hk : k.val < nL) (hh : ax_half ls k.val = false)
    (h : ax_SW p l e R s m args below meth c cells slots Q D ad ca A nL L (pc + 1) r (ax_set ls k.val (.inl x)) σ) : ax_SW p l e R s m args below meth c cells slots Q D ad ca A nL L pc (.inl x :: r) ls σ := by
  intro H locs la hP hD hS hH hst hls hn hl
  refine lv_istore_n C.1 C.2.1 hd rfl hl hk rfl (fun la' hl' => h H locs la' hP hD hS hH (fun v hv => hst v (by simp [hv])) (ax_set_ok hls k.val (hst _ (by simp))) (by rw [ax_set_len]; exact hn) (ax_lv_set (by omega) hh rfl hl'))
theorem sn_astore (C : ax_Cx p s m args c D ad ca A cc nL oc L fx) {r ls : List AV} {σ : Hp} {pc k : Nat} {x : Nat × Nat × Nat} (hd : decode cc pc = .ok (.astore k, 2)) (hk : k < nL) (hh : ax_half ls k = false)
    (h : ax_SW p l e R s m args below meth c cells slots Q D ad ca A nL L (pc + 2) r (ax_set ls k (.inr (.inr (.inl x)))) σ) : ax_SW p l e R s m args below meth c cells slots Q D ad ca A nL L pc (.inr (.inr (.inl x)) :: r) ls σ := by
  intro H locs la hP hD hS hH hst hls hn hl
  refine lv_astore C.1 C.2.1 hd hl hk rfl (fun la' hl' => h H locs la' hP hD hS hH (fun v hv => hst v (by simp [hv])) (ax_set_ok hls k (hst _ (by simp))) (by rw [ax_set_len]; exact hn) (ax_lv_set (by omega) hh rfl hl'))
theorem sn_astore_n (C : ax_Cx p s m args c D ad ca A cc nL oc L fx) {r ls : List AV} {σ : Hp} {pc : Nat} {k : Fin 4} {x : Nat × Nat × Nat} (hd : decode cc pc = .ok (.astore_n k, 1)) (hk : k.val < nL) (hh : ax_half ls k.val = false)
    (h : ax_SW p l e R s m args below meth c cells slots Q D ad ca A nL L (pc + 1) r (ax_set ls k.val (.inr (.inr (.inl x)))) σ) : ax_SW p l e R s m args below meth c cells slots Q D ad ca A nL L pc (.inr (.inr (.inl x)) :: r) ls σ := by
  intro H locs la hP hD hS hH hst hls hn hl
  refine lv_astore_n C.1 C.2.1 hd rfl hl hk rfl (fun la' hl' => h H locs la' hP hD hS hH (fun v hv => hst v (by simp [hv])) (ax_set_ok hls k.val (hst _ (by simp))) (by rw [ax_set_len]; exact hn) (ax_lv_set (by omega) hh rfl hl'))
theorem sn_iinc (C : ax_Cx p s m args c D ad ca A cc nL oc L fx) {st ls : List AV} {σ : Hp} {pc k : Nat} {n x : Int} (hd : decode cc pc = .ok (.iinc k n, 3)) (hk : k < nL) (hg : ax_get ls k = .inl x)
    (h : ax_SW p l e R s m args below meth c cells slots Q D ad ca A nL L (pc + 3) st (ax_set ls k (.inl (wr (x + n)))) σ) : ax_SW p l e R s m args below meth c cells slots Q D ad ca A nL L pc st ls σ := by
  intro H locs la hP hD hS hH hst hls hn hl
  have hm : (k, Value.int (Int32.ofInt x)) ∈ ax_lv ad ls := ax_lv_mem.mpr ⟨by rw [hg]; rfl, by rw [hg]; rfl⟩
  obtain ⟨q, hq⟩ := List.mem_iff_getElem?.mp hm
  by_cases hh : ax_half ls k = false
  · refine lv_iinc C.1 C.2.1 hd hl hq (v := Int32.ofInt (wr (x + n))) (e_add x n) hk rfl (fun la' hl' => h H locs la' hP hD hS hH hst (ax_set_ok hls k (wr_R _)) (by rw [ax_set_len]; exact hn) (ax_lv_set (by omega) hh rfl hl'))
  · exfalso
    cases k with
    | zero => simp [ax_half] at hh
    | succ k =>
      have hh' : ax_isL (ax_get ls k) = true := by simpa [ax_half] using hh
      have hs : ax_isSet (ax_get ls k) = true := by
        revert hh'
        rcases ax_get ls k with y | y | y | y <;> simp [ax_isL, ax_isSet]
      have h1 := ax_lv_at hl hs
      have h2 := hl.2.1.1 k _ h1 (by
        revert hh'
        rcases ax_get ls k with y | y | y | y <;> simp [ax_isL, ax_cv, Value.category])
      have h3 := ax_lv_at hl (i := k + 1) (by rw [hg]; rfl)
      rw [h2] at h3
      simp at h3
end SND
