-- arithmetic, the stack, branches
section SND2
variable {p : Program} {l : Launch} {e : Env} {R : Room} {s : State} {m : MethodId} {args : Array Value} {below : List Frame} {meth : Method} {c : Code} {cells slots : Nat} {Q : State → Prop}
variable {D : va_G} {ad : Nat → Nat} {ca : Nat → ClassId} {A : Nat → Prop} {cc : ByteArray} {nL oc L : Nat} {fx : Nat → Int}
/-- a step that changes the stack alone -/
theorem sn_top {st st' ls : List AV} {σ : Hp} {pc n : Nat} (hok : (∀ v ∈ st, ax_okv L v) → ∀ v ∈ st', ax_okv L v)
    (row : (∀ v ∈ st, ax_okv L v) → ∀ (H : Heap) (locs : List Loc) (la : Array Slot), va_P D vwCl (ax_wo ca ad σ) H → va_S A s.heap H locs → W p l e R s m args below meth c H locs cells slots Q (F0 m (pc + n) la (st'.map (ax_cv ad))) → W p l e R s m args below meth c H locs cells slots Q (F0 m pc la (st.map (ax_cv ad))))
    (h : ax_SW p l e R s m args below meth c cells slots Q D ad ca A nL L (pc + n) st' ls σ) : ax_SW p l e R s m args below meth c cells slots Q D ad ca A nL L pc st ls σ := by
  intro H locs la hP hD hS hH hst hls hn hl
  exact row hst H locs la hP hS (h H locs la hP hD hS hH (hok hst) hls hn hl)
theorem ok_c {v : AV} {r : List AV} (hv : ax_okv L v) (h : ∀ w ∈ r, ax_okv L w) : ∀ w ∈ v :: r, ax_okv L w := fun w hw => (List.mem_cons.mp hw).elim (fun e => by subst e; exact hv) (h w)
theorem ok_t {v : AV} {r : List AV} (h : ∀ w ∈ v :: r, ax_okv L w) : ∀ w ∈ r, ax_okv L w := fun w hw => h w (List.mem_cons_of_mem _ hw)
theorem ok_h {v : AV} {r : List AV} (h : ∀ w ∈ v :: r, ax_okv L w) : ax_okv L v := h v List.mem_cons_self
theorem sn_iadd (C : ax_Cx p s m args c D ad ca A cc nL oc L fx) {r ls : List AV} {σ : Hp} {pc : Nat} {x y : Int} (hd : decode cc pc = .ok (.iadd, 1))
    (h : ax_SW p l e R s m args below meth c cells slots Q D ad ca A nL L (pc + 1) (.inl (wr (x + y)) :: r) ls σ) : ax_SW p l e R s m args below meth c cells slots Q D ad ca A nL L pc (.inl y :: .inl x :: r) ls σ :=
  sn_top (fun hst => ok_c (v := .inl (wr (x + y))) (wr_R _) (ok_t (ok_t hst))) (fun hst H locs la _ _ k => lv_iadd C.1 C.2.1 hd (by rw [e_add]; exact k)) h
theorem sn_isub (C : ax_Cx p s m args c D ad ca A cc nL oc L fx) {r ls : List AV} {σ : Hp} {pc : Nat} {x y : Int} (hd : decode cc pc = .ok (.isub, 1))
    (h : ax_SW p l e R s m args below meth c cells slots Q D ad ca A nL L (pc + 1) (.inl (wr (x - y)) :: r) ls σ) : ax_SW p l e R s m args below meth c cells slots Q D ad ca A nL L pc (.inl y :: .inl x :: r) ls σ :=
  sn_top (fun hst => ok_c (v := .inl (wr (x - y))) (wr_R _) (ok_t (ok_t hst))) (fun hst H locs la _ _ k => lv_isub C.1 C.2.1 hd (by rw [e_sub]; exact k)) h
theorem sn_imul (C : ax_Cx p s m args c D ad ca A cc nL oc L fx) {r ls : List AV} {σ : Hp} {pc : Nat} {x y : Int} (hd : decode cc pc = .ok (.imul, 1))
    (h : ax_SW p l e R s m args below meth c cells slots Q D ad ca A nL L (pc + 1) (.inl (wr (x * y)) :: r) ls σ) : ax_SW p l e R s m args below meth c cells slots Q D ad ca A nL L pc (.inl y :: .inl x :: r) ls σ :=
  sn_top (fun hst => ok_c (v := .inl (wr (x * y))) (wr_R _) (ok_t (ok_t hst))) (fun hst H locs la _ _ k => lv_imul C.1 C.2.1 hd (by rw [e_mul]; exact k)) h
theorem sn_idiv (C : ax_Cx p s m args c D ad ca A cc nL oc L fx) {r ls : List AV} {σ : Hp} {pc : Nat} {x y : Int} (hd : decode cc pc = .ok (.idiv, 1)) (hy : ¬ y = 0)
    (h : ax_SW p l e R s m args below meth c cells slots Q D ad ca A nL L (pc + 1) (.inl (iDiv x y) :: r) ls σ) : ax_SW p l e R s m args below meth c cells slots Q D ad ca A nL L pc (.inl y :: .inl x :: r) ls σ :=
  sn_top (fun hst => ok_c (v := .inl (iDiv x y)) (R32_to _) (ok_t (ok_t hst))) (fun hst H locs la _ _ k => lv_idiv C.1 C.2.1 hd (fun z => hy ((c_eq (ok_h hst) R32_0).mp (by rw [z]; rfl))) (by rw [← to32 (_ / _)]; exact k)) h
theorem sn_irem (C : ax_Cx p s m args c D ad ca A cc nL oc L fx) {r ls : List AV} {σ : Hp} {pc : Nat} {x y : Int} (hd : decode cc pc = .ok (.irem, 1)) (hy : ¬ y = 0)
    (h : ax_SW p l e R s m args below meth c cells slots Q D ad ca A nL L (pc + 1) (.inl (iRem x y) :: r) ls σ) : ax_SW p l e R s m args below meth c cells slots Q D ad ca A nL L pc (.inl y :: .inl x :: r) ls σ :=
  sn_top (fun hst => ok_c (v := .inl (iRem x y)) (R32_to _) (ok_t (ok_t hst))) (fun hst H locs la _ _ k => lv_irem C.1 C.2.1 hd (fun z => hy ((c_eq (ok_h hst) R32_0).mp (by rw [z]; rfl))) (by rw [← to32 (_ - _)]; exact k)) h
theorem sn_iand (C : ax_Cx p s m args c D ad ca A cc nL oc L fx) {r ls : List AV} {σ : Hp} {pc : Nat} {x y : Int} (hd : decode cc pc = .ok (.iand, 1))
    (h : ax_SW p l e R s m args below meth c cells slots Q D ad ca A nL L (pc + 1) (.inl (iAnd x y) :: r) ls σ) : ax_SW p l e R s m args below meth c cells slots Q D ad ca A nL L pc (.inl y :: .inl x :: r) ls σ :=
  sn_top (fun hst => ok_c (v := .inl (iAnd x y)) (R32_to _) (ok_t (ok_t hst))) (fun hst H locs la _ _ k => lv_iand C.1 C.2.1 hd (by rw [← to32 (_ &&& _)]; exact k)) h
theorem sn_ior (C : ax_Cx p s m args c D ad ca A cc nL oc L fx) {r ls : List AV} {σ : Hp} {pc : Nat} {x y : Int} (hd : decode cc pc = .ok (.ior, 1))
    (h : ax_SW p l e R s m args below meth c cells slots Q D ad ca A nL L (pc + 1) (.inl (iOr x y) :: r) ls σ) : ax_SW p l e R s m args below meth c cells slots Q D ad ca A nL L pc (.inl y :: .inl x :: r) ls σ :=
  sn_top (fun hst => ok_c (v := .inl (iOr x y)) (R32_to _) (ok_t (ok_t hst))) (fun hst H locs la _ _ k => lv_ior C.1 C.2.1 hd (by rw [← to32 (_ ||| _)]; exact k)) h
theorem sn_ixor (C : ax_Cx p s m args c D ad ca A cc nL oc L fx) {r ls : List AV} {σ : Hp} {pc : Nat} {x y : Int} (hd : decode cc pc = .ok (.ixor, 1))
    (h : ax_SW p l e R s m args below meth c cells slots Q D ad ca A nL L (pc + 1) (.inl (iXor x y) :: r) ls σ) : ax_SW p l e R s m args below meth c cells slots Q D ad ca A nL L pc (.inl y :: .inl x :: r) ls σ :=
  sn_top (fun hst => ok_c (v := .inl (iXor x y)) (R32_to _) (ok_t (ok_t hst))) (fun hst H locs la _ _ k => lv_ixor C.1 C.2.1 hd (by rw [← to32 (_ ^^^ _)]; exact k)) h
theorem sn_ishl (C : ax_Cx p s m args c D ad ca A cc nL oc L fx) {r ls : List AV} {σ : Hp} {pc : Nat} {x y : Int} (hd : decode cc pc = .ok (.ishl, 1))
    (h : ax_SW p l e R s m args below meth c cells slots Q D ad ca A nL L (pc + 1) (.inl (iShl x y) :: r) ls σ) : ax_SW p l e R s m args below meth c cells slots Q D ad ca A nL L pc (.inl y :: .inl x :: r) ls σ :=
  sn_top (fun hst => ok_c (v := .inl (iShl x y)) (R32_to _) (ok_t (ok_t hst))) (fun hst H locs la _ _ k => lv_ishl C.1 C.2.1 hd (by rw [← to32 (_ <<< _)]; exact k)) h
theorem sn_ishr (C : ax_Cx p s m args c D ad ca A cc nL oc L fx) {r ls : List AV} {σ : Hp} {pc : Nat} {x y : Int} (hd : decode cc pc = .ok (.ishr, 1))
    (h : ax_SW p l e R s m args below meth c cells slots Q D ad ca A nL L (pc + 1) (.inl (iShr x y) :: r) ls σ) : ax_SW p l e R s m args below meth c cells slots Q D ad ca A nL L pc (.inl y :: .inl x :: r) ls σ :=
  sn_top (fun hst => ok_c (v := .inl (iShr x y)) (R32_to _) (ok_t (ok_t hst))) (fun hst H locs la _ _ k => lv_ishr C.1 C.2.1 hd (by rw [← to32 (_ >>> _)]; exact k)) h
theorem sn_iushr (C : ax_Cx p s m args c D ad ca A cc nL oc L fx) {r ls : List AV} {σ : Hp} {pc : Nat} {x y : Int} (hd : decode cc pc = .ok (.iushr, 1))
    (h : ax_SW p l e R s m args below meth c cells slots Q D ad ca A nL L (pc + 1) (.inl (iUsh x y) :: r) ls σ) : ax_SW p l e R s m args below meth c cells slots Q D ad ca A nL L pc (.inl y :: .inl x :: r) ls σ :=
  sn_top (fun hst => ok_c (v := .inl (iUsh x y)) (R32_to _) (ok_t (ok_t hst))) (fun hst H locs la _ _ k => lv_iushr C.1 C.2.1 hd (v := Int32.ofInt (iUsh x y)) (to32 _).symm k) h
theorem sn_ineg (C : ax_Cx p s m args c D ad ca A cc nL oc L fx) {r ls : List AV} {σ : Hp} {pc : Nat} {x : Int} (hd : decode cc pc = .ok (.ineg, 1))
    (h : ax_SW p l e R s m args below meth c cells slots Q D ad ca A nL L (pc + 1) (.inl (wr (-x)) :: r) ls σ) : ax_SW p l e R s m args below meth c cells slots Q D ad ca A nL L pc (.inl x :: r) ls σ :=
  sn_top (fun hst => ok_c (v := .inl (wr (-x))) (wr_R _) (ok_t hst)) (fun hst H locs la _ _ k => lv_ineg C.1 C.2.1 hd (by rw [e_neg]; exact k)) h
theorem sn_i2b (C : ax_Cx p s m args c D ad ca A cc nL oc L fx) {r ls : List AV} {σ : Hp} {pc : Nat} {x : Int} (hd : decode cc pc = .ok (.i2b, 1))
    (h : ax_SW p l e R s m args below meth c cells slots Q D ad ca A nL L (pc + 1) (.inl (iByte x) :: r) ls σ) : ax_SW p l e R s m args below meth c cells slots Q D ad ca A nL L pc (.inl x :: r) ls σ :=
  sn_top (fun hst => ok_c (v := .inl (iByte x)) (R32_to _) (ok_t hst)) (fun hst H locs la _ _ k => lv_i2b C.1 C.2.1 hd (v := Int32.ofInt (iByte x)) (to32 _).symm k) h
theorem sn_i2c (C : ax_Cx p s m args c D ad ca A cc nL oc L fx) {r ls : List AV} {σ : Hp} {pc : Nat} {x : Int} (hd : decode cc pc = .ok (.i2c, 1))
    (h : ax_SW p l e R s m args below meth c cells slots Q D ad ca A nL L (pc + 1) (.inl (iChar x) :: r) ls σ) : ax_SW p l e R s m args below meth c cells slots Q D ad ca A nL L pc (.inl x :: r) ls σ :=
  sn_top (fun hst => ok_c (v := .inl (iChar x)) (R32_to _) (ok_t hst)) (fun hst H locs la _ _ k => lv_i2c C.1 C.2.1 hd (v := Int32.ofInt (iChar x)) (to32 _).symm k) h
theorem e_i2l {x : Int} (h : R32 x) : (Int32.ofInt x).toInt64 = Int64.ofInt x := by
  rw [← Int64.toInt_inj, Int32.toInt_toInt64, o32 h, o64 (by unfold R64; unfold R32 at h; omega)]
theorem sn_i2l (C : ax_Cx p s m args c D ad ca A cc nL oc L fx) {r ls : List AV} {σ : Hp} {pc : Nat} {x : Int} (hd : decode cc pc = .ok (.i2l, 1))
    (h : ax_SW p l e R s m args below meth c cells slots Q D ad ca A nL L (pc + 1) (.inr (.inl (x)) :: r) ls σ) : ax_SW p l e R s m args below meth c cells slots Q D ad ca A nL L pc (.inl x :: r) ls σ :=
  sn_top (fun hst => ok_c (v := .inr (.inl (x))) ((by have := ok_h hst; unfold ax_okv R32 at this; show R64 x; unfold R64; omega)) (ok_t hst)) (fun hst H locs la _ _ k => lv_i2l C.1 C.2.1 hd (v := Int64.ofInt x) (e_i2l (ok_h hst)) k) h
theorem sn_lor (C : ax_Cx p s m args c D ad ca A cc nL oc L fx) {r ls : List AV} {σ : Hp} {pc : Nat} {x y : Int} (hd : decode cc pc = .ok (.lor, 1))
    (h : ax_SW p l e R s m args below meth c cells slots Q D ad ca A nL L (pc + 1) (.inr (.inl (lOr x y)) :: r) ls σ) : ax_SW p l e R s m args below meth c cells slots Q D ad ca A nL L pc (.inr (.inl y) :: .inr (.inl x) :: r) ls σ :=
  sn_top (fun hst => ok_c (v := .inr (.inl (lOr x y))) (R64_to _) (ok_t (ok_t hst))) (fun hst H locs la _ _ k => lv_lor C.1 C.2.1 hd (by rw [← to64 (_ ||| _)]; exact k)) h
theorem sn_lshl (C : ax_Cx p s m args c D ad ca A cc nL oc L fx) {r ls : List AV} {σ : Hp} {pc : Nat} {x y : Int} (hd : decode cc pc = .ok (.lshl, 1))
    (h : ax_SW p l e R s m args below meth c cells slots Q D ad ca A nL L (pc + 1) (.inr (.inl (lShl x y)) :: r) ls σ) : ax_SW p l e R s m args below meth c cells slots Q D ad ca A nL L pc (.inl y :: .inr (.inl x) :: r) ls σ :=
  sn_top (fun hst => ok_c (v := .inr (.inl (lShl x y))) (R64_to _) (ok_t (ok_t hst))) (fun hst H locs la _ _ k => lv_lshl C.1 C.2.1 hd (v := Int64.ofInt (lShl x y)) (to64 _).symm k) h
theorem e_lcmp {x y : Int} (hx : R64 x) (hy : R64 y) : lg_cmp (Int64.ofInt x) (Int64.ofInt y) = Int32.ofInt (lCmp x y) := by
  unfold lg_cmp lCmp
  simp only [gt_iff_lt, Int64.lt_iff_toInt_lt, ← Int64.toInt_inj, o64 hx, o64 hy]
  rcases Int.lt_trichotomy x y with h | h | h
  · rw [if_neg (by omega), if_neg (by omega), if_pos h]; rfl
  · rw [if_neg (by omega), if_pos h, if_neg (by omega), if_pos h]; rfl
  · rw [if_pos h, if_neg (by omega), if_neg (by omega)]; rfl
theorem lCmp_R (x y : Int) : R32 (lCmp x y) := by
  unfold lCmp R32
  split
  · omega
  · split <;> omega
theorem sn_lcmp (C : ax_Cx p s m args c D ad ca A cc nL oc L fx) {r ls : List AV} {σ : Hp} {pc : Nat} {x y : Int} (hd : decode cc pc = .ok (.lcmp, 1))
    (h : ax_SW p l e R s m args below meth c cells slots Q D ad ca A nL L (pc + 1) (.inl (lCmp x y) :: r) ls σ) : ax_SW p l e R s m args below meth c cells slots Q D ad ca A nL L pc (.inr (.inl y) :: .inr (.inl x) :: r) ls σ :=
  sn_top (fun hst => ok_c (v := .inl (lCmp x y)) (lCmp_R x y) (ok_t (ok_t hst))) (fun hst H locs la _ _ k => W.lcmp C.1 C.2.1 hd (by rw [e_lcmp (ok_h (ok_t hst)) (ok_h hst)]; exact k)) h
theorem sn_dup (C : ax_Cx p s m args c D ad ca A cc nL oc L fx) {r ls : List AV} {σ : Hp} {pc : Nat} {v : AV} (hd : decode cc pc = .ok (.dup, 1)) (hv : ax_isL v = false)
    (h : ax_SW p l e R s m args below meth c cells slots Q D ad ca A nL L (pc + 1) (v :: v :: r) ls σ) : ax_SW p l e R s m args below meth c cells slots Q D ad ca A nL L pc (v :: r) ls σ :=
  sn_top (fun hst => ok_c (ok_h hst) hst) (fun hst H locs la _ _ k => lv_dup C.1 C.2.1 hd (ax_cat2 hv) k) h
theorem sn_dup_x1 (C : ax_Cx p s m args c D ad ca A cc nL oc L fx) {r ls : List AV} {σ : Hp} {pc : Nat} {v w : AV} (hd : decode cc pc = .ok (.dup_x1, 1)) (hv : ax_isL v = false) (hw : ax_isL w = false)
    (h : ax_SW p l e R s m args below meth c cells slots Q D ad ca A nL L (pc + 1) (v :: w :: v :: r) ls σ) : ax_SW p l e R s m args below meth c cells slots Q D ad ca A nL L pc (v :: w :: r) ls σ :=
  sn_top (fun hst => ok_c (ok_h hst) (ok_c (ok_h (ok_t hst)) (ok_c (ok_h hst) (ok_t (ok_t hst))))) (fun hst H locs la _ _ k => lv_dup_x1 C.1 C.2.1 hd (ax_cat2 hv) (ax_cat2 hw) k) h
theorem sn_dup2 (C : ax_Cx p s m args c D ad ca A cc nL oc L fx) {r ls : List AV} {σ : Hp} {pc : Nat} {v w : AV} (hd : decode cc pc = .ok (.dup2, 1)) (hv : ax_isL v = false) (hw : ax_isL w = false)
    (h : ax_SW p l e R s m args below meth c cells slots Q D ad ca A nL L (pc + 1) (v :: w :: v :: w :: r) ls σ) : ax_SW p l e R s m args below meth c cells slots Q D ad ca A nL L pc (v :: w :: r) ls σ :=
  sn_top (fun hst => ok_c (ok_h hst) (ok_c (ok_h (ok_t hst)) hst)) (fun hst H locs la _ _ k => lv_dup2_11 C.1 C.2.1 hd (ax_cat2 hv) (ax_cat2 hw) k) h
theorem sn_pop (C : ax_Cx p s m args c D ad ca A cc nL oc L fx) {r ls : List AV} {σ : Hp} {pc : Nat} {v : AV} (hd : decode cc pc = .ok (.pop, 1)) (hv : ax_isL v = false)
    (h : ax_SW p l e R s m args below meth c cells slots Q D ad ca A nL L (pc + 1) (r) ls σ) : ax_SW p l e R s m args below meth c cells slots Q D ad ca A nL L pc (v :: r) ls σ :=
  sn_top (fun hst => ok_t hst) (fun hst H locs la _ _ k => lv_pop C.1 C.2.1 hd (ax_cat2 hv) k) h
theorem sn_goto (C : ax_Cx p s m args c D ad ca A cc nL oc L fx) {st ls : List AV} {σ : Hp} {pc tgt : Nat} {off : Int} (hd : decode cc pc = .ok (.goto off, 3)) (ht : (pc : Int) + off = (tgt : Nat))
    (h : ax_SW p l e R s m args below meth c cells slots Q D ad ca A nL L tgt st ls σ) : ax_SW p l e R s m args below meth c cells slots Q D ad ca A nL L pc st ls σ := by
  intro H locs la hP hD hS hH hst hls hn hl
  exact lv_goto C.1 C.2.1 hd ht (h H locs la hP hD hS hH hst hls hn hl)
theorem sn_if (C : ax_Cx p s m args c D ad ca A cc nL oc L fx) {r ls : List AV} {σ : Hp} {pc tgt : Nat} {off x : Int} {cnd : ClassFile.Cond} (hd : decode cc pc = .ok (.ifCond cnd off, 3)) (ht : (pc : Int) + off = (tgt : Nat))
    (h1 : ax_cmp cnd x 0 → ax_SW p l e R s m args below meth c cells slots Q D ad ca A nL L tgt r ls σ) (h2 : ¬ ax_cmp cnd x 0 → ax_SW p l e R s m args below meth c cells slots Q D ad ca A nL L (pc + 3) r ls σ) : ax_SW p l e R s m args below meth c cells slots Q D ad ca A nL L pc (.inl x :: r) ls σ := by
  intro H locs la hP hD hS hH hst hls hn hl
  have hx : R32 x := ok_h hst
  have k1 : ax_cmp cnd x 0 → _ := fun z => h1 z H locs la hP hD hS hH (ok_t hst) hls hn hl
  have k2 : ¬ ax_cmp cnd x 0 → _ := fun z => h2 z H locs la hP hD hS hH (ok_t hst) hls hn hl
  have z0 : (0 : Int32) = Int32.ofInt 0 := rfl
  cases cnd with
  | eq => exact lv_if_eq C.1 C.2.1 hd ht (fun z => k1 ((c_eq hx R32_0).mp z)) (fun z => k2 (fun y => z ((c_eq hx R32_0).mpr y)))
  | ne => exact lv_if_ne C.1 C.2.1 hd ht (fun z => k1 (fun y => z ((c_eq hx R32_0).mpr y))) (fun z => k2 (fun y => y ((c_eq hx R32_0).mp z)))
  | lt => exact lv_if_lt C.1 C.2.1 hd ht (fun z => k1 ((c_lt hx R32_0).mp z)) (fun z => k2 (fun y => z ((c_lt hx R32_0).mpr y)))
  | ge => exact lv_if_ge C.1 C.2.1 hd ht (fun z => k1 ((c_le R32_0 hx).mp z)) (fun z => k2 (fun y => z ((c_le R32_0 hx).mpr y)))
  | gt => exact lv_if_gt C.1 C.2.1 hd ht (fun z => k1 ((c_lt R32_0 hx).mp z)) (fun z => k2 (fun y => z ((c_lt R32_0 hx).mpr y)))
  | le => exact lv_if_le C.1 C.2.1 hd ht (fun z => k1 ((c_le hx R32_0).mp z)) (fun z => k2 (fun y => z ((c_le hx R32_0).mpr y)))
theorem sn_icmp (C : ax_Cx p s m args c D ad ca A cc nL oc L fx) {r ls : List AV} {σ : Hp} {pc tgt : Nat} {off x y : Int} {cnd : ClassFile.Cond} (hd : decode cc pc = .ok (.if_icmp cnd off, 3)) (ht : (pc : Int) + off = (tgt : Nat))
    (h1 : ax_cmp cnd x y → ax_SW p l e R s m args below meth c cells slots Q D ad ca A nL L tgt r ls σ) (h2 : ¬ ax_cmp cnd x y → ax_SW p l e R s m args below meth c cells slots Q D ad ca A nL L (pc + 3) r ls σ) : ax_SW p l e R s m args below meth c cells slots Q D ad ca A nL L pc (.inl y :: .inl x :: r) ls σ := by
  intro H locs la hP hD hS hH hst hls hn hl
  have hy : R32 y := ok_h hst
  have hx : R32 x := ok_h (ok_t hst)
  have k1 : ax_cmp cnd x y → _ := fun z => h1 z H locs la hP hD hS hH (ok_t (ok_t hst)) hls hn hl
  have k2 : ¬ ax_cmp cnd x y → _ := fun z => h2 z H locs la hP hD hS hH (ok_t (ok_t hst)) hls hn hl
  cases cnd with
  | eq => exact lv_icmp_eq C.1 C.2.1 hd ht (fun z => k1 ((c_eq hx hy).mp z)) (fun z => k2 (fun y => z ((c_eq hx hy).mpr y)))
  | ne => exact lv_icmp_ne C.1 C.2.1 hd ht (fun z => k1 (fun y => z ((c_eq hx hy).mpr y))) (fun z => k2 (fun y => y ((c_eq hx hy).mp z)))
  | lt => exact lv_icmp_lt C.1 C.2.1 hd ht (fun z => k1 ((c_lt hx hy).mp z)) (fun z => k2 (fun y => z ((c_lt hx hy).mpr y)))
  | ge => exact lv_icmp_ge C.1 C.2.1 hd ht (fun z => k1 ((c_le hy hx).mp z)) (fun z => k2 (fun y => z ((c_le hy hx).mpr y)))
  | gt => exact lv_icmp_gt C.1 C.2.1 hd ht (fun z => k1 ((c_lt hy hx).mp z)) (fun z => k2 (fun y => z ((c_lt hy hx).mpr y)))
  | le => exact lv_icmp_le C.1 C.2.1 hd ht (fun z => k1 ((c_le hx hy).mp z)) (fun z => k2 (fun y => z ((c_le hx hy).mpr y)))
-- switches
theorem ax_sw_find {K : Nat → Prop} {x : Int} {d : Int × Nat} : ∀ {tg : List (Int × Nat)}, ax_sw K x (tg ++ [d]) → (∀ q ∈ tg, x = q.1 → (∀ q' ∈ tg, q'.1 = q.1 → q' = q) → K q.2) ∧ ((∀ q ∈ tg, x ≠ q.1) → K d.2) := by
  intro tg
  induction tg with
  | nil => intro h; exact ⟨fun q hq => (by cases hq), fun _ => h⟩
  | cons a r ih =>
    intro h
    have h' : (x = a.1 → K a.2) ∧ (¬ x = a.1 → ax_sw K x (r ++ [d])) := by
      cases r with
      | nil => exact h
      | cons b r => exact h
    constructor
    · intro q hq hx hu
      rcases List.mem_cons.mp hq with rfl | hq
      · exact h'.1 hx
      · by_cases ha : x = a.1
        · have := hu a List.mem_cons_self (by rw [← ha, hx])
          rw [← this]
          exact h'.1 ha
        · exact (ih (h'.2 ha)).1 q hq hx (fun q' hq' => hu q' (List.mem_cons_of_mem _ hq'))
    · intro hn
      exact (ih (h'.2 (hn a List.mem_cons_self))).2 (fun q hq => hn q (List.mem_cons_of_mem _ hq))
theorem sn_table (C : ax_Cx p s m args c D ad ca A cc nL oc L fx) {r ls : List AV} {σ : Hp} {pc len : Nat} {x d lo hi : Int} {offs : Array Int} {tg : List (Int × Nat)} (hd : decode cc pc = .ok (.tableswitch d lo hi offs, len))
    (hc : offs.size = (hi - lo + 1).toNat ∧ lo ≤ hi ∧ tg = ((List.range offs.size).map fun (i : Nat) => (lo + (i : Int), ((pc : Int) + offs.getD i 0).toNat)) ++ [(0, ((pc : Int) + d).toNat)] ∧ 0 ≤ (pc : Int) + d ∧ ∀ i, i < offs.size → 0 ≤ (pc : Int) + offs.getD i 0)
    (h : ax_sw (fun t => ax_SW p l e R s m args below meth c cells slots Q D ad ca A nL L t r ls σ) x tg) : ax_SW p l e R s m args below meth c cells slots Q D ad ca A nL L pc (.inl x :: r) ls σ := by
  obtain ⟨hsz, hlh, htg, hd0, ho0⟩ := hc
  subst htg
  obtain ⟨ha, hb⟩ := ax_sw_find h
  intro H locs la hP hD hS hH hst hls hn hl
  have hx : R32 x := ok_h hst
  have hxo : (Int32.ofInt x).toInt = x := o32 hx
  by_cases hin : lo ≤ x ∧ x ≤ hi
  · have hi1 : (x - lo).toNat < offs.size := by omega
    have e1 : ((x - lo).toNat : Int) = x - lo := by omega
    have hk := ha (lo + ((x - lo).toNat : Int), ((pc : Int) + offs.getD (x - lo).toNat 0).toNat) (List.mem_map.mpr ⟨(x - lo).toNat, List.mem_range.mpr hi1, rfl⟩) (by simp only; omega) (by
      intro q' hq' e
      obtain ⟨i, -, rfl⟩ := List.mem_map.mp hq'
      simp only at e
      have : i = (x - lo).toNat := by omega
      rw [this])
    refine lv_tableIn C.1 C.2.1 hd (by rw [hxo]; omega) (by rw [hxo]; omega) (off := offs.getD (x - lo).toNat 0) (tgt := ((pc : Int) + offs.getD (x - lo).toNat 0).toNat) ?_ ?_ (hk H locs la hP hD hS hH (ok_t hst) hls hn hl)
    · rw [hxo]
      simp [Array.getD_eq_getD_getElem?, hi1]
    · have := ho0 (x - lo).toNat hi1
      omega
  · refine lv_tableOut C.1 C.2.1 hd (by rw [hxo]; omega) (tgt := ((pc : Int) + d).toNat) (by omega) (hb ?_ H locs la hP hD hS hH (ok_t hst) hls hn hl)
    intro q hq e
    obtain ⟨i, hi1, rfl⟩ := List.mem_map.mp hq
    have := List.mem_range.mp hi1
    simp only at e
    omega
theorem sn_lookup (C : ax_Cx p s m args c D ad ca A cc nL oc L fx) {r ls : List AV} {σ : Hp} {pc len : Nat} {x d : Int} {ps : Array (Int × Int)} {tg : List (Int × Nat)} (hd : decode cc pc = .ok (.lookupswitch d ps, len))
    (hc : (ps.toList.zip (ps.toList.drop 1)).all (fun (a, next) => a.1 < next.1) = true ∧ tg = (ps.toList.map fun q => (q.1, ((pc : Int) + q.2).toNat)) ++ [(0, ((pc : Int) + d).toNat)] ∧ 0 ≤ (pc : Int) + d ∧ ∀ q ∈ ps.toList, 0 ≤ (pc : Int) + q.2)
    (h : ax_sw (fun t => ax_SW p l e R s m args below meth c cells slots Q D ad ca A nL L t r ls σ) x tg) : ax_SW p l e R s m args below meth c cells slots Q D ad ca A nL L pc (.inl x :: r) ls σ := by
  obtain ⟨hsrt, htg, hd0, ho0⟩ := hc
  subst htg
  intro H locs la hP hD hS hH hst hls hn hl
  have hx : R32 x := ok_h hst
  have hxo : (Int32.ofInt x).toInt = x := o32 hx
  have key : ∀ (qs : List (Int × Int)), (∀ q ∈ qs, 0 ≤ (pc : Int) + q.2) → ax_sw (fun t => ax_SW p l e R s m args below meth c cells slots Q D ad ca A nL L t r ls σ) x ((qs.map fun q => (q.1, ((pc : Int) + q.2).toNat)) ++ [(0, ((pc : Int) + d).toNat)]) →
      ∃ tgt : Nat, (pc : Int) + Op.lookupswitch.offset qs d x = (tgt : Int) ∧ ax_SW p l e R s m args below meth c cells slots Q D ad ca A nL L tgt r ls σ := by
    intro qs
    induction qs with
    | nil => intro _ hw; exact ⟨((pc : Int) + d).toNat, by simp [Op.lookupswitch.offset]; omega, hw⟩
    | cons a qr ih =>
      intro hq hw
      have h' : (x = a.1 → ax_SW p l e R s m args below meth c cells slots Q D ad ca A nL L ((pc : Int) + a.2).toNat r ls σ) ∧ (¬ x = a.1 → ax_sw (fun t => ax_SW p l e R s m args below meth c cells slots Q D ad ca A nL L t r ls σ) x ((qr.map fun q => (q.1, ((pc : Int) + q.2).toNat)) ++ [(0, ((pc : Int) + d).toNat)])) := by
        cases qr with
        | nil => exact hw
        | cons b qr => exact hw
      by_cases ha : x = a.1
      · refine ⟨((pc : Int) + a.2).toNat, ?_, h'.1 ha⟩
        have := hq a List.mem_cons_self
        simp [Op.lookupswitch.offset, ha]
        omega
      · obtain ⟨t, h1, h2⟩ := ih (fun q hh => hq q (List.mem_cons_of_mem _ hh)) (h'.2 ha)
        refine ⟨t, ?_, h2⟩
        rw [← h1]
        have ha' : ¬ a.1 = x := fun z => ha z.symm
        simp [Op.lookupswitch.offset, ha']
  obtain ⟨tgt, h1, h2⟩ := key ps.toList ho0 h
  exact lv_lookup C.1 C.2.1 hd hsrt (off := Op.lookupswitch.offset ps.toList d x) (by rw [hxo]) h1 (h2 H locs la hP hD hS hH (ok_t hst) hls hn hl)
end SND2
