-- THE LAW: its loop keeps what holds
def lwK (L n : Nat) : lwKT := fun pc' st' ls' σ' => ∃ n', n' < n ∧ Law_I L pc' n' st' ls' σ'
theorem lw_b {L v3 : Nat} (hL : L ≤ 3072) (hv : v3 + 6 ≤ L) {j : Int} (h1 : 0 ≤ j) (h2 : j ≤ 5) : 0 ≤ wr ((v3 : Int) + j) ∧ wr ((v3 : Int) + j) < (L : Int) := by
  rw [wr_id (by omega) (by omega)]; omega
set_option maxRecDepth 100000 in
set_option maxHeartbeats 4000000 in
theorem Law_all {L n v3 : Nat} {fx : Nat → Int} {σ : Hp} (hL : L ≤ 3072) (hv : v3 + 6 ≤ L) (hI : ∃ d, LI d σ) (hn : n = 3 * (L + 10 - v3) - 1) : ∀ t ∈ Law_cs, ax_wp fx Law_ct lwRt Law_bk (lwK L n) Law_cut 60 t [] (lwL L (v3 : Int)) σ := by
  have b1 := lw_b hL hv (j := 1) (by decide) (by decide)
  have b2 := lw_b hL hv (j := 2) (by decide) (by decide)
  have b3 := lw_b hL hv (j := 3) (by decide) (by decide)
  have b4 := lw_b hL hv (j := 4) (by decide) (by decide)
  have b5 := lw_b hL hv (j := 5) (by decide) (by decide)
  have hK : ∀ σ', (∃ d, LI d σ') → lwK L n 1393 [] (lwL L (v3 : Int)) σ' := fun σ' h => ⟨3 * (L + 10 - v3) - 2, by omega, rfl, v3, rfl, h, hL, by omega, Or.inr (Or.inl ⟨rfl, hv, rfl⟩)⟩
  exact List.forall_mem_cons.mpr ⟨Law_c236 (fx := fx) b1 b2 b3 b4 b5 hI hK, List.forall_mem_cons.mpr ⟨Law_c299 (fx := fx) b1 b2 b3 b4 b5 hI hK, List.forall_mem_cons.mpr ⟨Law_c322 (fx := fx) b1 b2 b3 b4 b5 hI hK, List.forall_mem_cons.mpr ⟨Law_c335 (fx := fx) b1 b2 b3 b4 b5 hI hK, List.forall_mem_cons.mpr ⟨Law_c358 (fx := fx) b1 b2 b3 b4 b5 hI hK, List.forall_mem_cons.mpr ⟨Law_c391 (fx := fx) b1 b2 b3 b4 b5 hI hK, List.forall_mem_cons.mpr ⟨Law_c404 (fx := fx) b1 b2 b3 b4 b5 hI hK, List.forall_mem_cons.mpr ⟨Law_c417 (fx := fx) b1 b2 b3 b4 b5 hI hK, List.forall_mem_cons.mpr ⟨Law_c450 (fx := fx) b1 b2 b3 b4 b5 hI hK, List.forall_mem_cons.mpr ⟨Law_c483 (fx := fx) b1 b2 b3 b4 b5 hI hK, List.forall_mem_cons.mpr ⟨Law_c516 (fx := fx) b1 b2 b3 b4 b5 hI hK, List.forall_mem_cons.mpr ⟨Law_c549 (fx := fx) b1 b2 b3 b4 b5 hI hK, List.forall_mem_cons.mpr ⟨Law_c562 (fx := fx) b1 b2 b3 b4 b5 hI hK, List.forall_mem_cons.mpr ⟨Law_c575 (fx := fx) b1 b2 b3 b4 b5 hI hK, List.forall_mem_cons.mpr ⟨Law_c588 (fx := fx) b1 b2 b3 b4 b5 hI hK, List.forall_mem_cons.mpr ⟨Law_c601 (fx := fx) b1 b2 b3 b4 b5 hI hK, List.forall_mem_cons.mpr ⟨Law_c624 (fx := fx) b1 b2 b3 b4 b5 hI hK, List.forall_mem_cons.mpr ⟨Law_c657 (fx := fx) b1 b2 b3 b4 b5 hI hK, List.forall_mem_cons.mpr ⟨Law_c670 (fx := fx) b1 b2 b3 b4 b5 hI hK, List.forall_mem_cons.mpr ⟨Law_c713 (fx := fx) b1 b2 b3 b4 b5 hI hK, List.forall_mem_cons.mpr ⟨Law_c736 (fx := fx) b1 b2 b3 b4 b5 hI hK, List.forall_mem_cons.mpr ⟨Law_c759 (fx := fx) b1 b2 b3 b4 b5 hI hK, List.forall_mem_cons.mpr ⟨Law_c792 (fx := fx) b1 b2 b3 b4 b5 hI hK, List.forall_mem_cons.mpr ⟨Law_c805 (fx := fx) b1 b2 b3 b4 b5 hI hK, List.forall_mem_cons.mpr ⟨Law_c838 (fx := fx) b1 b2 b3 b4 b5 hI hK, List.forall_mem_cons.mpr ⟨Law_c861 (fx := fx) b1 b2 b3 b4 b5 hI hK, List.forall_mem_cons.mpr ⟨Law_c874 (fx := fx) b1 b2 b3 b4 b5 hI hK, List.forall_mem_cons.mpr ⟨Law_c887 (fx := fx) b1 b2 b3 b4 b5 hI hK, List.forall_mem_cons.mpr ⟨Law_c900 (fx := fx) b1 b2 b3 b4 b5 hI hK, List.forall_mem_cons.mpr ⟨Law_c923 (fx := fx) b1 b2 b3 b4 b5 hI hK, List.forall_mem_cons.mpr ⟨Law_c936 (fx := fx) b1 b2 b3 b4 b5 hI hK, List.forall_mem_cons.mpr ⟨Law_c959 (fx := fx) b1 b2 b3 b4 b5 hI hK, List.forall_mem_cons.mpr ⟨Law_c992 (fx := fx) b1 b2 b3 b4 b5 hI hK, List.forall_mem_cons.mpr ⟨Law_c1025 (fx := fx) b1 b2 b3 b4 b5 hI hK, List.forall_mem_cons.mpr ⟨Law_c1048 (fx := fx) b1 b2 b3 b4 b5 hI hK, List.forall_mem_cons.mpr ⟨Law_c1081 (fx := fx) b1 b2 b3 b4 b5 hI hK, List.forall_mem_cons.mpr ⟨Law_c1094 (fx := fx) b1 b2 b3 b4 b5 hI hK, List.forall_mem_cons.mpr ⟨Law_c1107 (fx := fx) b1 b2 b3 b4 b5 hI hK, List.forall_mem_cons.mpr ⟨Law_c1130 (fx := fx) b1 b2 b3 b4 b5 hI hK, List.forall_mem_cons.mpr ⟨Law_c1189 (fx := fx) b1 b2 b3 b4 b5 hI hK, List.forall_mem_cons.mpr ⟨Law_c1212 (fx := fx) b1 b2 b3 b4 b5 hI hK, List.forall_mem_cons.mpr ⟨Law_c1235 (fx := fx) b1 b2 b3 b4 b5 hI hK, List.forall_mem_cons.mpr ⟨Law_c1258 (fx := fx) b1 b2 b3 b4 b5 hI hK, List.forall_mem_cons.mpr ⟨Law_c1291 (fx := fx) b1 b2 b3 b4 b5 hI hK, List.forall_mem_cons.mpr ⟨Law_c1324 (fx := fx) b1 b2 b3 b4 b5 hI hK, List.forall_mem_cons.mpr ⟨Law_c1347 (fx := fx) b1 b2 b3 b4 b5 hI hK, List.forall_mem_cons.mpr ⟨Law_c1370 (fx := fx) b1 b2 b3 b4 b5 hI hK, fun _ h => absurd h List.not_mem_nil⟩⟩⟩⟩⟩⟩⟩⟩⟩⟩⟩⟩⟩⟩⟩⟩⟩⟩⟩⟩⟩⟩⟩⟩⟩⟩⟩⟩⟩⟩⟩⟩⟩⟩⟩⟩⟩⟩⟩⟩⟩⟩⟩⟩⟩⟩⟩
set_option maxRecDepth 100000 in
set_option maxHeartbeats 4000000 in
theorem Law_vc {L : Nat} {fx : Nat → Int} : ∀ n pc st ls σ, ax_H σ → Law_I L pc n st ls σ → ax_wp fx Law_ct lwRt Law_bk (fun pc' st' ls' σ' => ∃ n', n' < n ∧ Law_I L pc' n' st' ls' σ') Law_cut 60 pc st ls σ := by
  intro n pc st ls σ hH hI
  obtain ⟨rfl, v3, rfl, hI, hL, hv, hc⟩ := hI
  rcases hc with ⟨rfl, rfl⟩ | ⟨rfl, hv6, rfl⟩ | ⟨hpc, hv6, rfl⟩
  · exact Law_p18 (K := lwK L (3 * (L + 10 - v3))) hL hv (fun h t ht => ⟨3 * (L + 10 - v3) - 1, by omega, rfl, v3, rfl, hI, hL, hv, Or.inr (Or.inr ⟨ht, h, rfl⟩)⟩) (fun h => ⟨3 * (L + 10 - v3) - 2, by omega, rfl, v3, rfl, hI, hL, hv, Or.inr (Or.inl ⟨rfl, h, rfl⟩)⟩)
  · have e : wr ((v3 : Int) + 6) = ((v3 + 6 : Nat) : Int) := by rw [wr_id (by omega) (by omega)]; simp
    have : lwK L (3 * (L + 10 - v3) - 2) 18 [] (lwL L (wr ((v3 : Int) + 6))) σ := by
      rw [e]
      exact ⟨3 * (L + 10 - (v3 + 6)), by omega, rfl, v3 + 6, rfl, hI, hL, by omega, Or.inl ⟨rfl, rfl⟩⟩
    exact this
  · exact Law_all hL hv6 hI rfl pc hpc
section LAWSW
variable {p : Program} {l : Launch} {e : Env} {s : State} {m : MethodId} {below : List Frame} {meth : Method} {c : Code} {b : Nat} {cells slots : Nat}
variable {D : va_G} {ad : Nat → Nat} {ca : Nat → ClassId} {L : Nat} {fx : Nat → Int}
theorem Law_ret (C : ax_Cx p s m #[Value.ref b] c D ad ca (fun q => s.heap.size ≤ q) code 4 10 L fx) (hr : meth.sig.returnType = ret) (hlocks : meth.locks = false) (hc : cells ≤ 600000) (hs : slots ≤ 7302250) : ax_RetOk p l e room_1 s m #[Value.ref b] below meth c cells slots (lw_Z below #[Value.ref b] s) D ad ca (fun q => s.heap.size ≤ q) code 4 L lwRt := by
  refine ⟨?_, ?_, ?_⟩
  · intro pc ls σ x hd hx H locs la hP hD hS hH hst hls hn hl
    have hx1 : x = 1 := by
      have : (some (.inl x) : Option AV) = some (.inl 1) := hx
      exact Sum.inl.inj (Option.some.inj this)
    subst hx1
    refine va_forget (fun q hq => hS.2.2 q hq) ?_
    refine W.widen (k := 600000) (n := 7302250) hc hs ?_
    exact lw_ret C.1 C.2.1 hr hlocks hd
  · intro pc ls σ x hd hx
    have : (some (.inr (.inr (.inl x))) : Option AV) = some (.inl 1) := hx
    exact absurd (Option.some.inj this) (fun z => by cases z)
  · intro pc ls σ hd hx
    have : (none : Option AV) = some (.inl 1) := hx
    cases this
theorem Law_SW (C : ax_Cx p s m #[Value.ref b] c D ad ca (fun q => s.heap.size ≤ q) code 4 10 L fx) (hr : meth.sig.returnType = ret) (hlocks : meth.locks = false) (hc : cells ≤ 600000) (hs : slots ≤ 7302250) (hL : L ≤ 3072) {σ : Hp} (hI : ∃ d, LI d σ) : ax_SW p l e room_1 s m #[Value.ref b] below meth c cells slots (lw_Z below #[Value.ref b] s) D ad ca (fun q => s.heap.size ≤ q) 4 L 18 [] (lwL L 0) σ := by
  have hcall : ∀ q ∈ Law_cl, ax_CallOk p l e room_1 s m #[Value.ref b] below meth c cells slots (lw_Z below #[Value.ref b] s) D ad ca (fun q => s.heap.size ≤ q) code 4 L q.1 (Law_ct q.2) :=
    fun q hq => Law_calls q hq p e room_1 s m _ below meth c cells slots _ _ code 4 C (by decide) (by decide) hc hs
  exact sn_floyd C (Law_ret C hr hlocks hc hs) hcall Law_ck (I := Law_I L) (f := 60) (cut := Law_cut) Law_vc (3 * (L + 10 - 0)) 18 [] (lwL L 0) σ ⟨rfl, 0, rfl, hI, hL, Nat.zero_le _, Or.inl ⟨rfl, rfl⟩⟩
end LAWSW
