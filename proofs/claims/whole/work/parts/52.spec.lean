-- THE ANSWERS: what a call answers and does, in one picture for the class and the reference
abbrev AS : Type := Tp × (Int × Int) × Fam × Sta × (List Sta × List Sta) × (Nat → Option Sta) × Sgt × (Nat × (Nat → Int)) × Int
abbrev aB (A : AS) : Tp := A.1
abbrev aFt (A : AS) : Int × Int := A.2.1
abbrev aF (A : AS) : Fam := A.2.2.1
abbrev aS (A : AS) : Sta := A.2.2.2.1
abbrev aH (A : AS) : List Sta × List Sta := A.2.2.2.2.1
abbrev aX (A : AS) : Nat → Option Sta := A.2.2.2.2.2.1
abbrev aG (A : AS) : Sgt := A.2.2.2.2.2.2.1
abbrev aL (A : AS) : Nat × (Nat → Int) := A.2.2.2.2.2.2.2.1
abbrev aT (A : AS) : Int := A.2.2.2.2.2.2.2.2
abbrev zr : Nat → Int := fun _ => 0
abbrev isP (A : AS) (p : Int) : Prop := 0 ≤ p ∧ p < (fN (aF A) : Int)
abbrev two (A : AS) (p o : Int) : Prop := (isP A p ∧ isP A o) ∧ ¬ p = o
abbrev o01 (w : Int) : Prop := w = 0 ∨ w = 1
def hk (H : List Sta) (s : Sta) : List Sta := (if H.length < 40 then H else H.tail) ++ [s]
def act (A : AS) (s : Sta) : AS := (A.1, A.2.1, A.2.2.1, s, (hk (aH A).1 (aS A), []), A.2.2.2.2.2)
def wL (A : AS) (n : Nat) (f : Nat → Int) : AS := (A.1, A.2.1, A.2.2.1, A.2.2.2.1, A.2.2.2.2.1, A.2.2.2.2.2.1, A.2.2.2.2.2.2.1, (n, f), A.2.2.2.2.2.2.2.2)
def wG (A : AS) (G : Sgt) : AS := (A.1, A.2.1, A.2.2.1, A.2.2.2.1, A.2.2.2.2.1, A.2.2.2.2.2.1, G, A.2.2.2.2.2.2.2)
def wT (A : AS) (t : Int) : AS := (A.1, A.2.1, A.2.2.1, A.2.2.2.1, A.2.2.2.2.1, A.2.2.2.2.2.1, A.2.2.2.2.2.2.1, A.2.2.2.2.2.2.2.1, t)
def wX (A : AS) (b : Nat → Option Sta) : AS := (A.1, A.2.1, A.2.2.1, A.2.2.2.1, A.2.2.2.2.1, b, A.2.2.2.2.2.2)
def wH (A : AS) (s : Sta) (h : List Sta × List Sta) : AS := (A.1, A.2.1, A.2.2.1, s, h, A.2.2.2.2.2)
/-- a call that only answers -/
def Ob (A : AS) (Q : Int → Prop) (r : Int) (A' : AS) : Prop := A' = A ∧ Q r
def fv (a b c d e : Int) (j : Nat) : Int := if j = 0 then a else if j = 1 then b else if j = 2 then c else if j = 3 then d else e
def fb (a b c d e : Int) (j : Nat) : Int := iByte (iShr (fv a b c d e (j / 4)) (24 - 8 * ((j % 4 : Nat) : Int)))
def s_feed (A : AS) (a b c d e : Int) (r : Int) (A' : AS) : Prop := if 1580 < (aB A).2 then r = -1 ∧ A' = A else r = ((aB A).2 + 20 : Nat) ∧ A' = ((fun i => if i < (aB A).2 then (aB A).1 i else if i < (aB A).2 + 20 then fb a b c d e (i - (aB A).2) else 0, (aB A).2 + 20), A.2)
def s_end (A : AS) (n : Int) (r : Int) (A' : AS) : Prop := if 0 ≤ n ∧ n ≤ ((aB A).2 : Int) then r = n ∧ A' = ((tr n.toNat (aB A).1, n.toNat), A.2) else r = -1 ∧ A' = A
def sg0 : Sgt := (0, zr, zr, zr, zr, zr)
def fam1 (A : AS) (q : PS) : AS := ((zr, 0), (0, -1), famO q, bgn (famO q) (-1) 0, ([], []), (fun _ => none), sg0, (0, zr), aT A)
def s_family (A : AS) (r : Int) (A' : AS) : Prop := ∃ o, RdA (aB A) o ∧ (match o with
  | .inl x => r = -1 ∧ A' = ((zr, 0), (x.1, ((tS (aB A) x.2 : Nat) : Int)), A.2.2)
  | .inr x => r = (fN (famO x.1) : Nat) ∧ A' = fam1 A x.1)
def s_fault (A : AS) (w : Int) (r : Int) (A' : AS) : Prop := Ob A (fun r => r = if w = 0 then (aFt A).1 else if w = 1 then (aFt A).2 else -1) r A'
def s_person (A : AS) (p w : Int) (r : Int) (A' : AS) : Prop := Ob A (fun r => r = if isP A p then (if w = 0 then fHou (aF A) p.toNat else if w = 1 then (aS A).1 p.toNat else if w = 2 then wry (aF A) (aS A) p.toNat else if w = 3 then (aS A).2.1 p.toNat else if w = 4 then ((kb (aS A).2.1 p.toNat 6 : Nat) : Int) else if w = 5 then fOdd (aF A) p.toNat else if w = 6 then fAmt (aF A) p.toNat else -1) else -1) r A'
def s_hair (A : AS) (r : Int) (A' : AS) : Prop := Ob A (fun r => r = (aS A).2.2.1) r A'
def s_day (A : AS) (r : Int) (A' : AS) : Prop := if 999 ≤ (aS A).2.2.2.1 then r = -2 ∧ A' = A else r = (stp (aF A) (-1) (aS A)).2.2.1 ∧ A' = act A (stp (aF A) (-1) (aS A))
def s_chg (A : AS) (p c v : Int) (r : Int) (A' : AS) : Prop := if isP A p ∧ (1 ≤ c ∧ c ≤ 9) then r = (chg (aS A) p.toNat v).1 p.toNat ∧ A' = act A (chg (aS A) p.toNat v) else r = -1 ∧ A' = A
def s_ease (A : AS) (p c : Int) : Int → AS → Prop := s_chg A p c (-c)
def s_take (A : AS) (p c : Int) : Int → AS → Prop := s_chg A p c c
def tel (s : Sta) (p o : Nat) : Sta := wkn s p (((s.2.1 p).toNat ||| 2 ^ o : Nat) : Int)
def fgt (s : Sta) (p o : Nat) : Sta := wkn s p ((ndf (s.2.1 p).toNat (2 ^ o) : Nat) : Int)
def s_tell (A : AS) (p o : Int) (r : Int) (A' : AS) : Prop := if two A p o ∧ ¬ bt ((aS A).2.1 p.toNat) o.toNat = true ∧ kn (aS A).2.1 6 < 12 then r = wry (aF A) (tel (aS A) p.toNat o.toNat) p.toNat ∧ A' = act A (tel (aS A) p.toNat o.toNat) else r = -1 ∧ A' = A
def s_forget (A : AS) (p o : Int) (r : Int) (A' : AS) : Prop := if two A p o ∧ bt ((aS A).2.1 p.toNat) o.toNat = true then r = wry (aF A) (fgt (aS A) p.toNat o.toNat) p.toNat ∧ A' = act A (fgt (aS A) p.toNat o.toNat) else r = -1 ∧ A' = A
def plk (F : Fam) (s : Sta) : Sta := (s.1, s.2.1, goes F s s.2.2.1, s.2.2.2.1, s.2.2.2.2.1, 0)
def s_pluck (A : AS) (r : Int) (A' : AS) : Prop := if (aS A).2.2.1 = -1 then r = -2 ∧ A' = A else r = goes (aF A) (aS A) (aS A).2.2.1 ∧ A' = act A (plk (aF A) (aS A))
def dyd (s : Sta) : Sta := (s.1, s.2.1, s.2.2.1, s.2.2.2.1, s.2.2.2.2.1, 1)
def s_dye (A : AS) (r : Int) (A' : AS) : Prop := if ¬ (aS A).2.2.2.2.2 = 0 ∨ (aS A).2.2.1 = -1 then r = -1 ∧ A' = A else r = (aS A).2.2.1 ∧ A' = act A (dyd (aS A))
def s_undo (A : AS) (r : Int) (A' : AS) : Prop := if (aH A).1 = [] then r = 0 ∧ A' = A else r = 1 ∧ ∃ t, (aH A).1.getLast? = some t ∧ A' = wH A t ((aH A).1.dropLast, aS A :: (aH A).2)
def s_redo (A : AS) (r : Int) (A' : AS) : Prop := match (aH A).2 with
  | [] => r = 0 ∧ A' = A
  | t :: R => r = 1 ∧ A' = wH A t ((aH A).1 ++ [aS A], R)
def s_will (A : AS) (n : Int) (r : Int) (A' : AS) : Prop := Ob A (fun r => r = if 0 ≤ n ∧ n ≤ 60 then (itr (aF A) (-1) (aS A) n.toNat).2.2.1 else -2) r A'
def s_cares (A : AS) (p n : Int) (r : Int) (A' : AS) : Prop := Ob A (fun r => r = if isP A p ∧ (0 ≤ n ∧ n ≤ 60) then (itr (aF A) 0 (aS A) n.toNat).1 p.toNat else -1) r A'
def s_next (A : AS) (r : Int) (A' : AS) : Prop := Ob A (fun r => r = (itr (aF A) 0 (aS A) 1).2.2.1) r A'
def s_spare (A : AS) (p n w : Int) (r : Int) (A' : AS) : Prop := Ob A (fun r => if isP A p ∧ (1 ≤ n ∧ n ≤ 20) ∧ o01 w then SpR (aF A) (aS A) p n.toNat w r else r = -1) r A'
def s_easing (A : AS) (p : Int) (r : Int) (A' : AS) : Prop := Ob A (fun r => if isP A p then Lst (fun l => Spd (aF A) (chg (aS A) p.toNat (-(l : Int))) p 1) (((aS A).1 p.toNat).toNat + 1) r else r = -1) r A'
def cos (v w : Int) : Int := if v = -1 ∨ w = 1 then v else (pc v.toNat : Nat)
def s_hush (A : AS) (w : Int) (r : Int) (A' : AS) : Prop := Ob A (fun r => if o01 w then ∃ v, Bst (husP (aF A) (aS A)) (2 ^ kn (aS A).2.1 6) v ∧ r = cos v w else r = -1) r A'
def KnR (s : Sta) (i w r : Int) : Prop := (∃ p o : Nat, p < 6 ∧ o < 6 ∧ bt (s.2.1 p) o = true ∧ (ix s.2.1 p o : Int) = i ∧ r = if w = 0 then (p : Int) else (o : Int)) ∨ (r = -1 ∧ ∀ p o : Nat, p < 6 → o < 6 → bt (s.2.1 p) o = true → ¬ (ix s.2.1 p o : Int) = i)
def s_knows (A : AS) (i w : Int) (r : Int) (A' : AS) : Prop := Ob A (fun r => if 0 ≤ i ∧ o01 w then KnR (aS A) i w r else r = -1) r A'
def s_wed (A : AS) (r : Int) (A' : AS) : Prop := ∃ row, WedR (aF A) (aS A) r row ∧ A' = if r = -1 then wL A 0 zr else wL A (fN (aF A)) (tr (fN (aF A)) row)
def s_nights (A : AS) (p n : Int) (r : Int) (A' : AS) : Prop := Ob A (fun r => r = if isP A p ∧ (0 ≤ n ∧ n ≤ 60) then ((cnt (aF A) (aS A) p n.toNat : Nat) : Int) else -1) r A'
def fsn (F : Fam) (s : Sta) (p r : Int) : Prop := Ls1 (fun i => (itr F 0 s (i + 1)).2.2.1 = p) 60 r
def s_returns (A : AS) (p : Int) (r : Int) (A' : AS) : Prop := Ob A (fun r => if isP A p then fsn (aF A) (aS A) p r else r = -1) r A'
def s_rank (A : AS) (r : Int) (A' : AS) : Prop := ∃ w, Rnk (aF A) (aS A) (fN (aF A)) w ∧ r = (fN (aF A) : Nat) ∧ A' = wL A (fN (aF A)) (tr (fN (aF A)) w)
def s_words (A : AS) (r : Int) (A' : AS) : Prop := Ob A (fun r => r = (wto (aF A) (aS A) (fN (aF A)) (fN (aF A)) : Nat)) r A'
def s_peace (A : AS) (r : Int) (A' : AS) : Prop := Ob A (fun r => if (aS A).2.2.1 = -1 then r = 0 else fsn (aF A) (aS A) (-1) r) r A'
def s_burden (A : AS) (n : Int) (r : Int) (A' : AS) : Prop := Ob A (fun r => r = if 0 ≤ n ∧ n ≤ 60 then sm (itr (aF A) 0 (aS A) n.toNat).1 63 6 else -1) r A'
def s_calm (A : AS) (r : Int) (A' : AS) : Prop := Ob A (fun r => r = clm (aF A) (aS A)) r A'
def cwr (F : Fam) (s : Sta) (n : Int) : Nat → Nat
  | 0 => 0
  | p + 1 => cwr F s n p + (if n ≤ wry F s p then 1 else 0)
def s_law (A : AS) (n : Int) (r : Int) (A' : AS) : Prop := Ob A (fun r => r = if 0 ≤ n ∧ n ≤ 999 then ((cwr (aF A) (aS A) n (fN (aF A)) : Nat) : Int) else -1) r A'
def s_odds (A : AS) (p w : Int) (r : Int) (A' : AS) : Prop := Ob A (fun r => r = if (p = -1 ∨ isP A p) ∧ o01 w then odd (aF A) (aS A) p w else -1) r A'
def s_duel (A : AS) (p o : Int) (r : Int) (A' : AS) : Prop := if two A p o then r = (crs (dlW (aF A) (aS A) p.toNat o.toNat) p o 100 : Nat) ∧ ∃ L, DlF (dlW (aF A) (aS A) p.toNat o.toNat) p o 100 L ∧ A' = (if r = 0 then wL A 0 zr else wL A 2 (tr 2 L)) else r = -1 ∧ A' = wL A 0 zr
def s_path (A : AS) (n : Int) (r : Int) (A' : AS) : Prop := if 1 ≤ n ∧ n ≤ 6 then r = (cnt (aF A) (aS A) (-1) n.toNat : Nat) ∧ A' = wL A n.toNat (tr n.toNat (fun i => (itr (aF A) 0 (aS A) (i + 1)).2.2.1)) else r = -1 ∧ A' = wL A 0 zr
def s_silence (A : AS) (p w : Int) (r : Int) (A' : AS) : Prop := Ob A (fun r => if isP A p ∧ o01 w then ∃ v, Bst (silP (aF A) (aS A) p.toNat) 64 v ∧ r = cos v w else r = -1) r A'
def alo (s : Sta) : Nat → Nat
  | 0 => 0
  | n + 1 => alo s n ||| (if s.2.1 n = 0 ∧ kb s.2.1 n 6 = 0 then 2 ^ n else 0)
def s_alone (A : AS) (r : Int) (A' : AS) : Prop := Ob A (fun r => r = (alo (aS A) (fN (aF A)) : Nat)) r A'
def hvy (s : Sta) : Nat → Int
  | 0 => -1
  | n + 1 => if hvy s n = -1 ∨ s.1 (hvy s n).toNat < s.1 n then (n : Int) else hvy s n
def s_heaviest (A : AS) (r : Int) (A' : AS) : Prop := Ob A (fun r => r = hvy (aS A) (fN (aF A))) r A'
def s_lies (A : AS) (i : Int) (r : Int) (A' : AS) : Prop := Ob A (fun r => r = if 0 ≤ i ∧ i < ((aL A).1 : Int) then (aL A).2 i.toNat else -2) r A'
def adG' (G : Sgt) (d p w t : Int) : Sgt := (G.1 + 1, va_up G.2.1 G.1 d, va_up G.2.2.1 G.1 p, va_up G.2.2.2.1 G.1 w, va_up G.2.2.2.2.1 G.1 t, va_up G.2.2.2.2.2 G.1 (-1))
def s_seen (A : AS) (d p w : Int) (r : Int) (A' : AS) : Prop := if (¬ fN (aF A) = 0 ∧ (p = -1 ∨ isP A p)) ∧ (0 ≤ d ∧ d < 10) ∧ (aG A).1 < 30 then r = ((aG A).1 : Nat) ∧ A' = wG A (adG' (aG A) d p w (aT A)) else r = -1 ∧ A' = A
def unG (G : Sgt) (i : Nat) (t : Int) : Sgt := (G.1, G.2.1, G.2.2.1, G.2.2.2.1, G.2.2.2.2.1, va_up G.2.2.2.2.2 i t)
def s_untell (A : AS) (i : Int) (r : Int) (A' : AS) : Prop := if (0 ≤ i ∧ i < ((aG A).1 : Int)) ∧ (aG A).2.2.2.2.2 i.toNat = -1 then r = 1 ∧ A' = wG A (unG (aG A) i.toNat (aT A)) else r = 0 ∧ A' = A
def s_later (A : AS) (b : Int) (r : Int) (A' : AS) : Prop := if (0 ≤ b ∧ b ≤ 1000) ∧ aT A + b ≤ 100000 then r = aT A + b ∧ A' = wT A (aT A + b) else r = -1 ∧ A' = A
def s_fits (A : AS) (k : Int) (r : Int) (A' : AS) : Prop := Ob A (fun r => r = (nfit (aF A) (aG A) k 100 : Nat)) r A'
def s_sure (A : AS) (w k : Int) (r : Int) (A' : AS) : Prop := Ob A (fun r => if w = 0 then Lst (fun c => fts (aF A) (aG A) k c = true) 100 r else if w = 1 then Gst (fun c => fts (aF A) (aG A) k c = true) 100 r else r = -1) r A'
def lmP (F : Fam) (G : Sgt) (k : Int) (d : Nat) : Nat := lmx (fun c => if fts F G k c = true then 1 else 0) (fun i => wsn F (i / 10) (i % 10)) d 100
def s_ask (A : AS) (w k : Int) (r : Int) (A' : AS) : Prop := Ob A (fun r => r = if o01 w ∧ ¬ nfit (aF A) (aG A) k 100 = 0 then (if w = 0 then ((bdy (lmP (aF A) (aG A) k) 9 : Nat) : Int) else (lmP (aF A) (aG A) k (bdy (lmP (aF A) (aG A) k) 9) : Nat)) else -1) r A'
def s_image (A : AS) (b : Int) (r : Int) (A' : AS) : Prop := if 0 ≤ b ∧ b < 3 then r = (aS A).2.2.2.1 ∧ A' = wX A (fun i => if i = b.toNat then some (aS A) else aX A i) else r = -1 ∧ A' = A
def s_back (A : AS) (b : Int) (r : Int) (A' : AS) : Prop := match (if 0 ≤ b ∧ b < 3 then aX A b.toNat else none) with
  | none => r = -1 ∧ A' = A
  | some t => r = t.2.2.2.1 ∧ A' = wH A t ([], [])
def s_about (A : AS) (w : Int) (r : Int) (A' : AS) : Prop := Ob A (fun r => r =
  if w = 0 then ((fN (aF A) : Nat) : Int) else if w = 1 then ((kn (aS A).2.1 6 : Nat) : Int) else if w = 2 then fEas (aF A) else if w = 3 then (aS A).2.2.2.2.2 else if w = 4 then (aS A).2.2.2.1 else if w = 5 then (aS A).2.2.2.2.1
  else if w = 6 then (((aH A).1.length : Nat) : Int) else if w = 7 then (((aH A).2.length : Nat) : Int) else if w = 8 then (((aG A).1 : Nat) : Int) else if w = 9 then aT A else if w = 10 then (((aB A).2 : Nat) : Int) else if w = 11 then fUni (aF A) else if w = 12 then (((aL A).1 : Nat) : Int) else -1) r A'
-- what the picture can be
def WFm (q : Frm) : Prop := (q.1 = 0 ∧ q.2.1 = 0) ∨ (q.1 = 1 ∧ q.2.1 ≤ 280 ∧ wfc q.2.2 q.2.1 ∧ 1 ≤ tp q.2.2 q.2.1)
def FV (F : Fam) : Prop := fN F ≤ 6 ∧ (∀ j, (0 ≤ fHou F j ∧ fHou F j ≤ 1) ∧ (0 ≤ fCar F j ∧ fCar F j ≤ 99) ∧ (0 ≤ fKno F j ∧ fKno F j < 64) ∧ (0 ≤ fOdd F j ∧ fOdd F j ≤ 100) ∧ (0 ≤ fAmt F j ∧ fAmt F j ≤ 20)) ∧
  (∀ j, fN F ≤ j → fHou F j = 0 ∧ fCar F j = 0 ∧ fKno F j = 0 ∧ fOdd F j = 0 ∧ fAmt F j = 0) ∧ nwn (fAmt F) 6 ≤ 4 ∧ (∀ p o, bt (fKno F p) o = true → p < fN F ∧ o < fN F ∧ ¬ p = o) ∧ kn (fKno F) 6 ≤ 12 ∧ (0 ≤ fEas F ∧ fEas F ≤ 999) ∧ (0 ≤ fDra F ∧ fDra F ≤ 999) ∧ WFm (fWor F) ∧ WFm (fGro F)
def OKS (F : Fam) (s : Sta) : Prop := OKs 999 s ∧ VN (fN F) s ∧ kn s.2.1 6 ≤ 12 ∧ d01 s
def GV (G : Sgt) : Prop := G.1 ≤ 30 ∧ ∀ i, i < G.1 → (0 ≤ G.2.1 i ∧ G.2.1 i < 10) ∧ -1 ≤ G.2.2.2.2.2 i
def WA (A : AS) : Prop := (aB A).2 ≤ 1600 ∧ FV (aF A) ∧ OKS (aF A) (aS A) ∧ (∀ t ∈ (aH A).1, OKS (aF A) t) ∧ (∀ t ∈ (aH A).2, OKS (aF A) t) ∧ (∀ i t, aX A i = some t → OKS (aF A) t) ∧ (aH A).1.length + (aH A).2.length ≤ 40 ∧ GV (aG A) ∧ (aL A).1 ≤ 6 ∧ 0 ≤ aT A ∧ aT A ≤ 100000
theorem WA.act {A : AS} {s : Sta} (h : WA A) (hs : OKS (aF A) s) : WA (act A s) := by
  obtain ⟨h1, h2, h3, h4, h5, h6, h7, h8⟩ := h
  refine ⟨h1, h2, hs, fun t ht => ?_, fun t ht => absurd ht List.not_mem_nil, h6, ?_, h8⟩
  · have ht' : t ∈ hk (aH A).1 (aS A) := ht
    unfold hk at ht'
    rcases List.mem_append.mp ht' with z | z
    · split at z
      · exact h4 t z
      · exact h4 t (List.mem_of_mem_tail z)
    · rw [List.mem_singleton.mp z]; exact h3
  · show (hk (aH A).1 (aS A)).length + 0 ≤ 40
    unfold hk
    rw [List.length_append]
    split
    · simp; omega
    · simp; omega
theorem FV.fa {F : Fam} (h : FV F) : fN F ≤ 6 := h.1
theorem OKS.stp {F : Fam} {s : Sta} {a : Int} (hF : FV F) (h : OKS F s) (hd : s.2.2.2.1 < 999) (ha : a = -1 ∨ (0 ≤ a ∧ a < 64)) : OKS F (stp F a s) := by
  obtain ⟨h1, h2, h3, h4⟩ := h
  have h1' : OKs 998 s := ⟨h1.1, h1.2.1, ⟨h1.2.2.1.1, by omega⟩, h1.2.2.2⟩
  have hh := stp_hair (F := F) (s := s) (a := a) h2.1
  refine ⟨h1'.stp hF.1 ha, ⟨hh, h2.2.1, fun j hj => ?_⟩, h3, Or.inl rfl⟩
  show pssC F s (nws F s a) j = 0
  unfold pssC
  rw [if_neg (by omega)]
  unfold grA
  rw [if_neg (by omega)]
  exact h2.2.2 j hj
theorem OKS.chg {F : Fam} {s : Sta} {p : Nat} {v : Int} (h : OKS F s) (hp : p < fN F) : OKS F (chg s p v) := by
  obtain ⟨h1, h2, h3, h4⟩ := h
  refine ⟨h1.chg p v, ⟨h2.1, h2.2.1, fun j hj => ?_⟩, h3, h4⟩
  show va_up s.1 p _ j = 0
  rw [vu_ne (by omega)]; exact h2.2.2 j hj
theorem w_chg {A A' : AS} {p c v r : Int} (h : WA A) (g : s_chg A p c v r A') : WA A' := by
  unfold s_chg at g
  split at g
  · rename_i z
    rw [g.2]; exact h.act (h.2.2.1.chg (by have := z.1; omega))
  · rw [g.2]; exact h
theorem w_day {A A' : AS} {r : Int} (h : WA A) (g : s_day A r A') : WA A' := by
  unfold s_day at g
  split at g
  · rw [g.2]; exact h
  · rw [g.2]; exact h.act (h.2.2.1.stp h.2.1 (by omega) (Or.inl rfl))
theorem OKS.tel {F : Fam} {s : Sta} {p o : Nat} (hF : FV F) (h : OKS F s) (hp : p < fN F) (ho : o < fN F) (hne : ¬ p = o) (hb : ¬ bt (s.2.1 p) o = true) (hk : kn s.2.1 6 < 12) : OKS F (tel s p o) := by
  obtain ⟨h1, h2, h3, h4⟩ := h
  have hN := hF.1
  have hl : (s.2.1 p).toNat ||| 2 ^ o < 64 := by
    apply Nat.or_lt_two_pow (n := 6)
    · have := h1.2.1 p; omega
    · exact Nat.pow_lt_pow_right (by decide) (by omega)
  refine ⟨h1.wkn p (by omega), ⟨h2.1, fun a b hab => ?_, h2.2.2⟩, ?_, h4⟩
  · have hab' : bt (va_up s.2.1 p (((s.2.1 p).toNat ||| 2 ^ o : Nat) : Int) a) b = true := hab
    by_cases e : a = p
    · rw [e, vu_at, bt_n, Nat.testBit_or, Bool.or_eq_true] at hab'
      rw [e]
      rcases hab' with z | z
      · exact h2.2.1 p b z
      · rw [Nat.testBit_two_pow] at z
        have : o = b := of_decide_eq_true z
        rw [← this]
        exact ⟨hp, ho, hne⟩
    · rw [vu_ne e] at hab'; exact h2.2.1 a b hab'
  · show kn (va_up s.2.1 p _) 6 ≤ 12
    rw [kn_up (h1.2.1 p).1 (by omega) hb 6 (by omega)]
    omega
theorem pcn_sub {x y : Nat} (h : ∀ j, x.testBit j = true → y.testBit j = true) : ∀ n, pcn x n ≤ pcn y n := by
  intro n
  induction n with
  | zero => exact Nat.le_refl 0
  | succ n ih =>
    rw [pcn_s, pcn_s]
    cases hx : x.testBit n with
    | false => simp; omega
    | true => rw [h n hx]; simp; omega
theorem kn_sub {w u : Nat → Int} (h : ∀ p, ∀ j, bt (w p) j = true → bt (u p) j = true) : ∀ n, kn w n ≤ kn u n := by
  intro n
  induction n with
  | zero => exact Nat.le_refl 0
  | succ n ih => rw [kn_s, kn_s]; have := pcn_sub (h n) 12; omega
theorem OKS.fgt {F : Fam} {s : Sta} {p o : Nat} (h : OKS F s) : OKS F (fgt s p o) := by
  obtain ⟨h1, h2, h3, h4⟩ := h
  have hl : ndf (s.2.1 p).toNat (2 ^ o) < 64 := ndf_lt (k := 6) (by have := h1.2.1 p; omega)
  have hsub : ∀ a b, bt (va_up s.2.1 p ((ndf (s.2.1 p).toNat (2 ^ o) : Nat) : Int) a) b = true → bt (s.2.1 a) b = true := by
    intro a b hab
    by_cases e : a = p
    · rw [e, vu_at, bt_n, ndf_t, Bool.and_eq_true] at hab
      rw [e]; exact hab.1
    · rw [vu_ne e] at hab; exact hab
  refine ⟨h1.wkn p (by omega), ⟨h2.1, fun a b hab => h2.2.1 a b (hsub a b hab), h2.2.2⟩, ?_, h4⟩
  exact Nat.le_trans (kn_sub hsub 6) h3
theorem OKS.plk {F : Fam} {s : Sta} (h : OKS F s) : OKS F (plk F s) := ⟨⟨h.1.1, h.1.2.1, h.1.2.2.1, h.1.2.2.2⟩, ⟨goes_R F s _, h.2.1.2.1, h.2.1.2.2⟩, h.2.2.1, Or.inl rfl⟩
theorem OKS.dyd {F : Fam} {s : Sta} (h : OKS F s) : OKS F (dyd s) := ⟨⟨h.1.1, h.1.2.1, h.1.2.2.1, h.1.2.2.2⟩, ⟨h.2.1.1, h.2.1.2.1, h.2.1.2.2⟩, h.2.2.1, Or.inr rfl⟩
theorem w_tell {A A' : AS} {p o r : Int} (h : WA A) (g : s_tell A p o r A') : WA A' := by
  unfold s_tell at g
  split at g
  · rename_i z
    obtain ⟨⟨⟨z1, z2⟩, z3⟩, z4, z5⟩ := z
    rw [g.2]; exact h.act (h.2.2.1.tel h.2.1 (by omega) (by omega) (by omega) z4 z5)
  · rw [g.2]; exact h
theorem w_forget {A A' : AS} {p o r : Int} (h : WA A) (g : s_forget A p o r A') : WA A' := by
  unfold s_forget at g
  split at g
  · rw [g.2]; exact h.act h.2.2.1.fgt
  · rw [g.2]; exact h
theorem w_pluck {A A' : AS} {r : Int} (h : WA A) (g : s_pluck A r A') : WA A' := by
  unfold s_pluck at g
  split at g
  · rw [g.2]; exact h
  · rw [g.2]; exact h.act h.2.2.1.plk
theorem w_dye {A A' : AS} {r : Int} (h : WA A) (g : s_dye A r A') : WA A' := by
  unfold s_dye at g
  split at g
  · rw [g.2]; exact h
  · rw [g.2]; exact h.act h.2.2.1.dyd
theorem w_undo {A A' : AS} {r : Int} (h : WA A) (g : s_undo A r A') : WA A' := by
  unfold s_undo at g
  split at g
  · rw [g.2]; exact h
  · rename_i hne
    obtain ⟨-, t, ht, rfl⟩ := g
    obtain ⟨h1, h2, h3, h4, h5, h6, h7, h8⟩ := h
    refine ⟨h1, h2, h4 t (List.mem_of_getLast? ht), fun u hu => h4 u (List.dropLast_subset _ hu), fun u hu => ?_, h6, ?_, h8⟩
    · rcases List.mem_cons.mp hu with z | z
      · rw [z]; exact h3
      · exact h5 u z
    · show (aH A).1.dropLast.length + ((aH A).2.length + 1) ≤ 40
      rw [List.length_dropLast]
      have := List.length_pos_iff.mpr hne
      omega
theorem w_redo {A A' : AS} {r : Int} (h : WA A) (g : s_redo A r A') : WA A' := by
  unfold s_redo at g
  split at g
  · rw [g.2]; exact h
  · rename_i t R hR
    obtain ⟨h1, h2, h3, h4, h5, h6, h7, h8⟩ := h
    rw [g.2]
    have h5' : ∀ u ∈ t :: R, OKS (aF A) u := by rw [← hR]; exact h5
    refine ⟨h1, h2, h5' t List.mem_cons_self, fun u hu => ?_, fun u hu => h5' u (List.mem_cons_of_mem _ hu), h6, ?_, h8⟩
    · rcases List.mem_append.mp hu with z | z
      · exact h4 u z
      · rw [List.mem_singleton.mp z]; exact h3
    · show ((aH A).1 ++ [aS A]).length + R.length ≤ 40
      rw [hR] at h7
      simp at h7 ⊢
      omega
theorem WA.L {A : AS} {n : Nat} {f : Nat → Int} (h : WA A) (hn : n ≤ 6) : WA (wL A n f) := ⟨h.1, h.2.1, h.2.2.1, h.2.2.2.1, h.2.2.2.2.1, h.2.2.2.2.2.1, h.2.2.2.2.2.2.1, h.2.2.2.2.2.2.2.1, hn, h.2.2.2.2.2.2.2.2.2⟩
theorem w_wed {A A' : AS} {r : Int} (h : WA A) (g : s_wed A r A') : WA A' := by
  obtain ⟨row, -, rfl⟩ := g
  split
  · exact h.L (Nat.zero_le _)
  · exact h.L h.2.1.1
theorem w_rank {A A' : AS} {r : Int} (h : WA A) (g : s_rank A r A') : WA A' := by
  obtain ⟨w, -, -, rfl⟩ := g
  exact h.L h.2.1.1
theorem w_duel {A A' : AS} {p o r : Int} (h : WA A) (g : s_duel A p o r A') : WA A' := by
  unfold s_duel at g
  split at g
  · obtain ⟨-, L, -, rfl⟩ := g
    split
    · exact h.L (Nat.zero_le _)
    · exact h.L (by decide)
  · rw [g.2]; exact h.L (Nat.zero_le _)
theorem w_path {A A' : AS} {n r : Int} (h : WA A) (g : s_path A n r A') : WA A' := by
  unfold s_path at g
  split at g
  · rw [g.2]; exact h.L (by omega)
  · rw [g.2]; exact h.L (Nat.zero_le _)
theorem w_seen {A A' : AS} {d p w r : Int} (h : WA A) (g : s_seen A d p w r A') : WA A' := by
  unfold s_seen at g
  split at g
  · rename_i z
    obtain ⟨h1, h2, h3, h4, h5, h6, h7, h8, h9⟩ := h
    rw [g.2]
    refine ⟨h1, h2, h3, h4, h5, h6, h7, ⟨by show (aG A).1 + 1 ≤ 30; omega, fun i hi => ?_⟩, h9⟩
    have hi' : i < (aG A).1 + 1 := hi
    show (0 ≤ va_up (aG A).2.1 (aG A).1 d i ∧ va_up (aG A).2.1 (aG A).1 d i < 10) ∧ -1 ≤ va_up (aG A).2.2.2.2.2 (aG A).1 (-1) i
    by_cases e : i = (aG A).1
    · rw [e, vu_at, vu_at]; exact ⟨z.2.1, by decide⟩
    · rw [vu_ne e, vu_ne e]; exact h8.2 i (by omega)
  · rw [g.2]; exact h
theorem w_untell {A A' : AS} {i r : Int} (h : WA A) (g : s_untell A i r A') : WA A' := by
  unfold s_untell at g
  split at g
  · rename_i z
    obtain ⟨h1, h2, h3, h4, h5, h6, h7, h8, h9, h10⟩ := h
    rw [g.2]
    refine ⟨h1, h2, h3, h4, h5, h6, h7, ⟨h8.1, fun j hj => ⟨(h8.2 j hj).1, ?_⟩⟩, h9, h10⟩
    show -1 ≤ va_up (aG A).2.2.2.2.2 i.toNat (aT A) j
    by_cases e : j = i.toNat
    · rw [e, vu_at]; omega
    · rw [vu_ne e]; exact (h8.2 j hj).2
  · rw [g.2]; exact h
theorem w_later {A A' : AS} {b r : Int} (h : WA A) (g : s_later A b r A') : WA A' := by
  unfold s_later at g
  split at g
  · rename_i z
    obtain ⟨h1, h2, h3, h4, h5, h6, h7, h8, h9, h10⟩ := h
    rw [g.2]
    exact ⟨h1, h2, h3, h4, h5, h6, h7, h8, h9, by show 0 ≤ aT A + b; omega, by show aT A + b ≤ 100000; omega⟩
  · rw [g.2]; exact h
theorem w_image {A A' : AS} {b r : Int} (h : WA A) (g : s_image A b r A') : WA A' := by
  unfold s_image at g
  split at g
  · obtain ⟨h1, h2, h3, h4, h5, h6, h7⟩ := h
    rw [g.2]
    refine ⟨h1, h2, h3, h4, h5, fun i t ht => ?_, h7⟩
    have ht' : (if i = b.toNat then some (aS A) else aX A i) = some t := ht
    split at ht'
    · injection ht' with ht'; rw [← ht']; exact h3
    · exact h6 i t ht'
  · rw [g.2]; exact h
theorem w_back {A A' : AS} {b r : Int} (h : WA A) (g : s_back A b r A') : WA A' := by
  unfold s_back at g
  split at g
  · rw [g.2]; exact h
  · rename_i t ht
    obtain ⟨h1, h2, h3, h4, h5, h6, h7⟩ := h
    rw [g.2]
    have : OKS (aF A) t := by
      split at ht
      · exact h6 _ t ht
      · cases ht
    exact ⟨h1, h2, this, fun t ht => absurd ht List.not_mem_nil, fun t ht => absurd ht List.not_mem_nil, h6, Nat.zero_le _, h7.2⟩
theorem w_feed {A A' : AS} {a b c d e r : Int} (h : WA A) (g : s_feed A a b c d e r A') : WA A' := by
  unfold s_feed at g
  split at g
  · rw [g.2]; exact h
  · rw [g.2]; exact ⟨by show (aB A).2 + 20 ≤ 1600; omega, h.2⟩
theorem w_end {A A' : AS} {n r : Int} (h : WA A) (g : s_end A n r A') : WA A' := by
  unfold s_end at g
  split at g
  · have := h.1
    rw [g.2]; exact ⟨by show n.toNat ≤ 1600; omega, h.2⟩
  · rw [g.2]; exact h
theorem bgn_OKS {F : Fam} (h : FV F) : OKS F (bgn F (-1) 0) := by
  obtain ⟨h1, h2, h3, h4, h5, h6, h7, h8, h9⟩ := h
  have hc : ∀ j, (bgn F (-1) 0).1 j = if j < 6 then fCar F j else 0 := by
    intro j
    show tr 6 (fun j => if (j : Int) = -1 then 0 else fCar F j) j = _
    unfold tr
    by_cases e : j < 6
    · rw [if_pos e, if_pos e]; exact if_neg (show ¬ ((j : Nat) : Int) = -1 by omega)
    · rw [if_neg e, if_neg e]
  refine ⟨⟨fun j => ?_, fun j => (h2 j).2.2.1, ⟨Int.le_refl 0, by show (0 : Int) ≤ 999; decide⟩, by show 0 ≤ fDra F ∧ fDra F < 1000; omega⟩, ⟨goes_R F _ _, h5, fun j hj => ?_⟩, h6, Or.inl rfl⟩
  · rw [hc]
    split
    · exact (h2 j).2.1
    · omega
  · rw [hc]
    split
    · exact (h3 j hj).2.1
    · rfl
theorem w_family {A A' : AS} {r : Int} (h : WA A) (hF : ∀ x, RdA (aB A) (.inr x) → FV (famO x.1)) (g : s_family A r A') : WA A' := by
  obtain ⟨o, ho, g⟩ := g
  obtain ⟨h1, h2, h3, h4, h5, h6, h7, h8, h9⟩ := h
  cases o with
  | inl x =>
    obtain ⟨-, rfl⟩ := g
    exact ⟨Nat.zero_le _, h2, h3, h4, h5, h6, h7, h8, h9⟩
  | inr x =>
    obtain ⟨-, rfl⟩ := g
    have hf := hF x ho
    exact ⟨Nat.zero_le _, hf, bgn_OKS hf, fun t ht => absurd ht List.not_mem_nil, fun t ht => absurd ht List.not_mem_nil, fun i t ht => (by cases ht), Nat.zero_le _, ⟨Nat.zero_le _, fun i hi => absurd hi (Nat.not_lt_zero i)⟩, Nat.zero_le _, h9.2⟩
