/-! the whole world: what is told, its order, needs and score -/
def lettersL : List Int32 := [-118, -119, -115, -104, -103, -101, -100, -109, -108, -98, -120, -121, -122]
def nmi (s : Int32) : Int32 := (f_X12_nameOf s).getD 0
def mcode (c : Int32) : Int32 := if 0 ≤ c.toInt then c else if c ∈ lettersL then 10000000 + nmi (-c) else 20000000 - c
def ty1 (st : List Bool) (c : Int32) : Option (List Bool) :=
  if 0 ≤ c.toInt then (if c.toInt ≤ 9999999 ∧ st.length < 60 then some (false :: st) else none)
  else if c ∈ lettersL then (if st.length < 60 then some (false :: st) else none)
  else if c = -33 then (match st with | true :: r => some (true :: r) | _ => none)
  else if c = -38 ∨ c = -124 then (match st with | true :: true :: r => some (true :: r) | _ => none)
  else if c = -60 ∨ c = -61 ∨ c = -62 then (match st with | _ :: _ :: r => some (true :: r) | _ => none)
  else if c = -42 ∨ c = -43 ∨ c = -45 ∨ c = -47 then (match st with | _ :: _ :: r => some (false :: r) | _ => none)
  else none
def tyL : List Int32 → List Bool → Option (List Bool)
  | [], st => some st
  | c :: r, st => match ty1 st c with
    | none => none
    | some st' => tyL r st'
def WW : Type := (VW) × (List Nat) × (List Nat) × (List Int32) × (List Nat) × (List Int32) × (Nat)
def WW.V (V : WW) : VW := V.1
def WW.L (V : WW) : List Nat := V.2.1
def WW.ne (V : WW) : List Nat := V.2.2.1
def WW.nc (V : WW) : List Int32 := V.2.2.2.1
def WW.se (V : WW) : List Nat := V.2.2.2.2.1
def WW.sc (V : WW) : List Int32 := V.2.2.2.2.2.1
def WW.st (V : WW) : Nat := V.2.2.2.2.2.2
def bgn (es : List Nat) (i : Nat) : Nat := if i = 0 then 0 else es.getD (i - 1) 0
def nOK (es : List Nat) (cs : List Int32) : Prop := (es.length ≤ 8) ∧ (cs.length ≤ 310) ∧ (∀ i, i < es.length → bgn es i ≤ es.getD i 0 ∧ es.getD i 0 ≤ cs.length) ∧ (∀ i, i < es.length → tyL ((cs.drop (bgn es i)).take (es.getD i 0 - bgn es i)) [] = some [true])
theorem nOK.n8 {es : List Nat} {cs : List Int32} (h : nOK es cs) : es.length ≤ 8 := h.1
theorem nOK.c {es : List Nat} {cs : List Int32} (h : nOK es cs) : cs.length ≤ 310 := h.2.1
theorem nOK.b {es : List Nat} {cs : List Int32} (h : nOK es cs) : ∀ i, i < es.length → bgn es i ≤ es.getD i 0 ∧ es.getD i 0 ≤ cs.length := h.2.2.1
theorem nOK.t {es : List Nat} {cs : List Int32} (h : nOK es cs) : ∀ i, i < es.length → tyL ((cs.drop (bgn es i)).take (es.getD i 0 - bgn es i)) [] = some [true] := h.2.2.2
def sOK (es : List Nat) (cs : List Int32) (st : Nat) : Prop := (cs.length ≤ 130) ∧ (st ≤ 60) ∧ ((es = [] ∧ st = 0 ∧ cs = []) ∨ (es = [cs.length] ∧ 0 < st ∧ ∃ b, tyL cs [] = some [b]))
theorem sOK.c {es : List Nat} {cs : List Int32} {st : Nat} (h : sOK es cs st) : cs.length ≤ 130 := h.1
theorem sOK.s60 {es : List Nat} {cs : List Int32} {st : Nat} (h : sOK es cs st) : st ≤ 60 := h.2.1
theorem sOK.e {es : List Nat} {cs : List Int32} {st : Nat} (h : sOK es cs st) : (es = [] ∧ st = 0 ∧ cs = []) ∨ (es = [cs.length] ∧ 0 < st ∧ ∃ b, tyL cs [] = some [b]) := h.2.2
def WOK (W : WW) : Prop := (VOK W.V) ∧ (srt W.V W.L) ∧ (∀ y, y ∈ W.L ↔ y < W.V.n) ∧ (W.L.length = W.V.n) ∧ (nOK W.ne W.nc) ∧ (sOK W.se W.sc W.st) ∧ (∀ k, k < W.V.n → W.V.ra k ≠ -1 → nI (W.V.dy k) ≤ W.V.ra k)
theorem WOK.V {W : WW} (h : WOK W) : VOK W.V := h.1
theorem WOK.so {W : WW} (h : WOK W) : srt W.V W.L := h.2.1
theorem WOK.me {W : WW} (h : WOK W) : ∀ y, y ∈ W.L ↔ y < W.V.n := h.2.2.1
theorem WOK.le {W : WW} (h : WOK W) : W.L.length = W.V.n := h.2.2.2.1
theorem WOK.n {W : WW} (h : WOK W) : nOK W.ne W.nc := h.2.2.2.2.1
theorem WOK.s {W : WW} (h : WOK W) : sOK W.se W.sc W.st := h.2.2.2.2.2.1
theorem WOK.dy {W : WW} (h : WOK W) : ∀ k, k < W.V.n → W.V.ra k ≠ -1 → nI (W.V.dy k) ≤ W.V.ra k := h.2.2.2.2.2.2
def tW (W : WW) (S : CS) : Prop := (tC W.V S) ∧ (hold (S.2.1 24) W.L) ∧ (S.2.2 47 = W.ne.length) ∧ (∀ i, i < W.ne.length → S.2.1 47 i = nI (W.ne.getD i 0)) ∧ (S.2.2 46 = W.nc.length) ∧ (∀ i, i < W.nc.length → S.2.1 46 i = W.nc.getD i 0) ∧ (S.2.2 51 = W.se.length) ∧ (∀ i, i < W.se.length → S.2.1 51 i = nI (W.se.getD i 0)) ∧ (S.2.2 50 = W.sc.length) ∧ (∀ i, i < W.sc.length → S.2.1 50 i = W.sc.getD i 0)
theorem tW.V {W : WW} {S : CS} (h : tW W S) : tC W.V S := h.1
theorem tW.o {W : WW} {S : CS} (h : tW W S) : hold (S.2.1 24) W.L := h.2.1
theorem tW.nl {W : WW} {S : CS} (h : tW W S) : S.2.2 47 = W.ne.length := h.2.2.1
theorem tW.ne {W : WW} {S : CS} (h : tW W S) : ∀ i, i < W.ne.length → S.2.1 47 i = nI (W.ne.getD i 0) := h.2.2.2.1
theorem tW.ncl {W : WW} {S : CS} (h : tW W S) : S.2.2 46 = W.nc.length := h.2.2.2.2.1
theorem tW.nc {W : WW} {S : CS} (h : tW W S) : ∀ i, i < W.nc.length → S.2.1 46 i = W.nc.getD i 0 := h.2.2.2.2.2.1
theorem tW.sl {W : WW} {S : CS} (h : tW W S) : S.2.2 51 = W.se.length := h.2.2.2.2.2.2.1
theorem tW.se {W : WW} {S : CS} (h : tW W S) : ∀ i, i < W.se.length → S.2.1 51 i = nI (W.se.getD i 0) := h.2.2.2.2.2.2.2.1
theorem tW.scl {W : WW} {S : CS} (h : tW W S) : S.2.2 50 = W.sc.length := h.2.2.2.2.2.2.2.2.1
theorem tW.sc {W : WW} {S : CS} (h : tW W S) : ∀ i, i < W.sc.length → S.2.1 50 i = W.sc.getD i 0 := h.2.2.2.2.2.2.2.2.2
def tA (W : WW) (A : Nat → Int32) : Prop := (tR W.V A) ∧ (A 725 = nI W.ne.length) ∧ (A 726 = 0) ∧ (∀ i, i < W.ne.length → A (727 + i) = nI (W.ne.getD i 0)) ∧ (∀ i, i < W.nc.length → A (735 + i) = mcode (W.nc.getD i 0)) ∧ (A 1045 = nI W.st) ∧ (A 1046 = nI W.sc.length) ∧ (∀ i, i < W.sc.length → A (1047 + i) = mcode (W.sc.getD i 0))
theorem tA.R {W : WW} {A : Nat → Int32} (h : tA W A) : tR W.V A := h.1
theorem tA.nm {W : WW} {A : Nat → Int32} (h : tA W A) : A 725 = nI W.ne.length := h.2.1
theorem tA.n0 {W : WW} {A : Nat → Int32} (h : tA W A) : A 726 = 0 := h.2.2.1
theorem tA.nb {W : WW} {A : Nat → Int32} (h : tA W A) : ∀ i, i < W.ne.length → A (727 + i) = nI (W.ne.getD i 0) := h.2.2.2.1
theorem tA.nc {W : WW} {A : Nat → Int32} (h : tA W A) : ∀ i, i < W.nc.length → A (735 + i) = mcode (W.nc.getD i 0) := h.2.2.2.2.1
theorem tA.st {W : WW} {A : Nat → Int32} (h : tA W A) : A 1045 = nI W.st := h.2.2.2.2.2.1
theorem tA.sd {W : WW} {A : Nat → Int32} (h : tA W A) : A 1046 = nI W.sc.length := h.2.2.2.2.2.2.1
theorem tA.sc {W : WW} {A : Nat → Int32} (h : tA W A) : ∀ i, i < W.sc.length → A (1047 + i) = mcode (W.sc.getD i 0) := h.2.2.2.2.2.2.2
def gU (S S' : CS) : Prop := (∀ k, k ∉ [0, 6, 7, 8, 9, 24, 25] → S'.1 k = S.1 k) ∧ (∀ k, k ∉ [21, 22, 23, 24, 46, 47, 48, 50, 51, 52] → S'.2.1 k = S.2.1 k)
def dOK (d : DR) (W W' : WW) : Prop := ∀ S : CS, tW W S → ∃ S' : CS, f_X11_undo S d = some S' ∧ tW W' S' ∧ gU S S'
def dch : List DR → WW → List WW → Prop
  | [], _, [] => True
  | d :: ds, W, W' :: Ws => dOK d W W' ∧ WOK W' ∧ dch ds W' Ws
  | _, _, _ => False
def rOK (S : CS) (M : MS) : Prop := (∃ n, n ≤ 600 ∧ S.1 1 = nI n ∧ M.1 5 = nI n ∧ ∀ i, i < n → (∃ b, b < 256 ∧ S.2.1 2 i = nI b) ∧ M.2 4 i &&& 255 = S.2.1 2 i) ∧ (S.1 5 = M.1 7) ∧ (M.1 21 = -1) ∧ (M.1 22 = -1) ∧ (∃ n, n ≤ 30 ∧ S.1 17 = nI n ∧ M.1 29 = nI n ∧ ∀ i, i < n → S.2.1 33 i = M.2 27 i) ∧ (S.1 18 = M.1 30) ∧ (∃ n, n ≤ 400 ∧ S.1 23 = nI n ∧ M.1 32 = nI n ∧ ∀ i, i < n → S.2.1 43 i = M.2 31 i) ∧ (∃ n, n < 12 ∧ S.1 19 = nI n)
theorem rOK.tl {S : CS} {M : MS} (h : rOK S M) : ∃ n, n ≤ 600 ∧ S.1 1 = nI n ∧ M.1 5 = nI n ∧ ∀ i, i < n → (∃ b, b < 256 ∧ S.2.1 2 i = nI b) ∧ M.2 4 i &&& 255 = S.2.1 2 i := h.1
theorem rOK.ft {S : CS} {M : MS} (h : rOK S M) : S.1 5 = M.1 7 := h.2.1
theorem rOK.ad {S : CS} {M : MS} (h : rOK S M) : M.1 21 = -1 := h.2.2.1
theorem rOK.lf {S : CS} {M : MS} (h : rOK S M) : M.1 22 = -1 := h.2.2.2.1
theorem rOK.ac {S : CS} {M : MS} (h : rOK S M) : ∃ n, n ≤ 30 ∧ S.1 17 = nI n ∧ M.1 29 = nI n ∧ ∀ i, i < n → S.2.1 33 i = M.2 27 i := h.2.2.2.2.1
theorem rOK.en {S : CS} {M : MS} (h : rOK S M) : S.1 18 = M.1 30 := h.2.2.2.2.2.1
theorem rOK.wr {S : CS} {M : MS} (h : rOK S M) : ∃ n, n ≤ 400 ∧ S.1 23 = nI n ∧ M.1 32 = nI n ∧ ∀ i, i < n → S.2.1 43 i = M.2 31 i := h.2.2.2.2.2.2.1
theorem rOK.rg {S : CS} {M : MS} (h : rOK S M) : ∃ n, n < 12 ∧ S.1 19 = nI n := h.2.2.2.2.2.2.2
def RLW (T : XS) (M : MS) (W : WW) (Ws : List WW) : Prop := (WOK W) ∧ (tW W T.1) ∧ (tA W (M.2 0)) ∧ (rOK T.1 M) ∧ (T.2.length ≤ 12) ∧ (T.1.1 20 = nI T.2.length) ∧ (M.1 3 = nI T.2.length) ∧ (Ws.length = T.2.length) ∧ (dch T.2 W Ws) ∧ (∀ j W', Ws[j]? = some W' → tA W' (fun i => M.2 1 (1177 * (Ws.length - 1 - j) + i)))
theorem RLW.w {T : XS} {M : MS} {W : WW} {Ws : List WW} (h : RLW T M W Ws) : WOK W := h.1
theorem RLW.c {T : XS} {M : MS} {W : WW} {Ws : List WW} (h : RLW T M W Ws) : tW W T.1 := h.2.1
theorem RLW.m {T : XS} {M : MS} {W : WW} {Ws : List WW} (h : RLW T M W Ws) : tA W (M.2 0) := h.2.2.1
theorem RLW.r {T : XS} {M : MS} {W : WW} {Ws : List WW} (h : RLW T M W Ws) : rOK T.1 M := h.2.2.2.1
theorem RLW.d12 {T : XS} {M : MS} {W : WW} {Ws : List WW} (h : RLW T M W Ws) : T.2.length ≤ 12 := h.2.2.2.2.1
theorem RLW.dc {T : XS} {M : MS} {W : WW} {Ws : List WW} (h : RLW T M W Ws) : T.1.1 20 = nI T.2.length := h.2.2.2.2.2.1
theorem RLW.dm {T : XS} {M : MS} {W : WW} {Ws : List WW} (h : RLW T M W Ws) : M.1 3 = nI T.2.length := h.2.2.2.2.2.2.1
theorem RLW.dl {T : XS} {M : MS} {W : WW} {Ws : List WW} (h : RLW T M W Ws) : Ws.length = T.2.length := h.2.2.2.2.2.2.2.1
theorem RLW.dd {T : XS} {M : MS} {W : WW} {Ws : List WW} (h : RLW T M W Ws) : dch T.2 W Ws := h.2.2.2.2.2.2.2.2.1
theorem RLW.dk {T : XS} {M : MS} {W : WW} {Ws : List WW} (h : RLW T M W Ws) : ∀ j W', Ws[j]? = some W' → tA W' (fun i => M.2 1 (1177 * (Ws.length - 1 - j) + i)) := h.2.2.2.2.2.2.2.2.2
def RLL (T : XS) (M : MS) : Prop := ∃ W Ws, RLW T M W Ws
/-- frames that leave all that is told as it was -/
theorem tW_gI {W : WW} {S S' : CS} {ks ka : List Nat} (h : tW W S) (hg : gI ks ka S S') (h1 : ∀ k, k ∈ [0, 6, 7, 8, 9] → k ∉ ks) (h2 : ∀ k, k ∈ [5, 6, 8, 9, 11, 12, 13, 14, 15, 16, 17, 18, 19, 20, 21, 22, 23, 24, 46, 47, 50, 51] → k ∉ ka) : tW W S' := by
  have hc := tC_gI h.V hg h1 (fun k hk => h2 k (by revert k; decide))
  have e24 := hg.2.1 24 (h2 24 (by decide))
  have e46 := hg.2.1 46 (h2 46 (by decide))
  have e47 := hg.2.1 47 (h2 47 (by decide))
  have e50 := hg.2.1 50 (h2 50 (by decide))
  have e51 := hg.2.1 51 (h2 51 (by decide))
  have el := hg.2.2
  refine ⟨hc, ?_⟩
  have h' := h.2
  rw [← e24, ← e46, ← e47, ← e50, ← e51, ← el] at h'
  exact h'
/-- a question changes scratch alone -/
theorem RL_q {T : XS} {M : MS} {S' : CS} {M' : MS} (h : RLL T M) (hS : gI [21, 22, 24, 25] [37, 38, 40, 44, 48, 52] T.1 S') (hM : fI [20, 24, 25] [17, 18, 19, 23] M M') : RLL (S', T.2) M' := by
  obtain ⟨W, Ws, h⟩ := h
  have hr := h.r
  refine ⟨W, Ws, h.w, tW_gI h.c hS (by decide) (by decide), ?_, ?_, h.d12, ?_, ?_, h.dl, h.dd, ?_⟩
  · rw [hM.2 0 (by decide)]; exact h.m
  · unfold rOK at *
    rw [hS.1 1 (by decide), hS.1 5 (by decide), hS.1 17 (by decide), hS.1 18 (by decide), hS.1 23 (by decide), hS.1 19 (by decide), hS.2.1 2 (by decide), hS.2.1 33 (by decide), hS.2.1 43 (by decide), hM.1 5 (by decide), hM.1 7 (by decide), hM.1 21 (by decide), hM.1 22 (by decide), hM.1 29 (by decide), hM.1 30 (by decide), hM.1 32 (by decide), hM.2 4 (by decide), hM.2 27 (by decide), hM.2 31 (by decide)]
    exact hr
  · show S'.1 20 = _
    rw [hS.1 20 (by decide)]; exact h.dc
  · rw [hM.1 3 (by decide)]; exact h.dm
  · rw [hM.2 1 (by decide)]; exact h.dk
/-- the frame of a question: class, reference -/
def cqf (S S' : CS) : Prop := gI [21, 22, 24, 25] [37, 38, 40, 44, 48, 52] S S'
def mqf (M M' : MS) : Prop := fI [20, 24, 25] [17, 18, 19, 23] M M'
theorem cqf_rf {S : CS} : cqf S S := gI_rf
theorem mqf_rf {M : MS} : mqf M M := fI_rf
theorem cqf_tr {S S1 S2 : CS} (h : cqf S S1) (h2 : cqf S1 S2) : cqf S S2 := gI_tr h h2 (fun _ h => h) (fun _ h => h)
theorem mqf_tr {M M1 M2 : MS} (h : mqf M M1) (h2 : mqf M1 M2) : mqf M M2 := fI_tr h h2 (fun _ h => h) (fun _ h => h)
theorem cqf_of {ks ka : List Nat} {S S' : CS} (h : gI ks ka S S') (h1 : ∀ k ∈ ks, k ∈ [21, 22, 24, 25]) (h2 : ∀ k ∈ ka, k ∈ [37, 38, 40, 44, 48, 52]) : cqf S S' := gI_tr gI_rf h h1 h2
theorem mqf_of {ks ka : List Nat} {M M' : MS} (h : fI ks ka M M') (h1 : ∀ k ∈ ks, k ∈ [20, 24, 25]) (h2 : ∀ k ∈ ka, k ∈ [17, 18, 19, 23]) : mqf M M' := fI_tr fI_rf h h1 h2
theorem cqf_W {W : WW} {S S' : CS} (h : tW W S) (hg : cqf S S') : tW W S' := tW_gI h hg (by decide) (by decide)
theorem cqf_C {V : VW} {S S' : CS} (h : tC V S) (hg : cqf S S') : tC V S' := tC_gI h hg (by decide) (by decide)
theorem mqf_R {M M' : MS} (hg : mqf M M') : M'.2 0 = M.2 0 := hg.2 0 (by decide)
theorem cqf_24 {S S' : CS} (hg : cqf S S') : S'.2.1 24 = S.2.1 24 := hg.2.1 24 (by decide)
theorem mqf_21 {M M' : MS} (hg : mqf M M') : M'.1 21 = M.1 21 := hg.1 21 (by decide)
theorem mqf_22 {M M' : MS} (hg : mqf M M') : M'.1 22 = M.1 22 := hg.1 22 (by decide)
