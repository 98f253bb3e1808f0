def fo_feed (T : XS) (a1 : Int32) (a2 : Int32) (a3 : Int32) (a4 : Int32) (a5 : Int32) : Option (Int32 × XS) := bw (f_X11_feed T.1 a1 a2 a3 a4 a5) (fun r S => some (r, (S, T.2)))
theorem o_feed {g : KG} {a0 : Nat} {T : XS} {w0 : va_W} {a1 : Int32} {a2 : Int32} {a3 : Int32} {a4 : Int32} {a5 : Int32} {r : Int32 × XS} (h0 : cF g a0 T w0) (h : fo_feed T a1 a2 a3 a4 a5 = some r) : ∀ l, kMx l yX11_feed cX11_feed 6 (some .int) rm_X11_feed g (.ref a0 :: [.int a1, .int a2, .int a3, .int a4, .int a5]) w0 (fun o w => o = some (.int r.1) ∧ cF g a0 r.2 w) 0 0 := by
  obtain ⟨S, dl⟩ := T
  unfold fo_feed at h
  cases e : f_X11_feed S a1 a2 a3 a4 a5 with
  | none => rw [e] at h; cases h
  | some z => rw [e] at h; cases h; exact x_ofM (fun _ _ => c_X11_feed (r := z.1) (S' := z.2) e) (i1_tr i1_rf (w_X11_feed (r := z.1) (S' := z.2) e) (by decide) (by decide)) h0
abbrev fm_feed (M : MS) (a1 : Int32) (a2 : Int32) (a3 : Int32) (a4 : Int32) (a5 : Int32) : Option (Int32 × MS) := f_X12_feed M a1 a2 a3 a4 a5
theorem p_feed {g : KG} {q : Nat → Nat} {M : MS} {a1 : Int32} {a2 : Int32} {a3 : Int32} {a4 : Int32} {a5 : Int32} {r : Int32 × MS} (h : fm_feed M a1 a2 a3 a4 a5 = some r) : ∀ l, kM l yX12_feed cX12_feed 6 (some .int) rm_X12_feed g (.ref (q 0) :: [.int a1, .int a2, .int a3, .int a4, .int a5]) (mw g q M) (mw g q r.2) (some (.int r.1)) 0 0 := c_X12_feed (r := r.1) (S' := r.2) h
def fo_end (T : XS) (a1 : Int32) : Option (Int32 × XS) := bw (f_X11_end T.1 a1) (fun r S => some (r, (S, T.2)))
theorem o_end {g : KG} {a0 : Nat} {T : XS} {w0 : va_W} {a1 : Int32} {r : Int32 × XS} (h0 : cF g a0 T w0) (h : fo_end T a1 = some r) : ∀ l, kMx l yX11_end cX11_end 2 (some .int) rm_X11_end g (.ref a0 :: [.int a1]) w0 (fun o w => o = some (.int r.1) ∧ cF g a0 r.2 w) 0 0 := by
  obtain ⟨S, dl⟩ := T
  unfold fo_end at h
  cases e : f_X11_end S a1 with
  | none => rw [e] at h; cases h
  | some z => rw [e] at h; cases h; exact x_ofM (fun _ _ => c_X11_end (r := z.1) (S' := z.2) e) (i1_tr i1_rf (w_X11_end (r := z.1) (S' := z.2) e) (by decide) (by decide)) h0
abbrev fm_end (M : MS) (a1 : Int32) : Option (Int32 × MS) := f_X12_end M a1
theorem p_end {g : KG} {q : Nat → Nat} {M : MS} {a1 : Int32} {r : Int32 × MS} (h : fm_end M a1 = some r) : ∀ l, kM l yX12_end cX12_end 2 (some .int) rm_X12_end g (.ref (q 0) :: [.int a1]) (mw g q M) (mw g q r.2) (some (.int r.1)) 0 0 := c_X12_end (r := r.1) (S' := r.2) h
def fo_text (T : XS) : Option (Int32 × XS) := bp (f_X11_text T.1) (fun r => some (r.1, (r.2.1, xdl r.2.2 T.2)))
theorem o_text {g : KG} {a0 : Nat} {T : XS} {w0 : va_W} {r : Int32 × XS} (h0 : cF g a0 T w0) (h : fo_text T = some r) : ∀ l, kMx l yX11_text cX11_text 4 (some .int) rm_X11_text g (.ref a0 :: []) w0 (fun o w => o = some (.int r.1) ∧ cF g a0 r.2 w) 1 5 := by
  obtain ⟨S, dl⟩ := T
  unfold fo_text at h
  cases e : f_X11_text S with
  | none => rw [e] at h; cases h
  | some z => rw [e] at h; cases h; exact x_ofR (fun _ _ _ => c_X11_text e) (w_X11_text e) h0
abbrev fm_text (M : MS) : Option (Int32 × MS) := f_X12_text M
theorem p_text {g : KG} {q : Nat → Nat} {M : MS} {r : Int32 × MS} (h : fm_text M = some r) : ∀ l, kM l yX12_text cX12_text 6 (some .int) rm_X12_text g (.ref (q 0) :: []) (mw g q M) (mw g q r.2) (some (.int r.1)) 0 0 := c_X12_text (r := r.1) (S' := r.2) h
def fo_needs (T : XS) : Option (Int32 × XS) := bp (f_X11_needs T.1) (fun r => some (r.1, (r.2.1, xdn 1 r.2.2 T.2)))
theorem o_needs {g : KG} {a0 : Nat} {T : XS} {w0 : va_W} {r : Int32 × XS} (h0 : cF g a0 T w0) (h : fo_needs T = some r) : ∀ l, kMx l yX11_needs cX11_needs 2 (some .int) rm_X11_needs g (.ref a0 :: []) w0 (fun o w => o = some (.int r.1) ∧ cF g a0 r.2 w) 5 677 := by
  obtain ⟨S, dl⟩ := T
  unfold fo_needs at h
  cases e : f_X11_needs S with
  | none => rw [e] at h; cases h
  | some z => rw [e] at h; cases h; exact x_ofN (fun _ _ _ => c_X11_needs e) (w_X11_needs e) h0
abbrev fm_needs (M : MS) : Option (Int32 × MS) := f_X12_needs M
theorem p_needs {g : KG} {q : Nat → Nat} {M : MS} {r : Int32 × MS} (h : fm_needs M = some r) : ∀ l, kM l yX12_needs cX12_needs 4 (some .int) rm_X12_needs g (.ref (q 0) :: []) (mw g q M) (mw g q r.2) (some (.int r.1)) 0 0 := c_X12_needs (r := r.1) (S' := r.2) h
def fo_fault (T : XS) : Option (Int32 × XS) := bp (f_X11_fault T.1) (fun r => some (r, T))
theorem o_fault {g : KG} {a0 : Nat} {T : XS} {w0 : va_W} {r : Int32 × XS} (h0 : cF g a0 T w0) (h : fo_fault T = some r) : ∀ l, kMx l yX11_fault cX11_fault 1 (some .int) rm_X11_fault g (.ref a0 :: []) w0 (fun o w => o = some (.int r.1) ∧ cF g a0 r.2 w) 0 0 := by
  obtain ⟨S, dl⟩ := T
  unfold fo_fault at h
  cases e : f_X11_fault S with
  | none => rw [e] at h; cases h
  | some z => rw [e] at h; cases h; exact x_ofM (fun _ _ => c_X11_fault e) i1_rf h0
def fm_fault (M : MS) : Option (Int32 × MS) := bp (f_X12_fault M) (fun r => some (r, M))
theorem p_fault {g : KG} {q : Nat → Nat} {M : MS} {r : Int32 × MS} (h : fm_fault M = some r) : ∀ l, kM l yX12_fault cX12_fault 1 (some .int) rm_X12_fault g (.ref (q 0) :: []) (mw g q M) (mw g q r.2) (some (.int r.1)) 0 0 := by
  unfold fm_fault at h
  cases e : f_X12_fault M with
  | none => rw [e] at h; cases h
  | some z => rw [e] at h; cases h; exact c_X12_fault e
def fo_is (T : XS) (a1 : Int32) : Option (Int32 × XS) := bw (f_X11_is T.1 a1) (fun r S => some (r, (S, T.2)))
theorem o_is {g : KG} {a0 : Nat} {T : XS} {w0 : va_W} {a1 : Int32} {r : Int32 × XS} (h0 : cF g a0 T w0) (h : fo_is T a1 = some r) : ∀ l, kMx l yX11_is cX11_is 2 (some .int) rm_X11_is g (.ref a0 :: [.int a1]) w0 (fun o w => o = some (.int r.1) ∧ cF g a0 r.2 w) 0 0 := by
  obtain ⟨S, dl⟩ := T
  unfold fo_is at h
  cases e : f_X11_is S a1 with
  | none => rw [e] at h; cases h
  | some z => rw [e] at h; cases h; exact x_ofM (fun _ _ => c_X11_is (r := z.1) (S' := z.2) e) (i1_tr i1_rf (w_X11_is (r := z.1) (S' := z.2) e) (by decide) (by decide)) h0
abbrev fm_is (M : MS) (a1 : Int32) : Option (Int32 × MS) := f_X12_is M a1
theorem p_is {g : KG} {q : Nat → Nat} {M : MS} {a1 : Int32} {r : Int32 × MS} (h : fm_is M a1 = some r) : ∀ l, kM l yX12_is cX12_is 4 (some .int) rm_X12_is g (.ref (q 0) :: [.int a1]) (mw g q M) (mw g q r.2) (some (.int r.1)) 0 0 := c_X12_is (r := r.1) (S' := r.2) h
def fo_mark (T : XS) (a1 : Int32) (a2 : Int32) : Option (Int32 × XS) := bp (f_X11_mark T.1 a1 a2) (fun r => some (r, T))
theorem o_mark {g : KG} {a0 : Nat} {T : XS} {w0 : va_W} {a1 : Int32} {a2 : Int32} {r : Int32 × XS} (h0 : cF g a0 T w0) (h : fo_mark T a1 a2 = some r) : ∀ l, kMx l yX11_mark cX11_mark 3 (some .int) rm_X11_mark g (.ref a0 :: [.int a1, .int a2]) w0 (fun o w => o = some (.int r.1) ∧ cF g a0 r.2 w) 0 0 := by
  obtain ⟨S, dl⟩ := T
  unfold fo_mark at h
  cases e : f_X11_mark S a1 a2 with
  | none => rw [e] at h; cases h
  | some z => rw [e] at h; cases h; exact x_ofM (fun _ _ => c_X11_mark e) i1_rf h0
def fm_mark (M : MS) (a1 : Int32) (a2 : Int32) : Option (Int32 × MS) := bp (f_X12_mark M a1 a2) (fun r => some (r, M))
theorem p_mark {g : KG} {q : Nat → Nat} {M : MS} {a1 : Int32} {a2 : Int32} {r : Int32 × MS} (h : fm_mark M a1 a2 = some r) : ∀ l, kM l yX12_mark cX12_mark 3 (some .int) rm_X12_mark g (.ref (q 0) :: [.int a1, .int a2]) (mw g q M) (mw g q r.2) (some (.int r.1)) 0 0 := by
  unfold fm_mark at h
  cases e : f_X12_mark M a1 a2 with
  | none => rw [e] at h; cases h
  | some z => rw [e] at h; cases h; exact c_X12_mark e
def fo_told (T : XS) (a1 : Int32) (a2 : Int32) (a3 : Int32) : Option (Int32 × XS) := bp (f_X11_told T.1 a1 a2 a3) (fun r => some (r, T))
theorem o_told {g : KG} {a0 : Nat} {T : XS} {w0 : va_W} {a1 : Int32} {a2 : Int32} {a3 : Int32} {r : Int32 × XS} (h0 : cF g a0 T w0) (h : fo_told T a1 a2 a3 = some r) : ∀ l, kMx l yX11_told cX11_told 5 (some .int) rm_X11_told g (.ref a0 :: [.int a1, .int a2, .int a3]) w0 (fun o w => o = some (.int r.1) ∧ cF g a0 r.2 w) 0 0 := by
  obtain ⟨S, dl⟩ := T
  unfold fo_told at h
  cases e : f_X11_told S a1 a2 a3 with
  | none => rw [e] at h; cases h
  | some z => rw [e] at h; cases h; exact x_ofM (fun _ _ => c_X11_told e) i1_rf h0
def fm_told (M : MS) (a1 : Int32) (a2 : Int32) (a3 : Int32) : Option (Int32 × MS) := bp (f_X12_told M a1 a2 a3) (fun r => some (r, M))
theorem p_told {g : KG} {q : Nat → Nat} {M : MS} {a1 : Int32} {a2 : Int32} {a3 : Int32} {r : Int32 × MS} (h : fm_told M a1 a2 a3 = some r) : ∀ l, kM l yX12_told cX12_told 4 (some .int) rm_X12_told g (.ref (q 0) :: [.int a1, .int a2, .int a3]) (mw g q M) (mw g q r.2) (some (.int r.1)) 0 0 := by
  unfold fm_told at h
  cases e : f_X12_told M a1 a2 a3 with
  | none => rw [e] at h; cases h
  | some z => rw [e] at h; cases h; exact c_X12_told e
def fo_good (T : XS) (a1 : Int32) : Option (Int32 × XS) := bw (f_X11_good T.1 a1) (fun r S => some (r, (S, T.2)))
theorem o_good {g : KG} {a0 : Nat} {T : XS} {w0 : va_W} {a1 : Int32} {r : Int32 × XS} (h0 : cF g a0 T w0) (h : fo_good T a1 = some r) : ∀ l, kMx l yX11_good cX11_good 2 (some .int) rm_X11_good g (.ref a0 :: [.int a1]) w0 (fun o w => o = some (.int r.1) ∧ cF g a0 r.2 w) 0 0 := by
  obtain ⟨S, dl⟩ := T
  unfold fo_good at h
  cases e : f_X11_good S a1 with
  | none => rw [e] at h; cases h
  | some z => rw [e] at h; cases h; exact x_ofM (fun _ _ => c_X11_good (r := z.1) (S' := z.2) e) (i1_tr i1_rf (w_X11_good (r := z.1) (S' := z.2) e) (by decide) (by decide)) h0
abbrev fm_good (M : MS) (a1 : Int32) : Option (Int32 × MS) := f_X12_good M a1
theorem p_good {g : KG} {q : Nat → Nat} {M : MS} {a1 : Int32} {r : Int32 × MS} (h : fm_good M a1 = some r) : ∀ l, kM l yX12_good cX12_good 2 (some .int) rm_X12_good g (.ref (q 0) :: [.int a1]) (mw g q M) (mw g q r.2) (some (.int r.1)) 0 0 := c_X12_good (r := r.1) (S' := r.2) h
def fo_ratify (T : XS) (a1 : Int32) : Option (Int32 × XS) := bp (f_X11_ratify T.1 a1) (fun r => some (r.1, (r.2.1, xdl r.2.2 T.2)))
theorem o_ratify {g : KG} {a0 : Nat} {T : XS} {w0 : va_W} {a1 : Int32} {r : Int32 × XS} (h0 : cF g a0 T w0) (h : fo_ratify T a1 = some r) : ∀ l, kMx l yX11_ratify cX11_ratify 2 (some .int) rm_X11_ratify g (.ref a0 :: [.int a1]) w0 (fun o w => o = some (.int r.1) ∧ cF g a0 r.2 w) 1 5 := by
  obtain ⟨S, dl⟩ := T
  unfold fo_ratify at h
  cases e : f_X11_ratify S a1 with
  | none => rw [e] at h; cases h
  | some z => rw [e] at h; cases h; exact x_ofR (fun _ _ _ => c_X11_ratify e) (w_X11_ratify e) h0
abbrev fm_ratify (M : MS) (a1 : Int32) : Option (Int32 × MS) := f_X12_ratify M a1
theorem p_ratify {g : KG} {q : Nat → Nat} {M : MS} {a1 : Int32} {r : Int32 × MS} (h : fm_ratify M a1 = some r) : ∀ l, kM l yX12_ratify cX12_ratify 2 (some .int) rm_X12_ratify g (.ref (q 0) :: [.int a1]) (mw g q M) (mw g q r.2) (some (.int r.1)) 0 0 := c_X12_ratify (r := r.1) (S' := r.2) h
def fo_strike (T : XS) (a1 : Int32) : Option (Int32 × XS) := bp (f_X11_strike T.1 a1) (fun r => some (r.1, (r.2.1, xdl r.2.2 T.2)))
theorem o_strike {g : KG} {a0 : Nat} {T : XS} {w0 : va_W} {a1 : Int32} {r : Int32 × XS} (h0 : cF g a0 T w0) (h : fo_strike T a1 = some r) : ∀ l, kMx l yX11_strike cX11_strike 2 (some .int) rm_X11_strike g (.ref a0 :: [.int a1]) w0 (fun o w => o = some (.int r.1) ∧ cF g a0 r.2 w) 1 5 := by
  obtain ⟨S, dl⟩ := T
  unfold fo_strike at h
  cases e : f_X11_strike S a1 with
  | none => rw [e] at h; cases h
  | some z => rw [e] at h; cases h; exact x_ofR (fun _ _ _ => c_X11_strike e) (w_X11_strike e) h0
abbrev fm_strike (M : MS) (a1 : Int32) : Option (Int32 × MS) := f_X12_strike M a1
theorem p_strike {g : KG} {q : Nat → Nat} {M : MS} {a1 : Int32} {r : Int32 × MS} (h : fm_strike M a1 = some r) : ∀ l, kM l yX12_strike cX12_strike 2 (some .int) rm_X12_strike g (.ref (q 0) :: [.int a1]) (mw g q M) (mw g q r.2) (some (.int r.1)) 0 0 := c_X12_strike (r := r.1) (S' := r.2) h
def fo_ban (T : XS) (a1 : Int32) (a2 : Int32) (a3 : Int32) : Option (Int32 × XS) := bp (f_X11_ban T.1 a1 a2 a3) (fun r => some (r.1, (r.2.1, xdl r.2.2 T.2)))
theorem o_ban {g : KG} {a0 : Nat} {T : XS} {w0 : va_W} {a1 : Int32} {a2 : Int32} {a3 : Int32} {r : Int32 × XS} (h0 : cF g a0 T w0) (h : fo_ban T a1 a2 a3 = some r) : ∀ l, kMx l yX11_ban cX11_ban 9 (some .int) rm_X11_ban g (.ref a0 :: [.int a1, .int a2, .int a3]) w0 (fun o w => o = some (.int r.1) ∧ cF g a0 r.2 w) 1 5 := by
  obtain ⟨S, dl⟩ := T
  unfold fo_ban at h
  cases e : f_X11_ban S a1 a2 a3 with
  | none => rw [e] at h; cases h
  | some z => rw [e] at h; cases h; exact x_ofR (fun _ _ _ => c_X11_ban e) (w_X11_ban e) h0
abbrev fm_ban (M : MS) (a1 : Int32) (a2 : Int32) (a3 : Int32) : Option (Int32 × MS) := f_X12_ban M a1 a2 a3
theorem p_ban {g : KG} {q : Nat → Nat} {M : MS} {a1 : Int32} {a2 : Int32} {a3 : Int32} {r : Int32 × MS} (h : fm_ban M a1 a2 a3 = some r) : ∀ l, kM l yX12_ban cX12_ban 6 (some .int) rm_X12_ban g (.ref (q 0) :: [.int a1, .int a2, .int a3]) (mw g q M) (mw g q r.2) (some (.int r.1)) 0 0 := c_X12_ban (r := r.1) (S' := r.2) h
def fo_paper (T : XS) (a1 : Int32) (a2 : Int32) : Option (Int32 × XS) := bp (f_X11_paper T.1 a1 a2) (fun r => some (r.1, (r.2.1, xdl r.2.2 T.2)))
theorem o_paper {g : KG} {a0 : Nat} {T : XS} {w0 : va_W} {a1 : Int32} {a2 : Int32} {r : Int32 × XS} (h0 : cF g a0 T w0) (h : fo_paper T a1 a2 = some r) : ∀ l, kMx l yX11_paper cX11_paper 3 (some .int) rm_X11_paper g (.ref a0 :: [.int a1, .int a2]) w0 (fun o w => o = some (.int r.1) ∧ cF g a0 r.2 w) 1 5 := by
  obtain ⟨S, dl⟩ := T
  unfold fo_paper at h
  cases e : f_X11_paper S a1 a2 with
  | none => rw [e] at h; cases h
  | some z => rw [e] at h; cases h; exact x_ofR (fun _ _ _ => c_X11_paper e) (w_X11_paper e) h0
abbrev fm_paper (M : MS) (a1 : Int32) (a2 : Int32) : Option (Int32 × MS) := f_X12_paper M a1 a2
theorem p_paper {g : KG} {q : Nat → Nat} {M : MS} {a1 : Int32} {a2 : Int32} {r : Int32 × MS} (h : fm_paper M a1 a2 = some r) : ∀ l, kM l yX12_paper cX12_paper 3 (some .int) rm_X12_paper g (.ref (q 0) :: [.int a1, .int a2]) (mw g q M) (mw g q r.2) (some (.int r.1)) 0 0 := c_X12_paper (r := r.1) (S' := r.2) h
def fo_days (T : XS) (a1 : Int32) : Option (Int32 × XS) := bp (f_X11_days T.1 a1) (fun r => some (r.1, (r.2.1, xdl r.2.2 T.2)))
theorem o_days {g : KG} {a0 : Nat} {T : XS} {w0 : va_W} {a1 : Int32} {r : Int32 × XS} (h0 : cF g a0 T w0) (h : fo_days T a1 = some r) : ∀ l, kMx l yX11_days cX11_days 2 (some .int) rm_X11_days g (.ref a0 :: [.int a1]) w0 (fun o w => o = some (.int r.1) ∧ cF g a0 r.2 w) 1 5 := by
  obtain ⟨S, dl⟩ := T
  unfold fo_days at h
  cases e : f_X11_days S a1 with
  | none => rw [e] at h; cases h
  | some z => rw [e] at h; cases h; exact x_ofR (fun _ _ _ => c_X11_days e) (w_X11_days e) h0
abbrev fm_days (M : MS) (a1 : Int32) : Option (Int32 × MS) := f_X12_days M a1
theorem p_days {g : KG} {q : Nat → Nat} {M : MS} {a1 : Int32} {r : Int32 × MS} (h : fm_days M a1 = some r) : ∀ l, kM l yX12_days cX12_days 2 (some .int) rm_X12_days g (.ref (q 0) :: [.int a1]) (mw g q M) (mw g q r.2) (some (.int r.1)) 0 0 := c_X12_days (r := r.1) (S' := r.2) h
def fo_within (T : XS) (a1 : Int32) (a2 : Int32) : Option (Int32 × XS) := bp (f_X11_within T.1 a1 a2) (fun r => some (r, T))
theorem o_within {g : KG} {a0 : Nat} {T : XS} {w0 : va_W} {a1 : Int32} {a2 : Int32} {r : Int32 × XS} (h0 : cF g a0 T w0) (h : fo_within T a1 a2 = some r) : ∀ l, kMx l yX11_within cX11_within 3 (some .int) rm_X11_within g (.ref a0 :: [.int a1, .int a2]) w0 (fun o w => o = some (.int r.1) ∧ cF g a0 r.2 w) 0 0 := by
  obtain ⟨S, dl⟩ := T
  unfold fo_within at h
  cases e : f_X11_within S a1 a2 with
  | none => rw [e] at h; cases h
  | some z => rw [e] at h; cases h; exact x_ofM (fun _ _ => c_X11_within e) i1_rf h0
def fm_within (M : MS) (a1 : Int32) (a2 : Int32) : Option (Int32 × MS) := bp (f_X12_within M a1 a2) (fun r => some (r, M))
theorem p_within {g : KG} {q : Nat → Nat} {M : MS} {a1 : Int32} {a2 : Int32} {r : Int32 × MS} (h : fm_within M a1 a2 = some r) : ∀ l, kM l yX12_within cX12_within 3 (some .int) rm_X12_within g (.ref (q 0) :: [.int a1, .int a2]) (mw g q M) (mw g q r.2) (some (.int r.1)) 0 0 := by
  unfold fm_within at h
  cases e : f_X12_within M a1 a2 with
  | none => rw [e] at h; cases h
  | some z => rw [e] at h; cases h; exact c_X12_within e
def fo_chain (T : XS) (a1 : Int32) (a2 : Int32) (a3 : Int32) (a4 : Int32) : Option (Int32 × XS) := bw (f_X11_chain T.1 a1 a2 a3 a4) (fun r S => some (r, (S, T.2)))
theorem o_chain {g : KG} {a0 : Nat} {T : XS} {w0 : va_W} {a1 : Int32} {a2 : Int32} {a3 : Int32} {a4 : Int32} {r : Int32 × XS} (h0 : cF g a0 T w0) (h : fo_chain T a1 a2 a3 a4 = some r) : ∀ l, kMx l yX11_chain cX11_chain 5 (some .int) rm_X11_chain g (.ref a0 :: [.int a1, .int a2, .int a3, .int a4]) w0 (fun o w => o = some (.int r.1) ∧ cF g a0 r.2 w) 0 0 := by
  obtain ⟨S, dl⟩ := T
  unfold fo_chain at h
  cases e : f_X11_chain S a1 a2 a3 a4 with
  | none => rw [e] at h; cases h
  | some z => rw [e] at h; cases h; exact x_ofM (fun _ _ => c_X11_chain (r := z.1) (S' := z.2) e) (i1_tr i1_rf (w_X11_chain (r := z.1) (S' := z.2) e) (by decide) (by decide)) h0
abbrev fm_chain (M : MS) (a1 : Int32) (a2 : Int32) (a3 : Int32) (a4 : Int32) : Option (Int32 × MS) := f_X12_chain M a1 a2 a3 a4
theorem p_chain {g : KG} {q : Nat → Nat} {M : MS} {a1 : Int32} {a2 : Int32} {a3 : Int32} {a4 : Int32} {r : Int32 × MS} (h : fm_chain M a1 a2 a3 a4 = some r) : ∀ l, kM l yX12_chain cX12_chain 5 (some .int) rm_X12_chain g (.ref (q 0) :: [.int a1, .int a2, .int a3, .int a4]) (mw g q M) (mw g q r.2) (some (.int r.1)) 0 0 := c_X12_chain (r := r.1) (S' := r.2) h
def fo_record (T : XS) (a1 : Int32) (a2 : Int32) (a3 : Int32) : Option (Int32 × XS) := bw (f_X11_record T.1 a1 a2 a3) (fun r S => some (r, (S, T.2)))
theorem o_record {g : KG} {a0 : Nat} {T : XS} {w0 : va_W} {a1 : Int32} {a2 : Int32} {a3 : Int32} {r : Int32 × XS} (h0 : cF g a0 T w0) (h : fo_record T a1 a2 a3 = some r) : ∀ l, kMx l yX11_record cX11_record 4 (some .int) rm_X11_record g (.ref a0 :: [.int a1, .int a2, .int a3]) w0 (fun o w => o = some (.int r.1) ∧ cF g a0 r.2 w) 0 0 := by
  obtain ⟨S, dl⟩ := T
  unfold fo_record at h
  cases e : f_X11_record S a1 a2 a3 with
  | none => rw [e] at h; cases h
  | some z => rw [e] at h; cases h; exact x_ofM (fun _ _ => c_X11_record (r := z.1) (S' := z.2) e) (i1_tr i1_rf (w_X11_record (r := z.1) (S' := z.2) e) (by decide) (by decide)) h0
abbrev fm_record (M : MS) (a1 : Int32) (a2 : Int32) (a3 : Int32) : Option (Int32 × MS) := f_X12_record M a1 a2 a3
theorem p_record {g : KG} {q : Nat → Nat} {M : MS} {a1 : Int32} {a2 : Int32} {a3 : Int32} {r : Int32 × MS} (h : fm_record M a1 a2 a3 = some r) : ∀ l, kM l yX12_record cX12_record 4 (some .int) rm_X12_record g (.ref (q 0) :: [.int a1, .int a2, .int a3]) (mw g q M) (mw g q r.2) (some (.int r.1)) 0 0 := c_X12_record (r := r.1) (S' := r.2) h
def fo_holders (T : XS) (a1 : Int32) (a2 : Int32) (a3 : Int32) : Option (Int32 × XS) := bw (f_X11_holders T.1 a1 a2 a3) (fun r S => some (r, (S, T.2)))
theorem o_holders {g : KG} {a0 : Nat} {T : XS} {w0 : va_W} {a1 : Int32} {a2 : Int32} {a3 : Int32} {r : Int32 × XS} (h0 : cF g a0 T w0) (h : fo_holders T a1 a2 a3 = some r) : ∀ l, kMx l yX11_holders cX11_holders 4 (some .int) rm_X11_holders g (.ref a0 :: [.int a1, .int a2, .int a3]) w0 (fun o w => o = some (.int r.1) ∧ cF g a0 r.2 w) 0 0 := by
  obtain ⟨S, dl⟩ := T
  unfold fo_holders at h
  cases e : f_X11_holders S a1 a2 a3 with
  | none => rw [e] at h; cases h
  | some z => rw [e] at h; cases h; exact x_ofM (fun _ _ => c_X11_holders (r := z.1) (S' := z.2) e) (i1_tr i1_rf (w_X11_holders (r := z.1) (S' := z.2) e) (by decide) (by decide)) h0
abbrev fm_holders (M : MS) (a1 : Int32) (a2 : Int32) (a3 : Int32) : Option (Int32 × MS) := f_X12_holders M a1 a2 a3
theorem p_holders {g : KG} {q : Nat → Nat} {M : MS} {a1 : Int32} {a2 : Int32} {a3 : Int32} {r : Int32 × MS} (h : fm_holders M a1 a2 a3 = some r) : ∀ l, kM l yX12_holders cX12_holders 4 (some .int) rm_X12_holders g (.ref (q 0) :: [.int a1, .int a2, .int a3]) (mw g q M) (mw g q r.2) (some (.int r.1)) 0 0 := c_X12_holders (r := r.1) (S' := r.2) h
def fo_ties (T : XS) (a1 : Int32) (a2 : Int32) (a3 : Int32) : Option (Int32 × XS) := bw (f_X11_ties T.1 a1 a2 a3) (fun r S => some (r, (S, T.2)))
theorem o_ties {g : KG} {a0 : Nat} {T : XS} {w0 : va_W} {a1 : Int32} {a2 : Int32} {a3 : Int32} {r : Int32 × XS} (h0 : cF g a0 T w0) (h : fo_ties T a1 a2 a3 = some r) : ∀ l, kMx l yX11_ties cX11_ties 4 (some .int) rm_X11_ties g (.ref a0 :: [.int a1, .int a2, .int a3]) w0 (fun o w => o = some (.int r.1) ∧ cF g a0 r.2 w) 0 0 := by
  obtain ⟨S, dl⟩ := T
  unfold fo_ties at h
  cases e : f_X11_ties S a1 a2 a3 with
  | none => rw [e] at h; cases h
  | some z => rw [e] at h; cases h; exact x_ofM (fun _ _ => c_X11_ties (r := z.1) (S' := z.2) e) (i1_tr i1_rf (w_X11_ties (r := z.1) (S' := z.2) e) (by decide) (by decide)) h0
abbrev fm_ties (M : MS) (a1 : Int32) (a2 : Int32) (a3 : Int32) : Option (Int32 × MS) := f_X12_ties M a1 a2 a3
theorem p_ties {g : KG} {q : Nat → Nat} {M : MS} {a1 : Int32} {a2 : Int32} {a3 : Int32} {r : Int32 × MS} (h : fm_ties M a1 a2 a3 = some r) : ∀ l, kM l yX12_ties cX12_ties 6 (some .int) rm_X12_ties g (.ref (q 0) :: [.int a1, .int a2, .int a3]) (mw g q M) (mw g q r.2) (some (.int r.1)) 0 0 := c_X12_ties (r := r.1) (S' := r.2) h
def fo_held (T : XS) (a1 : Int32) (a2 : Int32) (a3 : Int32) (a4 : Int32) : Option (Int32 × XS) := bw (f_X11_held T.1 a1 a2 a3 a4) (fun r S => some (r, (S, T.2)))
theorem o_held {g : KG} {a0 : Nat} {T : XS} {w0 : va_W} {a1 : Int32} {a2 : Int32} {a3 : Int32} {a4 : Int32} {r : Int32 × XS} (h0 : cF g a0 T w0) (h : fo_held T a1 a2 a3 a4 = some r) : ∀ l, kMx l yX11_held cX11_held 5 (some .int) rm_X11_held g (.ref a0 :: [.int a1, .int a2, .int a3, .int a4]) w0 (fun o w => o = some (.int r.1) ∧ cF g a0 r.2 w) 0 0 := by
  obtain ⟨S, dl⟩ := T
  unfold fo_held at h
  cases e : f_X11_held S a1 a2 a3 a4 with
  | none => rw [e] at h; cases h
  | some z => rw [e] at h; cases h; exact x_ofM (fun _ _ => c_X11_held (r := z.1) (S' := z.2) e) (i1_tr i1_rf (w_X11_held (r := z.1) (S' := z.2) e) (by decide) (by decide)) h0
abbrev fm_held (M : MS) (a1 : Int32) (a2 : Int32) (a3 : Int32) (a4 : Int32) : Option (Int32 × MS) := f_X12_held M a1 a2 a3 a4
theorem p_held {g : KG} {q : Nat → Nat} {M : MS} {a1 : Int32} {a2 : Int32} {a3 : Int32} {a4 : Int32} {r : Int32 × MS} (h : fm_held M a1 a2 a3 a4 = some r) : ∀ l, kM l yX12_held cX12_held 10 (some .int) rm_X12_held g (.ref (q 0) :: [.int a1, .int a2, .int a3, .int a4]) (mw g q M) (mw g q r.2) (some (.int r.1)) 0 0 := c_X12_held (r := r.1) (S' := r.2) h
def fo_stood (T : XS) (a1 : Int32) (a2 : Int32) (a3 : Int32) (a4 : Int32) : Option (Int32 × XS) := bw (f_X11_stood T.1 a1 a2 a3 a4) (fun r S => some (r, (S, T.2)))
theorem o_stood {g : KG} {a0 : Nat} {T : XS} {w0 : va_W} {a1 : Int32} {a2 : Int32} {a3 : Int32} {a4 : Int32} {r : Int32 × XS} (h0 : cF g a0 T w0) (h : fo_stood T a1 a2 a3 a4 = some r) : ∀ l, kMx l yX11_stood cX11_stood 6 (some .int) rm_X11_stood g (.ref a0 :: [.int a1, .int a2, .int a3, .int a4]) w0 (fun o w => o = some (.int r.1) ∧ cF g a0 r.2 w) 0 0 := by
  obtain ⟨S, dl⟩ := T
  unfold fo_stood at h
  cases e : f_X11_stood S a1 a2 a3 a4 with
  | none => rw [e] at h; cases h
  | some z => rw [e] at h; cases h; exact x_ofM (fun _ _ => c_X11_stood (r := z.1) (S' := z.2) e) (i1_tr i1_rf (w_X11_stood (r := z.1) (S' := z.2) e) (by decide) (by decide)) h0
abbrev fm_stood (M : MS) (a1 : Int32) (a2 : Int32) (a3 : Int32) (a4 : Int32) : Option (Int32 × MS) := f_X12_stood M a1 a2 a3 a4
theorem p_stood {g : KG} {q : Nat → Nat} {M : MS} {a1 : Int32} {a2 : Int32} {a3 : Int32} {a4 : Int32} {r : Int32 × MS} (h : fm_stood M a1 a2 a3 a4 = some r) : ∀ l, kM l yX12_stood cX12_stood 9 (some .int) rm_X12_stood g (.ref (q 0) :: [.int a1, .int a2, .int a3, .int a4]) (mw g q M) (mw g q r.2) (some (.int r.1)) 0 0 := c_X12_stood (r := r.1) (S' := r.2) h
def fo_altered (T : XS) (a1 : Int32) (a2 : Int32) (a3 : Int32) (a4 : Int32) : Option (Int32 × XS) := bw (f_X11_altered T.1 a1 a2 a3 a4) (fun r S => some (r, (S, T.2)))
theorem o_altered {g : KG} {a0 : Nat} {T : XS} {w0 : va_W} {a1 : Int32} {a2 : Int32} {a3 : Int32} {a4 : Int32} {r : Int32 × XS} (h0 : cF g a0 T w0) (h : fo_altered T a1 a2 a3 a4 = some r) : ∀ l, kMx l yX11_altered cX11_altered 7 (some .int) rm_X11_altered g (.ref a0 :: [.int a1, .int a2, .int a3, .int a4]) w0 (fun o w => o = some (.int r.1) ∧ cF g a0 r.2 w) 0 0 := by
  obtain ⟨S, dl⟩ := T
  unfold fo_altered at h
  cases e : f_X11_altered S a1 a2 a3 a4 with
  | none => rw [e] at h; cases h
  | some z => rw [e] at h; cases h; exact x_ofM (fun _ _ => c_X11_altered (r := z.1) (S' := z.2) e) (i1_tr i1_rf (w_X11_altered (r := z.1) (S' := z.2) e) (by decide) (by decide)) h0
abbrev fm_altered (M : MS) (a1 : Int32) (a2 : Int32) (a3 : Int32) (a4 : Int32) : Option (Int32 × MS) := f_X12_altered M a1 a2 a3 a4
theorem p_altered {g : KG} {q : Nat → Nat} {M : MS} {a1 : Int32} {a2 : Int32} {a3 : Int32} {a4 : Int32} {r : Int32 × MS} (h : fm_altered M a1 a2 a3 a4 = some r) : ∀ l, kM l yX12_altered cX12_altered 5 (some .int) rm_X12_altered g (.ref (q 0) :: [.int a1, .int a2, .int a3, .int a4]) (mw g q M) (mw g q r.2) (some (.int r.1)) 0 0 := c_X12_altered (r := r.1) (S' := r.2) h
def fo_list (T : XS) (a1 : Int32) (a2 : Int32) (a3 : Int32) (a4 : Int32) : Option (Int32 × XS) := bw (f_X11_list T.1 a1 a2 a3 a4) (fun r S => some (r, (S, T.2)))
theorem o_list {g : KG} {a0 : Nat} {T : XS} {w0 : va_W} {a1 : Int32} {a2 : Int32} {a3 : Int32} {a4 : Int32} {r : Int32 × XS} (h0 : cF g a0 T w0) (h : fo_list T a1 a2 a3 a4 = some r) : ∀ l, kMx l yX11_list cX11_list 5 (some .int) rm_X11_list g (.ref a0 :: [.int a1, .int a2, .int a3, .int a4]) w0 (fun o w => o = some (.int r.1) ∧ cF g a0 r.2 w) 0 0 := by
  obtain ⟨S, dl⟩ := T
  unfold fo_list at h
  cases e : f_X11_list S a1 a2 a3 a4 with
  | none => rw [e] at h; cases h
  | some z => rw [e] at h; cases h; exact x_ofM (fun _ _ => c_X11_list (r := z.1) (S' := z.2) e) (i1_tr i1_rf (w_X11_list (r := z.1) (S' := z.2) e) (by decide) (by decide)) h0
abbrev fm_list (M : MS) (a1 : Int32) (a2 : Int32) (a3 : Int32) (a4 : Int32) : Option (Int32 × MS) := f_X12_list M a1 a2 a3 a4
theorem p_list {g : KG} {q : Nat → Nat} {M : MS} {a1 : Int32} {a2 : Int32} {a3 : Int32} {a4 : Int32} {r : Int32 × MS} (h : fm_list M a1 a2 a3 a4 = some r) : ∀ l, kM l yX12_list cX12_list 5 (some .int) rm_X12_list g (.ref (q 0) :: [.int a1, .int a2, .int a3, .int a4]) (mw g q M) (mw g q r.2) (some (.int r.1)) 0 0 := c_X12_list (r := r.1) (S' := r.2) h
def fo_rank (T : XS) (a1 : Int32) (a2 : Int32) : Option (Int32 × XS) := bw (f_X11_rank T.1 a1 a2) (fun r S => some (r, (S, T.2)))
theorem o_rank {g : KG} {a0 : Nat} {T : XS} {w0 : va_W} {a1 : Int32} {a2 : Int32} {r : Int32 × XS} (h0 : cF g a0 T w0) (h : fo_rank T a1 a2 = some r) : ∀ l, kMx l yX11_rank cX11_rank 3 (some .int) rm_X11_rank g (.ref a0 :: [.int a1, .int a2]) w0 (fun o w => o = some (.int r.1) ∧ cF g a0 r.2 w) 0 0 := by
  obtain ⟨S, dl⟩ := T
  unfold fo_rank at h
  cases e : f_X11_rank S a1 a2 with
  | none => rw [e] at h; cases h
  | some z => rw [e] at h; cases h; exact x_ofM (fun _ _ => c_X11_rank (r := z.1) (S' := z.2) e) (i1_tr i1_rf (w_X11_rank (r := z.1) (S' := z.2) e) (by decide) (by decide)) h0
abbrev fm_rank (M : MS) (a1 : Int32) (a2 : Int32) : Option (Int32 × MS) := f_X12_rank M a1 a2
theorem p_rank {g : KG} {q : Nat → Nat} {M : MS} {a1 : Int32} {a2 : Int32} {r : Int32 × MS} (h : fm_rank M a1 a2 = some r) : ∀ l, kM l yX12_rank cX12_rank 4 (some .int) rm_X12_rank g (.ref (q 0) :: [.int a1, .int a2]) (mw g q M) (mw g q r.2) (some (.int r.1)) 0 0 := c_X12_rank (r := r.1) (S' := r.2) h
def fo_wished (T : XS) (a1 : Int32) (a2 : Int32) (a3 : Int32) : Option (Int32 × XS) := bw (f_X11_wished T.1 a1 a2 a3) (fun r S => some (r, (S, T.2)))
theorem o_wished {g : KG} {a0 : Nat} {T : XS} {w0 : va_W} {a1 : Int32} {a2 : Int32} {a3 : Int32} {r : Int32 × XS} (h0 : cF g a0 T w0) (h : fo_wished T a1 a2 a3 = some r) : ∀ l, kMx l yX11_wished cX11_wished 5 (some .int) rm_X11_wished g (.ref a0 :: [.int a1, .int a2, .int a3]) w0 (fun o w => o = some (.int r.1) ∧ cF g a0 r.2 w) 0 0 := by
  obtain ⟨S, dl⟩ := T
  unfold fo_wished at h
  cases e : f_X11_wished S a1 a2 a3 with
  | none => rw [e] at h; cases h
  | some z => rw [e] at h; cases h; exact x_ofM (fun _ _ => c_X11_wished (r := z.1) (S' := z.2) e) (i1_tr i1_rf (w_X11_wished (r := z.1) (S' := z.2) e) (by decide) (by decide)) h0
abbrev fm_wished (M : MS) (a1 : Int32) (a2 : Int32) (a3 : Int32) : Option (Int32 × MS) := f_X12_wished M a1 a2 a3
theorem p_wished {g : KG} {q : Nat → Nat} {M : MS} {a1 : Int32} {a2 : Int32} {a3 : Int32} {r : Int32 × MS} (h : fm_wished M a1 a2 a3 = some r) : ∀ l, kM l yX12_wished cX12_wished 5 (some .int) rm_X12_wished g (.ref (q 0) :: [.int a1, .int a2, .int a3]) (mw g q M) (mw g q r.2) (some (.int r.1)) 0 0 := c_X12_wished (r := r.1) (S' := r.2) h
def fo_would (T : XS) (a1 : Int32) : Option (Int32 × XS) := bp (f_X11_would T.1 a1) (fun r => some (r, T))
theorem o_would {g : KG} {a0 : Nat} {T : XS} {w0 : va_W} {a1 : Int32} {r : Int32 × XS} (h0 : cF g a0 T w0) (h : fo_would T a1 = some r) : ∀ l, kMx l yX11_would cX11_would 4 (some .int) rm_X11_would g (.ref a0 :: [.int a1]) w0 (fun o w => o = some (.int r.1) ∧ cF g a0 r.2 w) 0 0 := by
  obtain ⟨S, dl⟩ := T
  unfold fo_would at h
  cases e : f_X11_would S a1 with
  | none => rw [e] at h; cases h
  | some z => rw [e] at h; cases h; exact x_ofM (fun _ _ => c_X11_would e) i1_rf h0
abbrev fm_would (M : MS) (a1 : Int32) : Option (Int32 × MS) := f_X12_would M a1
theorem p_would {g : KG} {q : Nat → Nat} {M : MS} {a1 : Int32} {r : Int32 × MS} (h : fm_would M a1 = some r) : ∀ l, kM l yX12_would cX12_would 4 (some .int) rm_X12_would g (.ref (q 0) :: [.int a1]) (mw g q M) (mw g q r.2) (some (.int r.1)) 0 0 := c_X12_would (r := r.1) (S' := r.2) h
def fo_score (T : XS) : Option (Int32 × XS) := bp (f_X11_score T.1) (fun r => some (r.1, (r.2.1, xdn 2 r.2.2 T.2)))
theorem o_score {g : KG} {a0 : Nat} {T : XS} {w0 : va_W} {r : Int32 × XS} (h0 : cF g a0 T w0) (h : fo_score T = some r) : ∀ l, kMx l yX11_score cX11_score 2 (some .int) rm_X11_score g (.ref a0 :: []) w0 (fun o w => o = some (.int r.1) ∧ cF g a0 r.2 w) 5 677 := by
  obtain ⟨S, dl⟩ := T
  unfold fo_score at h
  cases e : f_X11_score S with
  | none => rw [e] at h; cases h
  | some z => rw [e] at h; cases h; exact x_ofN (fun _ _ _ => c_X11_score e) (w_X11_score e) h0
abbrev fm_score (M : MS) : Option (Int32 × MS) := f_X12_score M
theorem p_score {g : KG} {q : Nat → Nat} {M : MS} {r : Int32 × MS} (h : fm_score M = some r) : ∀ l, kM l yX12_score cX12_score 3 (some .int) rm_X12_score g (.ref (q 0) :: []) (mw g q M) (mw g q r.2) (some (.int r.1)) 0 0 := c_X12_score (r := r.1) (S' := r.2) h
def fo_points (T : XS) (a1 : Int32) : Option (Int32 × XS) := bw (f_X11_points T.1 a1) (fun r S => some (r, (S, T.2)))
theorem o_points {g : KG} {a0 : Nat} {T : XS} {w0 : va_W} {a1 : Int32} {r : Int32 × XS} (h0 : cF g a0 T w0) (h : fo_points T a1 = some r) : ∀ l, kMx l yX11_points cX11_points 2 (some .int) rm_X11_points g (.ref a0 :: [.int a1]) w0 (fun o w => o = some (.int r.1) ∧ cF g a0 r.2 w) 0 0 := by
  obtain ⟨S, dl⟩ := T
  unfold fo_points at h
  cases e : f_X11_points S a1 with
  | none => rw [e] at h; cases h
  | some z => rw [e] at h; cases h; exact x_ofM (fun _ _ => c_X11_points (r := z.1) (S' := z.2) e) (i1_tr i1_rf (w_X11_points (r := z.1) (S' := z.2) e) (by decide) (by decide)) h0
abbrev fm_points (M : MS) (a1 : Int32) : Option (Int32 × MS) := f_X12_points M a1
theorem p_points {g : KG} {q : Nat → Nat} {M : MS} {a1 : Int32} {r : Int32 × MS} (h : fm_points M a1 = some r) : ∀ l, kM l yX12_points cX12_points 2 (some .int) rm_X12_points g (.ref (q 0) :: [.int a1]) (mw g q M) (mw g q r.2) (some (.int r.1)) 0 0 := c_X12_points (r := r.1) (S' := r.2) h
def fo_champion (T : XS) (a1 : Int32) (a2 : Int32) : Option (Int32 × XS) := bw (f_X11_champion T.1 a1 a2) (fun r S => some (r, (S, T.2)))
theorem o_champion {g : KG} {a0 : Nat} {T : XS} {w0 : va_W} {a1 : Int32} {a2 : Int32} {r : Int32 × XS} (h0 : cF g a0 T w0) (h : fo_champion T a1 a2 = some r) : ∀ l, kMx l yX11_champion cX11_champion 7 (some .int) rm_X11_champion g (.ref a0 :: [.int a1, .int a2]) w0 (fun o w => o = some (.int r.1) ∧ cF g a0 r.2 w) 0 0 := by
  obtain ⟨S, dl⟩ := T
  unfold fo_champion at h
  cases e : f_X11_champion S a1 a2 with
  | none => rw [e] at h; cases h
  | some z => rw [e] at h; cases h; exact x_ofM (fun _ _ => c_X11_champion (r := z.1) (S' := z.2) e) (i1_tr i1_rf (w_X11_champion (r := z.1) (S' := z.2) e) (by decide) (by decide)) h0
abbrev fm_champion (M : MS) (a1 : Int32) (a2 : Int32) : Option (Int32 × MS) := f_X12_champion M a1 a2
theorem p_champion {g : KG} {q : Nat → Nat} {M : MS} {a1 : Int32} {a2 : Int32} {r : Int32 × MS} (h : fm_champion M a1 a2 = some r) : ∀ l, kM l yX12_champion cX12_champion 7 (some .int) rm_X12_champion g (.ref (q 0) :: [.int a1, .int a2]) (mw g q M) (mw g q r.2) (some (.int r.1)) 0 0 := c_X12_champion (r := r.1) (S' := r.2) h
def fo_table (T : XS) (a1 : Int32) (a2 : Int32) : Option (Int32 × XS) := bw (f_X11_table T.1 a1 a2) (fun r S => some (r, (S, T.2)))
theorem o_table {g : KG} {a0 : Nat} {T : XS} {w0 : va_W} {a1 : Int32} {a2 : Int32} {r : Int32 × XS} (h0 : cF g a0 T w0) (h : fo_table T a1 a2 = some r) : ∀ l, kMx l yX11_table cX11_table 3 (some .int) rm_X11_table g (.ref a0 :: [.int a1, .int a2]) w0 (fun o w => o = some (.int r.1) ∧ cF g a0 r.2 w) 0 0 := by
  obtain ⟨S, dl⟩ := T
  unfold fo_table at h
  cases e : f_X11_table S a1 a2 with
  | none => rw [e] at h; cases h
  | some z => rw [e] at h; cases h; exact x_ofM (fun _ _ => c_X11_table (r := z.1) (S' := z.2) e) (i1_tr i1_rf (w_X11_table (r := z.1) (S' := z.2) e) (by decide) (by decide)) h0
abbrev fm_table (M : MS) (a1 : Int32) (a2 : Int32) : Option (Int32 × MS) := f_X12_table M a1 a2
theorem p_table {g : KG} {q : Nat → Nat} {M : MS} {a1 : Int32} {a2 : Int32} {r : Int32 × MS} (h : fm_table M a1 a2 = some r) : ∀ l, kM l yX12_table cX12_table 3 (some .int) rm_X12_table g (.ref (q 0) :: [.int a1, .int a2]) (mw g q M) (mw g q r.2) (some (.int r.1)) 0 0 := c_X12_table (r := r.1) (S' := r.2) h
def fo_placed (T : XS) (a1 : Int32) : Option (Int32 × XS) := bp (f_X11_placed T.1 a1) (fun r => some (r, T))
theorem o_placed {g : KG} {a0 : Nat} {T : XS} {w0 : va_W} {a1 : Int32} {r : Int32 × XS} (h0 : cF g a0 T w0) (h : fo_placed T a1 = some r) : ∀ l, kMx l yX11_placed cX11_placed 4 (some .int) rm_X11_placed g (.ref a0 :: [.int a1]) w0 (fun o w => o = some (.int r.1) ∧ cF g a0 r.2 w) 0 0 := by
  obtain ⟨S, dl⟩ := T
  unfold fo_placed at h
  cases e : f_X11_placed S a1 with
  | none => rw [e] at h; cases h
  | some z => rw [e] at h; cases h; exact x_ofM (fun _ _ => c_X11_placed e) i1_rf h0
def fm_placed (M : MS) (a1 : Int32) : Option (Int32 × MS) := bp (f_X12_placed M a1) (fun r => some (r, M))
theorem p_placed {g : KG} {q : Nat → Nat} {M : MS} {a1 : Int32} {r : Int32 × MS} (h : fm_placed M a1 = some r) : ∀ l, kM l yX12_placed cX12_placed 4 (some .int) rm_X12_placed g (.ref (q 0) :: [.int a1]) (mw g q M) (mw g q r.2) (some (.int r.1)) 0 0 := by
  unfold fm_placed at h
  cases e : f_X12_placed M a1 with
  | none => rw [e] at h; cases h
  | some z => rw [e] at h; cases h; exact c_X12_placed e
def fo_duel (T : XS) (a1 : Int32) (a2 : Int32) : Option (Int32 × XS) := bp (f_X11_duel T.1 a1 a2) (fun r => some (r, T))
theorem o_duel {g : KG} {a0 : Nat} {T : XS} {w0 : va_W} {a1 : Int32} {a2 : Int32} {r : Int32 × XS} (h0 : cF g a0 T w0) (h : fo_duel T a1 a2 = some r) : ∀ l, kMx l yX11_duel cX11_duel 6 (some .int) rm_X11_duel g (.ref a0 :: [.int a1, .int a2]) w0 (fun o w => o = some (.int r.1) ∧ cF g a0 r.2 w) 0 0 := by
  obtain ⟨S, dl⟩ := T
  unfold fo_duel at h
  cases e : f_X11_duel S a1 a2 with
  | none => rw [e] at h; cases h
  | some z => rw [e] at h; cases h; exact x_ofM (fun _ _ => c_X11_duel e) i1_rf h0
def fm_duel (M : MS) (a1 : Int32) (a2 : Int32) : Option (Int32 × MS) := bp (f_X12_duel M a1 a2) (fun r => some (r, M))
theorem p_duel {g : KG} {q : Nat → Nat} {M : MS} {a1 : Int32} {a2 : Int32} {r : Int32 × MS} (h : fm_duel M a1 a2 = some r) : ∀ l, kM l yX12_duel cX12_duel 7 (some .int) rm_X12_duel g (.ref (q 0) :: [.int a1, .int a2]) (mw g q M) (mw g q r.2) (some (.int r.1)) 0 0 := by
  unfold fm_duel at h
  cases e : f_X12_duel M a1 a2 with
  | none => rw [e] at h; cases h
  | some z => rw [e] at h; cases h; exact c_X12_duel e
def fo_progress (T : XS) (a1 : Int32) (a2 : Int32) (a3 : Int32) (a4 : Int32) : Option (Int32 × XS) := bw (f_X11_progress T.1 a1 a2 a3 a4) (fun r S => some (r, (S, T.2)))
theorem o_progress {g : KG} {a0 : Nat} {T : XS} {w0 : va_W} {a1 : Int32} {a2 : Int32} {a3 : Int32} {a4 : Int32} {r : Int32 × XS} (h0 : cF g a0 T w0) (h : fo_progress T a1 a2 a3 a4 = some r) : ∀ l, kMx l yX11_progress cX11_progress 6 (some .int) rm_X11_progress g (.ref a0 :: [.int a1, .int a2, .int a3, .int a4]) w0 (fun o w => o = some (.int r.1) ∧ cF g a0 r.2 w) 0 0 := by
  obtain ⟨S, dl⟩ := T
  unfold fo_progress at h
  cases e : f_X11_progress S a1 a2 a3 a4 with
  | none => rw [e] at h; cases h
  | some z => rw [e] at h; cases h; exact x_ofM (fun _ _ => c_X11_progress (r := z.1) (S' := z.2) e) (i1_tr i1_rf (w_X11_progress (r := z.1) (S' := z.2) e) (by decide) (by decide)) h0
abbrev fm_progress (M : MS) (a1 : Int32) (a2 : Int32) (a3 : Int32) (a4 : Int32) : Option (Int32 × MS) := f_X12_progress M a1 a2 a3 a4
theorem p_progress {g : KG} {q : Nat → Nat} {M : MS} {a1 : Int32} {a2 : Int32} {a3 : Int32} {a4 : Int32} {r : Int32 × MS} (h : fm_progress M a1 a2 a3 a4 = some r) : ∀ l, kM l yX12_progress cX12_progress 9 (some .int) rm_X12_progress g (.ref (q 0) :: [.int a1, .int a2, .int a3, .int a4]) (mw g q M) (mw g q r.2) (some (.int r.1)) 0 0 := c_X12_progress (r := r.1) (S' := r.2) h
def fo_since (T : XS) (a1 : Int32) (a2 : Int32) : Option (Int32 × XS) := bp (f_X11_since T.1 a1 a2) (fun r => some (r, T))
theorem o_since {g : KG} {a0 : Nat} {T : XS} {w0 : va_W} {a1 : Int32} {a2 : Int32} {r : Int32 × XS} (h0 : cF g a0 T w0) (h : fo_since T a1 a2 = some r) : ∀ l, kMx l yX11_since cX11_since 3 (some .int) rm_X11_since g (.ref a0 :: [.int a1, .int a2]) w0 (fun o w => o = some (.int r.1) ∧ cF g a0 r.2 w) 0 0 := by
  obtain ⟨S, dl⟩ := T
  unfold fo_since at h
  cases e : f_X11_since S a1 a2 with
  | none => rw [e] at h; cases h
  | some z => rw [e] at h; cases h; exact x_ofM (fun _ _ => c_X11_since e) i1_rf h0
abbrev fm_since (M : MS) (a1 : Int32) (a2 : Int32) : Option (Int32 × MS) := f_X12_since M a1 a2
theorem p_since {g : KG} {q : Nat → Nat} {M : MS} {a1 : Int32} {a2 : Int32} {r : Int32 × MS} (h : fm_since M a1 a2 = some r) : ∀ l, kM l yX12_since cX12_since 7 (some .int) rm_X12_since g (.ref (q 0) :: [.int a1, .int a2]) (mw g q M) (mw g q r.2) (some (.int r.1)) 0 0 := c_X12_since (r := r.1) (S' := r.2) h
def fo_without (T : XS) (a1 : Int32) (a2 : Int32) (a3 : Int32) : Option (Int32 × XS) := bw (f_X11_without T.1 a1 a2 a3) (fun r S => some (r, (S, T.2)))
theorem o_without {g : KG} {a0 : Nat} {T : XS} {w0 : va_W} {a1 : Int32} {a2 : Int32} {a3 : Int32} {r : Int32 × XS} (h0 : cF g a0 T w0) (h : fo_without T a1 a2 a3 = some r) : ∀ l, kMx l yX11_without cX11_without 4 (some .int) rm_X11_without g (.ref a0 :: [.int a1, .int a2, .int a3]) w0 (fun o w => o = some (.int r.1) ∧ cF g a0 r.2 w) 0 0 := by
  obtain ⟨S, dl⟩ := T
  unfold fo_without at h
  cases e : f_X11_without S a1 a2 a3 with
  | none => rw [e] at h; cases h
  | some z => rw [e] at h; cases h; exact x_ofM (fun _ _ => c_X11_without (r := z.1) (S' := z.2) e) (i1_tr i1_rf (w_X11_without (r := z.1) (S' := z.2) e) (by decide) (by decide)) h0
abbrev fm_without (M : MS) (a1 : Int32) (a2 : Int32) (a3 : Int32) : Option (Int32 × MS) := f_X12_without M a1 a2 a3
theorem p_without {g : KG} {q : Nat → Nat} {M : MS} {a1 : Int32} {a2 : Int32} {a3 : Int32} {r : Int32 × MS} (h : fm_without M a1 a2 a3 = some r) : ∀ l, kM l yX12_without cX12_without 4 (some .int) rm_X12_without g (.ref (q 0) :: [.int a1, .int a2, .int a3]) (mw g q M) (mw g q r.2) (some (.int r.1)) 0 0 := c_X12_without (r := r.1) (S' := r.2) h
abbrev fo_acts (T : XS) : Option (Int32 × XS) := fx_acts T
theorem o_acts {g : KG} {a0 : Nat} {T : XS} {w0 : va_W} {r : Int32 × XS} (h0 : cF g a0 T w0) (h : fo_acts T = some r) : ∀ l, kMx l yX11_acts cX11_acts 3 (some .int) rm_X11_acts g (.ref a0 :: []) w0 (fun o w => o = some (.int r.1) ∧ cF g a0 r.2 w) 30 150 := x_acts h0 h
abbrev fm_acts (M : MS) : Option (Int32 × MS) := f_X12_acts M
theorem p_acts {g : KG} {q : Nat → Nat} {M : MS} {r : Int32 × MS} (h : fm_acts M = some r) : ∀ l, kM l yX12_acts cX12_acts 3 (some .int) rm_X12_acts g (.ref (q 0) :: []) (mw g q M) (mw g q r.2) (some (.int r.1)) 0 0 := c_X12_acts (r := r.1) (S' := r.2) h
def fo_ended (T : XS) : Option (Int32 × XS) := bp (f_X11_ended T.1) (fun r => some (r, T))
theorem o_ended {g : KG} {a0 : Nat} {T : XS} {w0 : va_W} {r : Int32 × XS} (h0 : cF g a0 T w0) (h : fo_ended T = some r) : ∀ l, kMx l yX11_ended cX11_ended 1 (some .int) rm_X11_ended g (.ref a0 :: []) w0 (fun o w => o = some (.int r.1) ∧ cF g a0 r.2 w) 0 0 := by
  obtain ⟨S, dl⟩ := T
  unfold fo_ended at h
  cases e : f_X11_ended S with
  | none => rw [e] at h; cases h
  | some z => rw [e] at h; cases h; exact x_ofM (fun _ _ => c_X11_ended e) i1_rf h0
def fm_ended (M : MS) : Option (Int32 × MS) := bp (f_X12_ended M) (fun r => some (r, M))
theorem p_ended {g : KG} {q : Nat → Nat} {M : MS} {r : Int32 × MS} (h : fm_ended M = some r) : ∀ l, kM l yX12_ended cX12_ended 1 (some .int) rm_X12_ended g (.ref (q 0) :: []) (mw g q M) (mw g q r.2) (some (.int r.1)) 0 0 := by
  unfold fm_ended at h
  cases e : f_X12_ended M with
  | none => rw [e] at h; cases h
  | some z => rw [e] at h; cases h; exact c_X12_ended e
def fo_row (T : XS) (a1 : Int32) : Option (Int32 × XS) := bp (f_X11_row T.1 a1) (fun r => some (r, T))
theorem o_row {g : KG} {a0 : Nat} {T : XS} {w0 : va_W} {a1 : Int32} {r : Int32 × XS} (h0 : cF g a0 T w0) (h : fo_row T a1 = some r) : ∀ l, kMx l yX11_row cX11_row 2 (some .int) rm_X11_row g (.ref a0 :: [.int a1]) w0 (fun o w => o = some (.int r.1) ∧ cF g a0 r.2 w) 0 0 := by
  obtain ⟨S, dl⟩ := T
  unfold fo_row at h
  cases e : f_X11_row S a1 with
  | none => rw [e] at h; cases h
  | some z => rw [e] at h; cases h; exact x_ofM (fun _ _ => c_X11_row e) i1_rf h0
def fm_row (M : MS) (a1 : Int32) : Option (Int32 × MS) := bp (f_X12_row M a1) (fun r => some (r, M))
theorem p_row {g : KG} {q : Nat → Nat} {M : MS} {a1 : Int32} {r : Int32 × MS} (h : fm_row M a1 = some r) : ∀ l, kM l yX12_row cX12_row 2 (some .int) rm_X12_row g (.ref (q 0) :: [.int a1]) (mw g q M) (mw g q r.2) (some (.int r.1)) 0 0 := by
  unfold fm_row at h
  cases e : f_X12_row M a1 with
  | none => rw [e] at h; cases h
  | some z => rw [e] at h; cases h; exact c_X12_row e
def fo_personal (T : XS) (a1 : Int32) (a2 : Int32) (a3 : Int32) : Option (Int32 × XS) := bw (f_X11_personal T.1 a1 a2 a3) (fun r S => some (r, (S, T.2)))
theorem o_personal {g : KG} {a0 : Nat} {T : XS} {w0 : va_W} {a1 : Int32} {a2 : Int32} {a3 : Int32} {r : Int32 × XS} (h0 : cF g a0 T w0) (h : fo_personal T a1 a2 a3 = some r) : ∀ l, kMx l yX11_personal cX11_personal 4 (some .int) rm_X11_personal g (.ref a0 :: [.int a1, .int a2, .int a3]) w0 (fun o w => o = some (.int r.1) ∧ cF g a0 r.2 w) 0 0 := by
  obtain ⟨S, dl⟩ := T
  unfold fo_personal at h
  cases e : f_X11_personal S a1 a2 a3 with
  | none => rw [e] at h; cases h
  | some z => rw [e] at h; cases h; exact x_ofM (fun _ _ => c_X11_personal (r := z.1) (S' := z.2) e) (i1_tr i1_rf (w_X11_personal (r := z.1) (S' := z.2) e) (by decide) (by decide)) h0
abbrev fm_personal (M : MS) (a1 : Int32) (a2 : Int32) (a3 : Int32) : Option (Int32 × MS) := f_X12_personal M a1 a2 a3
theorem p_personal {g : KG} {q : Nat → Nat} {M : MS} {a1 : Int32} {a2 : Int32} {a3 : Int32} {r : Int32 × MS} (h : fm_personal M a1 a2 a3 = some r) : ∀ l, kM l yX12_personal cX12_personal 6 (some .int) rm_X12_personal g (.ref (q 0) :: [.int a1, .int a2, .int a3]) (mw g q M) (mw g q r.2) (some (.int r.1)) 0 0 := c_X12_personal (r := r.1) (S' := r.2) h
def fo_season (T : XS) (a1 : Int32) (a2 : Int32) (a3 : Int32) : Option (Int32 × XS) := bw (f_X11_season T.1 a1 a2 a3) (fun r S => some (r, (S, T.2)))
theorem o_season {g : KG} {a0 : Nat} {T : XS} {w0 : va_W} {a1 : Int32} {a2 : Int32} {a3 : Int32} {r : Int32 × XS} (h0 : cF g a0 T w0) (h : fo_season T a1 a2 a3 = some r) : ∀ l, kMx l yX11_season cX11_season 4 (some .int) rm_X11_season g (.ref a0 :: [.int a1, .int a2, .int a3]) w0 (fun o w => o = some (.int r.1) ∧ cF g a0 r.2 w) 0 0 := by
  obtain ⟨S, dl⟩ := T
  unfold fo_season at h
  cases e : f_X11_season S a1 a2 a3 with
  | none => rw [e] at h; cases h
  | some z => rw [e] at h; cases h; exact x_ofM (fun _ _ => c_X11_season (r := z.1) (S' := z.2) e) (i1_tr i1_rf (w_X11_season (r := z.1) (S' := z.2) e) (by decide) (by decide)) h0
abbrev fm_season (M : MS) (a1 : Int32) (a2 : Int32) (a3 : Int32) : Option (Int32 × MS) := f_X12_season M a1 a2 a3
theorem p_season {g : KG} {q : Nat → Nat} {M : MS} {a1 : Int32} {a2 : Int32} {a3 : Int32} {r : Int32 × MS} (h : fm_season M a1 a2 a3 = some r) : ∀ l, kM l yX12_season cX12_season 7 (some .int) rm_X12_season g (.ref (q 0) :: [.int a1, .int a2, .int a3]) (mw g q M) (mw g q r.2) (some (.int r.1)) 0 0 := c_X12_season (r := r.1) (S' := r.2) h
def fo_at (T : XS) (a1 : Int32) (a2 : Int32) (a3 : Int32) (a4 : Int32) : Option (Int32 × XS) := bw (f_X11_at T.1 a1 a2 a3 a4) (fun r S => some (r, (S, T.2)))
theorem o_at {g : KG} {a0 : Nat} {T : XS} {w0 : va_W} {a1 : Int32} {a2 : Int32} {a3 : Int32} {a4 : Int32} {r : Int32 × XS} (h0 : cF g a0 T w0) (h : fo_at T a1 a2 a3 a4 = some r) : ∀ l, kMx l yX11_at cX11_at 5 (some .int) rm_X11_at g (.ref a0 :: [.int a1, .int a2, .int a3, .int a4]) w0 (fun o w => o = some (.int r.1) ∧ cF g a0 r.2 w) 0 0 := by
  obtain ⟨S, dl⟩ := T
  unfold fo_at at h
  cases e : f_X11_at S a1 a2 a3 a4 with
  | none => rw [e] at h; cases h
  | some z => rw [e] at h; cases h; exact x_ofM (fun _ _ => c_X11_at (r := z.1) (S' := z.2) e) (i1_tr i1_rf (w_X11_at (r := z.1) (S' := z.2) e) (by decide) (by decide)) h0
abbrev fm_at (M : MS) (a1 : Int32) (a2 : Int32) (a3 : Int32) (a4 : Int32) : Option (Int32 × MS) := f_X12_at M a1 a2 a3 a4
theorem p_at {g : KG} {q : Nat → Nat} {M : MS} {a1 : Int32} {a2 : Int32} {a3 : Int32} {a4 : Int32} {r : Int32 × MS} (h : fm_at M a1 a2 a3 a4 = some r) : ∀ l, kM l yX12_at cX12_at 8 (some .int) rm_X12_at g (.ref (q 0) :: [.int a1, .int a2, .int a3, .int a4]) (mw g q M) (mw g q r.2) (some (.int r.1)) 0 0 := c_X12_at (r := r.1) (S' := r.2) h
def fo_missing (T : XS) (a1 : Int32) : Option (Int32 × XS) := bw (f_X11_missing T.1 a1) (fun r S => some (r, (S, T.2)))
theorem o_missing {g : KG} {a0 : Nat} {T : XS} {w0 : va_W} {a1 : Int32} {r : Int32 × XS} (h0 : cF g a0 T w0) (h : fo_missing T a1 = some r) : ∀ l, kMx l yX11_missing cX11_missing 7 (some .int) rm_X11_missing g (.ref a0 :: [.int a1]) w0 (fun o w => o = some (.int r.1) ∧ cF g a0 r.2 w) 0 0 := by
  obtain ⟨S, dl⟩ := T
  unfold fo_missing at h
  cases e : f_X11_missing S a1 with
  | none => rw [e] at h; cases h
  | some z => rw [e] at h; cases h; exact x_ofM (fun _ _ => c_X11_missing (r := z.1) (S' := z.2) e) (i1_tr i1_rf (w_X11_missing (r := z.1) (S' := z.2) e) (by decide) (by decide)) h0
abbrev fm_missing (M : MS) (a1 : Int32) : Option (Int32 × MS) := f_X12_missing M a1
theorem p_missing {g : KG} {q : Nat → Nat} {M : MS} {a1 : Int32} {r : Int32 × MS} (h : fm_missing M a1 = some r) : ∀ l, kM l yX12_missing cX12_missing 5 (some .int) rm_X12_missing g (.ref (q 0) :: [.int a1]) (mw g q M) (mw g q r.2) (some (.int r.1)) 0 0 := c_X12_missing (r := r.1) (S' := r.2) h
def fo_stands (T : XS) (a1 : Int32) (a2 : Int32) : Option (Int32 × XS) := bw (f_X11_stands T.1 a1 a2) (fun r S => some (r, (S, T.2)))
theorem o_stands {g : KG} {a0 : Nat} {T : XS} {w0 : va_W} {a1 : Int32} {a2 : Int32} {r : Int32 × XS} (h0 : cF g a0 T w0) (h : fo_stands T a1 a2 = some r) : ∀ l, kMx l yX11_stands cX11_stands 5 (some .int) rm_X11_stands g (.ref a0 :: [.int a1, .int a2]) w0 (fun o w => o = some (.int r.1) ∧ cF g a0 r.2 w) 0 0 := by
  obtain ⟨S, dl⟩ := T
  unfold fo_stands at h
  cases e : f_X11_stands S a1 a2 with
  | none => rw [e] at h; cases h
  | some z => rw [e] at h; cases h; exact x_ofM (fun _ _ => c_X11_stands (r := z.1) (S' := z.2) e) (i1_tr i1_rf (w_X11_stands (r := z.1) (S' := z.2) e) (by decide) (by decide)) h0
abbrev fm_stands (M : MS) (a1 : Int32) (a2 : Int32) : Option (Int32 × MS) := f_X12_stands M a1 a2
theorem p_stands {g : KG} {q : Nat → Nat} {M : MS} {a1 : Int32} {a2 : Int32} {r : Int32 × MS} (h : fm_stands M a1 a2 = some r) : ∀ l, kM l yX12_stands cX12_stands 6 (some .int) rm_X12_stands g (.ref (q 0) :: [.int a1, .int a2]) (mw g q M) (mw g q r.2) (some (.int r.1)) 0 0 := c_X12_stands (r := r.1) (S' := r.2) h
def fo_holding (T : XS) (a1 : Int32) : Option (Int32 × XS) := bw (f_X11_holding T.1 a1) (fun r S => some (r, (S, T.2)))
theorem o_holding {g : KG} {a0 : Nat} {T : XS} {w0 : va_W} {a1 : Int32} {r : Int32 × XS} (h0 : cF g a0 T w0) (h : fo_holding T a1 = some r) : ∀ l, kMx l yX11_holding cX11_holding 4 (some .int) rm_X11_holding g (.ref a0 :: [.int a1]) w0 (fun o w => o = some (.int r.1) ∧ cF g a0 r.2 w) 0 0 := by
  obtain ⟨S, dl⟩ := T
  unfold fo_holding at h
  cases e : f_X11_holding S a1 with
  | none => rw [e] at h; cases h
  | some z => rw [e] at h; cases h; exact x_ofM (fun _ _ => c_X11_holding (r := z.1) (S' := z.2) e) (i1_tr i1_rf (w_X11_holding (r := z.1) (S' := z.2) e) (by decide) (by decide)) h0
abbrev fm_holding (M : MS) (a1 : Int32) : Option (Int32 × MS) := f_X12_holding M a1
theorem p_holding {g : KG} {q : Nat → Nat} {M : MS} {a1 : Int32} {r : Int32 × MS} (h : fm_holding M a1 = some r) : ∀ l, kM l yX12_holding cX12_holding 5 (some .int) rm_X12_holding g (.ref (q 0) :: [.int a1]) (mw g q M) (mw g q r.2) (some (.int r.1)) 0 0 := c_X12_holding (r := r.1) (S' := r.2) h
def fo_drought (T : XS) (a1 : Int32) (a2 : Int32) (a3 : Int32) : Option (Int32 × XS) := bw (f_X11_drought T.1 a1 a2 a3) (fun r S => some (r, (S, T.2)))
theorem o_drought {g : KG} {a0 : Nat} {T : XS} {w0 : va_W} {a1 : Int32} {a2 : Int32} {a3 : Int32} {r : Int32 × XS} (h0 : cF g a0 T w0) (h : fo_drought T a1 a2 a3 = some r) : ∀ l, kMx l yX11_drought cX11_drought 4 (some .int) rm_X11_drought g (.ref a0 :: [.int a1, .int a2, .int a3]) w0 (fun o w => o = some (.int r.1) ∧ cF g a0 r.2 w) 0 0 := by
  obtain ⟨S, dl⟩ := T
  unfold fo_drought at h
  cases e : f_X11_drought S a1 a2 a3 with
  | none => rw [e] at h; cases h
  | some z => rw [e] at h; cases h; exact x_ofM (fun _ _ => c_X11_drought (r := z.1) (S' := z.2) e) (i1_tr i1_rf (w_X11_drought (r := z.1) (S' := z.2) e) (by decide) (by decide)) h0
abbrev fm_drought (M : MS) (a1 : Int32) (a2 : Int32) (a3 : Int32) : Option (Int32 × MS) := f_X12_drought M a1 a2 a3
theorem p_drought {g : KG} {q : Nat → Nat} {M : MS} {a1 : Int32} {a2 : Int32} {a3 : Int32} {r : Int32 × MS} (h : fm_drought M a1 a2 a3 = some r) : ∀ l, kM l yX12_drought cX12_drought 7 (some .int) rm_X12_drought g (.ref (q 0) :: [.int a1, .int a2, .int a3]) (mw g q M) (mw g q r.2) (some (.int r.1)) 0 0 := c_X12_drought (r := r.1) (S' := r.2) h
abbrev fo_back (T : XS) : Option (Int32 × XS) := fx_back T
theorem o_back {g : KG} {a0 : Nat} {T : XS} {w0 : va_W} {r : Int32 × XS} (h0 : cF g a0 T w0) (h : fo_back T = some r) : ∀ l, kMx l yX11_back cX11_back 2 (some .int) rm_X11_back g (.ref a0 :: []) w0 (fun o w => o = some (.int r.1) ∧ cF g a0 r.2 w) 0 0 := x_back h0 h
abbrev fm_back (M : MS) : Option (Int32 × MS) := f_X12_back M
theorem p_back {g : KG} {q : Nat → Nat} {M : MS} {r : Int32 × MS} (h : fm_back M = some r) : ∀ l, kM l yX12_back cX12_back 2 (some .int) rm_X12_back g (.ref (q 0) :: []) (mw g q M) (mw g q r.2) (some (.int r.1)) 0 0 := c_X12_back (r := r.1) (S' := r.2) h
def fo_write (T : XS) (a1 : Int32) (a2 : Int32) (a3 : Int32) : Option (Int32 × XS) := bw (f_X11_write T.1 a1 a2 a3) (fun r S => some (r, (S, T.2)))
theorem o_write {g : KG} {a0 : Nat} {T : XS} {w0 : va_W} {a1 : Int32} {a2 : Int32} {a3 : Int32} {r : Int32 × XS} (h0 : cF g a0 T w0) (h : fo_write T a1 a2 a3 = some r) : ∀ l, kMx l yX11_write cX11_write 6 (some .int) rm_X11_write g (.ref a0 :: [.int a1, .int a2, .int a3]) w0 (fun o w => o = some (.int r.1) ∧ cF g a0 r.2 w) 0 0 := by
  obtain ⟨S, dl⟩ := T
  unfold fo_write at h
  cases e : f_X11_write S a1 a2 a3 with
  | none => rw [e] at h; cases h
  | some z => rw [e] at h; cases h; exact x_ofM (fun _ _ => c_X11_write (r := z.1) (S' := z.2) e) (i1_tr i1_rf (w_X11_write (r := z.1) (S' := z.2) e) (by decide) (by decide)) h0
abbrev fm_write (M : MS) (a1 : Int32) (a2 : Int32) (a3 : Int32) : Option (Int32 × MS) := f_X12_write M a1 a2 a3
theorem p_write {g : KG} {q : Nat → Nat} {M : MS} {a1 : Int32} {a2 : Int32} {a3 : Int32} {r : Int32 × MS} (h : fm_write M a1 a2 a3 = some r) : ∀ l, kM l yX12_write cX12_write 5 (some .int) rm_X12_write g (.ref (q 0) :: [.int a1, .int a2, .int a3]) (mw g q M) (mw g q r.2) (some (.int r.1)) 0 0 := c_X12_write (r := r.1) (S' := r.2) h
def fo_octet (T : XS) (a1 : Int32) : Option (Int32 × XS) := bp (f_X11_octet T.1 a1) (fun r => some (r, T))
theorem o_octet {g : KG} {a0 : Nat} {T : XS} {w0 : va_W} {a1 : Int32} {r : Int32 × XS} (h0 : cF g a0 T w0) (h : fo_octet T a1 = some r) : ∀ l, kMx l yX11_octet cX11_octet 2 (some .int) rm_X11_octet g (.ref a0 :: [.int a1]) w0 (fun o w => o = some (.int r.1) ∧ cF g a0 r.2 w) 0 0 := by
  obtain ⟨S, dl⟩ := T
  unfold fo_octet at h
  cases e : f_X11_octet S a1 with
  | none => rw [e] at h; cases h
  | some z => rw [e] at h; cases h; exact x_ofM (fun _ _ => c_X11_octet e) i1_rf h0
def fm_octet (M : MS) (a1 : Int32) : Option (Int32 × MS) := bp (f_X12_octet M a1) (fun r => some (r, M))
theorem p_octet {g : KG} {q : Nat → Nat} {M : MS} {a1 : Int32} {r : Int32 × MS} (h : fm_octet M a1 = some r) : ∀ l, kM l yX12_octet cX12_octet 2 (some .int) rm_X12_octet g (.ref (q 0) :: [.int a1]) (mw g q M) (mw g q r.2) (some (.int r.1)) 0 0 := by
  unfold fm_octet at h
  cases e : f_X12_octet M a1 with
  | none => rw [e] at h; cases h
  | some z => rw [e] at h; cases h; exact c_X12_octet e
/-- what the two sides owe each other: RL holds at first, and every call answers alike and keeps it -/
def LOK (RL : XS → MS → Prop) : Prop := RL (cS0, []) mS0 ∧
  (∀ (T : XS) (M : MS) (a1 : Int32) (a2 : Int32) (a3 : Int32) (a4 : Int32) (a5 : Int32), RL T M → ∃ (r : Int32) (T' : XS) (M' : MS), fo_feed T a1 a2 a3 a4 a5 = some (r, T') ∧ fm_feed M a1 a2 a3 a4 a5 = some (r, M') ∧ RL T' M') ∧
  (∀ (T : XS) (M : MS) (a1 : Int32), RL T M → ∃ (r : Int32) (T' : XS) (M' : MS), fo_end T a1 = some (r, T') ∧ fm_end M a1 = some (r, M') ∧ RL T' M') ∧
  (∀ (T : XS) (M : MS), RL T M → ∃ (r : Int32) (T' : XS) (M' : MS), fo_text T = some (r, T') ∧ fm_text M = some (r, M') ∧ RL T' M') ∧
  (∀ (T : XS) (M : MS), RL T M → ∃ (r : Int32) (T' : XS) (M' : MS), fo_needs T = some (r, T') ∧ fm_needs M = some (r, M') ∧ RL T' M') ∧
  (∀ (T : XS) (M : MS), RL T M → ∃ (r : Int32) (T' : XS) (M' : MS), fo_fault T = some (r, T') ∧ fm_fault M = some (r, M') ∧ RL T' M') ∧
  (∀ (T : XS) (M : MS) (a1 : Int32), RL T M → ∃ (r : Int32) (T' : XS) (M' : MS), fo_is T a1 = some (r, T') ∧ fm_is M a1 = some (r, M') ∧ RL T' M') ∧
  (∀ (T : XS) (M : MS) (a1 : Int32) (a2 : Int32), RL T M → ∃ (r : Int32) (T' : XS) (M' : MS), fo_mark T a1 a2 = some (r, T') ∧ fm_mark M a1 a2 = some (r, M') ∧ RL T' M') ∧
  (∀ (T : XS) (M : MS) (a1 : Int32) (a2 : Int32) (a3 : Int32), RL T M → ∃ (r : Int32) (T' : XS) (M' : MS), fo_told T a1 a2 a3 = some (r, T') ∧ fm_told M a1 a2 a3 = some (r, M') ∧ RL T' M') ∧
  (∀ (T : XS) (M : MS) (a1 : Int32), RL T M → ∃ (r : Int32) (T' : XS) (M' : MS), fo_good T a1 = some (r, T') ∧ fm_good M a1 = some (r, M') ∧ RL T' M') ∧
  (∀ (T : XS) (M : MS) (a1 : Int32), RL T M → ∃ (r : Int32) (T' : XS) (M' : MS), fo_ratify T a1 = some (r, T') ∧ fm_ratify M a1 = some (r, M') ∧ RL T' M') ∧
  (∀ (T : XS) (M : MS) (a1 : Int32), RL T M → ∃ (r : Int32) (T' : XS) (M' : MS), fo_strike T a1 = some (r, T') ∧ fm_strike M a1 = some (r, M') ∧ RL T' M') ∧
  (∀ (T : XS) (M : MS) (a1 : Int32) (a2 : Int32) (a3 : Int32), RL T M → ∃ (r : Int32) (T' : XS) (M' : MS), fo_ban T a1 a2 a3 = some (r, T') ∧ fm_ban M a1 a2 a3 = some (r, M') ∧ RL T' M') ∧
  (∀ (T : XS) (M : MS) (a1 : Int32) (a2 : Int32), RL T M → ∃ (r : Int32) (T' : XS) (M' : MS), fo_paper T a1 a2 = some (r, T') ∧ fm_paper M a1 a2 = some (r, M') ∧ RL T' M') ∧
  (∀ (T : XS) (M : MS) (a1 : Int32), RL T M → ∃ (r : Int32) (T' : XS) (M' : MS), fo_days T a1 = some (r, T') ∧ fm_days M a1 = some (r, M') ∧ RL T' M') ∧
  (∀ (T : XS) (M : MS) (a1 : Int32) (a2 : Int32), RL T M → ∃ (r : Int32) (T' : XS) (M' : MS), fo_within T a1 a2 = some (r, T') ∧ fm_within M a1 a2 = some (r, M') ∧ RL T' M') ∧
  (∀ (T : XS) (M : MS) (a1 : Int32) (a2 : Int32) (a3 : Int32) (a4 : Int32), RL T M → ∃ (r : Int32) (T' : XS) (M' : MS), fo_chain T a1 a2 a3 a4 = some (r, T') ∧ fm_chain M a1 a2 a3 a4 = some (r, M') ∧ RL T' M') ∧
  (∀ (T : XS) (M : MS) (a1 : Int32) (a2 : Int32) (a3 : Int32), RL T M → ∃ (r : Int32) (T' : XS) (M' : MS), fo_record T a1 a2 a3 = some (r, T') ∧ fm_record M a1 a2 a3 = some (r, M') ∧ RL T' M') ∧
  (∀ (T : XS) (M : MS) (a1 : Int32) (a2 : Int32) (a3 : Int32), RL T M → ∃ (r : Int32) (T' : XS) (M' : MS), fo_holders T a1 a2 a3 = some (r, T') ∧ fm_holders M a1 a2 a3 = some (r, M') ∧ RL T' M') ∧
  (∀ (T : XS) (M : MS) (a1 : Int32) (a2 : Int32) (a3 : Int32), RL T M → ∃ (r : Int32) (T' : XS) (M' : MS), fo_ties T a1 a2 a3 = some (r, T') ∧ fm_ties M a1 a2 a3 = some (r, M') ∧ RL T' M') ∧
  (∀ (T : XS) (M : MS) (a1 : Int32) (a2 : Int32) (a3 : Int32) (a4 : Int32), RL T M → ∃ (r : Int32) (T' : XS) (M' : MS), fo_held T a1 a2 a3 a4 = some (r, T') ∧ fm_held M a1 a2 a3 a4 = some (r, M') ∧ RL T' M') ∧
  (∀ (T : XS) (M : MS) (a1 : Int32) (a2 : Int32) (a3 : Int32) (a4 : Int32), RL T M → ∃ (r : Int32) (T' : XS) (M' : MS), fo_stood T a1 a2 a3 a4 = some (r, T') ∧ fm_stood M a1 a2 a3 a4 = some (r, M') ∧ RL T' M') ∧
  (∀ (T : XS) (M : MS) (a1 : Int32) (a2 : Int32) (a3 : Int32) (a4 : Int32), RL T M → ∃ (r : Int32) (T' : XS) (M' : MS), fo_altered T a1 a2 a3 a4 = some (r, T') ∧ fm_altered M a1 a2 a3 a4 = some (r, M') ∧ RL T' M') ∧
  (∀ (T : XS) (M : MS) (a1 : Int32) (a2 : Int32) (a3 : Int32) (a4 : Int32), RL T M → ∃ (r : Int32) (T' : XS) (M' : MS), fo_list T a1 a2 a3 a4 = some (r, T') ∧ fm_list M a1 a2 a3 a4 = some (r, M') ∧ RL T' M') ∧
  (∀ (T : XS) (M : MS) (a1 : Int32) (a2 : Int32), RL T M → ∃ (r : Int32) (T' : XS) (M' : MS), fo_rank T a1 a2 = some (r, T') ∧ fm_rank M a1 a2 = some (r, M') ∧ RL T' M') ∧
  (∀ (T : XS) (M : MS) (a1 : Int32) (a2 : Int32) (a3 : Int32), RL T M → ∃ (r : Int32) (T' : XS) (M' : MS), fo_wished T a1 a2 a3 = some (r, T') ∧ fm_wished M a1 a2 a3 = some (r, M') ∧ RL T' M') ∧
  (∀ (T : XS) (M : MS) (a1 : Int32), RL T M → ∃ (r : Int32) (T' : XS) (M' : MS), fo_would T a1 = some (r, T') ∧ fm_would M a1 = some (r, M') ∧ RL T' M') ∧
  (∀ (T : XS) (M : MS), RL T M → ∃ (r : Int32) (T' : XS) (M' : MS), fo_score T = some (r, T') ∧ fm_score M = some (r, M') ∧ RL T' M') ∧
  (∀ (T : XS) (M : MS) (a1 : Int32), RL T M → ∃ (r : Int32) (T' : XS) (M' : MS), fo_points T a1 = some (r, T') ∧ fm_points M a1 = some (r, M') ∧ RL T' M') ∧
  (∀ (T : XS) (M : MS) (a1 : Int32) (a2 : Int32), RL T M → ∃ (r : Int32) (T' : XS) (M' : MS), fo_champion T a1 a2 = some (r, T') ∧ fm_champion M a1 a2 = some (r, M') ∧ RL T' M') ∧
  (∀ (T : XS) (M : MS) (a1 : Int32) (a2 : Int32), RL T M → ∃ (r : Int32) (T' : XS) (M' : MS), fo_table T a1 a2 = some (r, T') ∧ fm_table M a1 a2 = some (r, M') ∧ RL T' M') ∧
  (∀ (T : XS) (M : MS) (a1 : Int32), RL T M → ∃ (r : Int32) (T' : XS) (M' : MS), fo_placed T a1 = some (r, T') ∧ fm_placed M a1 = some (r, M') ∧ RL T' M') ∧
  (∀ (T : XS) (M : MS) (a1 : Int32) (a2 : Int32), RL T M → ∃ (r : Int32) (T' : XS) (M' : MS), fo_duel T a1 a2 = some (r, T') ∧ fm_duel M a1 a2 = some (r, M') ∧ RL T' M') ∧
  (∀ (T : XS) (M : MS) (a1 : Int32) (a2 : Int32) (a3 : Int32) (a4 : Int32), RL T M → ∃ (r : Int32) (T' : XS) (M' : MS), fo_progress T a1 a2 a3 a4 = some (r, T') ∧ fm_progress M a1 a2 a3 a4 = some (r, M') ∧ RL T' M') ∧
  (∀ (T : XS) (M : MS) (a1 : Int32) (a2 : Int32), RL T M → ∃ (r : Int32) (T' : XS) (M' : MS), fo_since T a1 a2 = some (r, T') ∧ fm_since M a1 a2 = some (r, M') ∧ RL T' M') ∧
  (∀ (T : XS) (M : MS) (a1 : Int32) (a2 : Int32) (a3 : Int32), RL T M → ∃ (r : Int32) (T' : XS) (M' : MS), fo_without T a1 a2 a3 = some (r, T') ∧ fm_without M a1 a2 a3 = some (r, M') ∧ RL T' M') ∧
  (∀ (T : XS) (M : MS), RL T M → ∃ (r : Int32) (T' : XS) (M' : MS), fo_acts T = some (r, T') ∧ fm_acts M = some (r, M') ∧ RL T' M') ∧
  (∀ (T : XS) (M : MS), RL T M → ∃ (r : Int32) (T' : XS) (M' : MS), fo_ended T = some (r, T') ∧ fm_ended M = some (r, M') ∧ RL T' M') ∧
  (∀ (T : XS) (M : MS) (a1 : Int32), RL T M → ∃ (r : Int32) (T' : XS) (M' : MS), fo_row T a1 = some (r, T') ∧ fm_row M a1 = some (r, M') ∧ RL T' M') ∧
  (∀ (T : XS) (M : MS) (a1 : Int32) (a2 : Int32) (a3 : Int32), RL T M → ∃ (r : Int32) (T' : XS) (M' : MS), fo_personal T a1 a2 a3 = some (r, T') ∧ fm_personal M a1 a2 a3 = some (r, M') ∧ RL T' M') ∧
  (∀ (T : XS) (M : MS) (a1 : Int32) (a2 : Int32) (a3 : Int32), RL T M → ∃ (r : Int32) (T' : XS) (M' : MS), fo_season T a1 a2 a3 = some (r, T') ∧ fm_season M a1 a2 a3 = some (r, M') ∧ RL T' M') ∧
  (∀ (T : XS) (M : MS) (a1 : Int32) (a2 : Int32) (a3 : Int32) (a4 : Int32), RL T M → ∃ (r : Int32) (T' : XS) (M' : MS), fo_at T a1 a2 a3 a4 = some (r, T') ∧ fm_at M a1 a2 a3 a4 = some (r, M') ∧ RL T' M') ∧
  (∀ (T : XS) (M : MS) (a1 : Int32), RL T M → ∃ (r : Int32) (T' : XS) (M' : MS), fo_missing T a1 = some (r, T') ∧ fm_missing M a1 = some (r, M') ∧ RL T' M') ∧
  (∀ (T : XS) (M : MS) (a1 : Int32) (a2 : Int32), RL T M → ∃ (r : Int32) (T' : XS) (M' : MS), fo_stands T a1 a2 = some (r, T') ∧ fm_stands M a1 a2 = some (r, M') ∧ RL T' M') ∧
  (∀ (T : XS) (M : MS) (a1 : Int32), RL T M → ∃ (r : Int32) (T' : XS) (M' : MS), fo_holding T a1 = some (r, T') ∧ fm_holding M a1 = some (r, M') ∧ RL T' M') ∧
  (∀ (T : XS) (M : MS) (a1 : Int32) (a2 : Int32) (a3 : Int32), RL T M → ∃ (r : Int32) (T' : XS) (M' : MS), fo_drought T a1 a2 a3 = some (r, T') ∧ fm_drought M a1 a2 a3 = some (r, M') ∧ RL T' M') ∧
  (∀ (T : XS) (M : MS), RL T M → ∃ (r : Int32) (T' : XS) (M' : MS), fo_back T = some (r, T') ∧ fm_back M = some (r, M') ∧ RL T' M') ∧
  (∀ (T : XS) (M : MS) (a1 : Int32) (a2 : Int32) (a3 : Int32), RL T M → ∃ (r : Int32) (T' : XS) (M' : MS), fo_write T a1 a2 a3 = some (r, T') ∧ fm_write M a1 a2 a3 = some (r, M') ∧ RL T' M') ∧
  (∀ (T : XS) (M : MS) (a1 : Int32), RL T M → ∃ (r : Int32) (T' : XS) (M' : MS), fo_octet T a1 = some (r, T') ∧ fm_octet M a1 = some (r, M') ∧ RL T' M')
theorem cF_head {g : KG} {a0 : Nat} {T : XS} {w : va_W} (h : cF g a0 T w) : ∃ fs, w[0]? = some (a0, .inr (11, fs)) := by
  obtain ⟨q, rg, DL, nx, rfl, rfl, -⟩ := h
  exact ⟨_, rfl⟩
def kScr (X : KX) (b L : Nat) (xs : Nat → Int32) : Prop := match X with
  | (_, _, _, _, s, _, _, _, _, _, _, A, _) => va_X b L xs s s.heap ∧ b < s.heap.size ∧ ¬ A b
section LAWROWS
variable {X : KX} {g : KG} {cc : ByteArray} {own : String} {rm : Room} {nn : Nat} {ρ : Type} {res : ρ} {ws : va_W} {a b pc : Nat} {lv : List (Nat × Value)} {st : List Value} {F : Option ρ} {sb L : Nat} {xs : Nat → Int32}
theorem r_sld {i : Int32} (C : kC X g cc own rm nn) (hs : kScr X sb L xs) (hin : vp_in i L) (d : decode cc pc = .ok (.iaload, 1)) (kk : jJ X g res ws a b (pc + 1) lv (.int (xs i.toNatClampNeg) :: st) F) : jJ X g res ws a b pc lv (.int i :: .ref sb :: st) F := by
  obtain ⟨p, l, e, R, s, m, args, below, meth, c, Q, A, nL⟩ := X
  obtain ⟨hx, hb, hml, hown, hts, hK, hA, hAb, hKS, hlk, rfl, hbs, rfl⟩ := C
  intro hF H locs ls hP hD hS hl
  exact va_sld hx hb hs.1 hs.2.1 hs.2.2 hS hin d (kk hF H locs ls hP hD hS hl)
theorem r_slen (C : kC X g cc own rm nn) (hs : kScr X sb L xs) (d : decode cc pc = .ok (.arraylength, 1)) (kk : jJ X g res ws a b (pc + 1) lv (.int (nI L) :: st) F) : jJ X g res ws a b pc lv (.ref sb :: st) F := by
  obtain ⟨p, l, e, R, s, m, args, below, meth, c, Q, A, nL⟩ := X
  obtain ⟨hx, hb, hml, hown, hts, hK, hA, hAb, hKS, hlk, rfl, hbs, rfl⟩ := C
  intro hF H locs ls hP hD hS hl
  exact va_slen hx hb hs.1 hs.2.1 hs.2.2 hS d (kk hF H locs ls hP hD hS hl)
theorem r_gtT {x y : Int32} {off : Int} (tgt : Nat) (C : kC X g cc own rm nn) (d : decode cc pc = .ok (.if_icmp .gt off, 3)) (ht : (pc : Int) + off = (tgt : Int)) (h : y < x) (kt : jJ X g res ws a b tgt lv st F) : jJ X g res ws a b pc lv (.int y :: .int x :: st) F := fun hF => r_icmp_gt (F1 := F) (F2 := none) tgt C d ht kt (fun z => by cases z) (by rw [if_pos h]; exact hF)
theorem r_gtF {x y : Int32} {off : Int} (tgt : Nat) (C : kC X g cc own rm nn) (d : decode cc pc = .ok (.if_icmp .gt off, 3)) (ht : (pc : Int) + off = (tgt : Int)) (h : ¬ y < x) (kf : jJ X g res ws a b (pc + 3) lv st F) : jJ X g res ws a b pc lv (.int y :: .int x :: st) F := fun hF => r_icmp_gt (F1 := none) (F2 := F) tgt C d ht (fun z => by cases z) kf (by rw [if_neg h]; exact hF)
theorem r_eqT {x : Int32} {off : Int} (tgt : Nat) (C : kC X g cc own rm nn) (d : decode cc pc = .ok (.if_icmp .eq off, 3)) (ht : (pc : Int) + off = (tgt : Int)) (kt : jJ X g res ws a b tgt lv st F) : jJ X g res ws a b pc lv (.int x :: .int x :: st) F := fun hF => r_icmp_eq (F1 := F) (F2 := none) tgt C d ht kt (fun z => by cases z) (by rw [if_pos rfl]; exact hF)
end LAWROWS
theorem vin_k {j k L : Nat} (hj : 6 * j + 6 ≤ L) (hL : L ≤ 3072) (hk : k < 6) : vp_in (nI (6 * j) + nI k) L := by rw [nI_add]; exact vp_in_nI (by omega) (by omega)
