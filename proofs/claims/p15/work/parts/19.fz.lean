/-! what each call answers on a fresh object -/
def fz_func (a l : Int32) : Int32 := if a < 0 then -1 else if 6 < a then -1 else if l < a then -1 else if 10 < l then -1 else 0
def fz_cell (k : Int32) : Int32 := if k < 0 then 0 else if 64 ≤ k then 0 else 1
def fz_tell (w : Int32) : Int32 := if w = 0 then 0 else if w = 1 then 0 else if w = 2 then 0 else if w = 3 then 0 else if w = 4 then 0 else -1
def fz_look (m w : Int32) : Int32 := if m < 0 then -1 else if 1 < m then -1 else fz_tell w
def fz_bad (m k : Int32) : Prop := m < 0 ∨ 1 < m ∨ k < 0 ∨ 64 ≤ k
theorem pz_nle {a b : Int32} (h : a < b) : ¬ b ≤ a := fun q => by
  have h1 := Int32.lt_iff_toInt_lt.mp h
  have h2 := Int32.le_iff_toInt_le.mp q
  omega
theorem pz_nlt {a b : Int32} (h : ¬ a < b) : b ≤ a := by
  refine Int32.le_iff_toInt_le.mpr ?_
  have h1 : ¬ a.toInt < b.toInt := fun q => h (Int32.lt_iff_toInt_lt.mpr q)
  omega
theorem pz_ngt {a b : Int32} (h : a ≤ b) : ¬ b < a := fun q => pz_nle q h
theorem pz_ngu {a b : Int32} (h : ¬ a ≤ b) : b < a := by
  refine Int32.lt_iff_toInt_lt.mpr ?_
  have h1 : ¬ a.toInt ≤ b.toInt := fun q => h (Int32.le_iff_toInt_le.mpr q)
  omega
theorem pz_in2 {k : Int32} (h0 : ¬ k < 0) (h1 : ¬ 1 < k) : vp_in k 2 := by
  rcases pz_01 h0 h1 with rfl | rfl <;> (unfold vp_in; decide)
theorem pz_in128a {k : Int32} (h0 : ¬ k < 0) (h1 : ¬ 64 ≤ k) : vp_in (0 + k) 128 := by
  have e : (0 : Int32) + k = k := by simp
  rw [e]
  exact pz_in128 h0 h1
theorem pz_n2 {k : Int32} (h : ¬ 1 < k) : ¬ 2 ≤ k := by
  have b : ¬ (1 : Int) < k.toInt := fun q => h (Int32.lt_iff_toInt_lt.mpr q)
  intro q
  have a : (2 : Int) ≤ k.toInt := Int32.le_iff_toInt_le.mp q
  omega
theorem pz_2n {k : Int32} (h : ¬ 2 ≤ k) : ¬ 1 < k := by
  have b : ¬ (2 : Int) ≤ k.toInt := fun q => h (Int32.le_iff_toInt_le.mpr q)
  intro q
  have a : (1 : Int) < k.toInt := Int32.lt_iff_toInt_lt.mp q
  omega
theorem pz_01b {k : Int32} (h0 : ¬ k < 0) (h1 : ¬ 2 ≤ k) : k = 0 ∨ k = 1 := pz_01 h0 (pz_2n h1)
