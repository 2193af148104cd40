/-! Small methods: what they answer, as a value. -/
def inV (v lo hi : Int64) : Int32 := if lo ≤ v ∧ v ≤ hi then 1 else 0
theorem i64_le (a b : Int32) : a.toInt64 ≤ b.toInt64 ↔ a ≤ b := by
  rw [Int64.le_iff_toInt_le, Int32.le_iff_toInt_le, Int32.toInt_toInt64, Int32.toInt_toInt64]
theorem inV_i (a b c : Int32) : inV a.toInt64 b.toInt64 c.toInt64 = if b ≤ a ∧ a ≤ c then 1 else 0 := by
  unfold inV
  simp only [i64_le]
theorem inV_bo (v lo hi : Int64) : bo (inV v lo hi) := by
  unfold inV bo
  split
  · exact Or.inr rfl
  · exact Or.inl rfl
theorem X12_in_s {d bc bs : Nat} {h : AH} {Q : Option Value → AH → Prop} {v lo hi : Int64} (w : Q (some (.int (inV v lo hi))) h) : ex_S yX12_in mX12_in d [.long v, .long lo, .long hi] h bc bs Q := by
  unfold inV at w
  refine X12_in_e (X12_in_0 ⟨fun c => ?_, fun c => ⟨fun c2 => ?_, fun c2 => ?_⟩⟩)
  · rw [lg_cmp_lt] at c
    rw [if_neg (fun z => Int64.not_le.mpr c z.1)] at w
    exact w
  · rw [lg_cmp_gt] at c2
    rw [if_neg (fun z => Int64.not_le.mpr c2 z.2)] at w
    exact w
  · rw [lg_cmp_lt] at c
    rw [lg_cmp_gt] at c2
    rw [if_pos ⟨Int64.not_lt.mp c, Int64.not_lt.mp c2⟩] at w
    exact w
def tnV (e b : Int32) : Int32 := e / 4 * 4 + ((e + b) &&& 3)
theorem X12_turned_s {d bc bs : Nat} {h : AH} {Q : Option Value → AH → Prop} {e b : Int32} (w : Q (some (.int (tnV e b))) h) : ex_S yX12_turned mX12_turned d [.int e, .int b] h bc bs Q := X12_turned_e (X12_turned_0 w)
theorem X12_no_s {d bc bs : Nat} {h : AH} {Q : Option Value → AH → Prop} {a : Nat} {v : Int32} (s : ah_o h a 12) (w : Q (some (.int v)) (ah_sf h a 0 v)) : ex_S yX12_no mX12_no d [.ref a, .int v] h bc bs Q := X12_no_e (X12_no_0 ⟨s, fun _ e => by rw [e]; exact w⟩)
def mxV (x y : Int32) : Int32 := if x < y then y else x
def mnV (x y : Int32) : Int32 := if y < x then y else x
theorem J9_max_s {d bc bs : Nat} {h : AH} {Q : Option Value → AH → Prop} {x y : Int32} (w : Q (some (.int (mxV x y))) h) : ex_S yJ9_max_7cf53 mJ9_max_7cf53 d [.int x, .int y] h bc bs Q := by
  unfold mxV at w
  refine J9_max_7cf53_e (J9_max_7cf53_0 ⟨fun c => ?_, fun c => ?_⟩)
  · rw [if_pos c] at w; exact w
  · rw [if_neg c] at w; exact w
