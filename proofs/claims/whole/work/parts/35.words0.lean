/-- a name's code with one sign more -/
def cw_ (code : Int64) (c : Int32) : Int64 := (code <<< ((6 : Int32).toInt64 &&& 63)) ||| (if c < 97 then (c - 48) + 27 else (c - 97) + 1).toInt64
/-- the keywords' codes out of the first i bytes of their text: how many, the code under way, the row -/
def kwS (b : Nat → Int32) : Nat → Int32 × Int64 × (Nat → Int64)
  | 0 => (0, 0, fun _ => 0)
  | i + 1 => if (b i &&& 255) = 32 then ((kwS b i).1 + 1, 0, vp_updL (kwS b i).2.2 (kwS b i).1.toNatClampNeg (kwS b i).2.1) else ((kwS b i).1, cw_ (kwS b i).2.1 (b i &&& 255), (kwS b i).2.2)
theorem kwS_sp {b : Nat → Int32} {i : Nat} (h : (b i &&& 255) = 32) : kwS b (i + 1) = ((kwS b i).1 + 1, 0, vp_updL (kwS b i).2.2 (kwS b i).1.toNatClampNeg (kwS b i).2.1) := by
  show (if (b i &&& 255) = 32 then _ else _) = _
  rw [if_pos h]
theorem kwS_ch {b : Nat → Int32} {i : Nat} (h : ¬ (b i &&& 255) = 32) : kwS b (i + 1) = ((kwS b i).1, cw_ (kwS b i).2.1 (b i &&& 255), (kwS b i).2.2) := by
  show (if (b i &&& 255) = 32 then _ else _) = _
  rw [if_neg h]
