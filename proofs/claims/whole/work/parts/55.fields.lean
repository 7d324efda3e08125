theorem fl_ne {fs : List Value} {j k : Nat} {v : Value} (h : k ≠ j) : (fs.set k v)[j]? = fs[j]? := by
  rw [List.getElem?_set_ne h]
theorem fl_self {fs : List Value} {k : Nat} {v : Value} (h : k < fs.length) : (fs.set k v)[k]? = some v := by
  rw [List.getElem?_set_self h]
