/-! bytes of a text, names as numbers to base 64 (the class) and to base 37 (the model) -/
abbrev isL (b : Int32) : Prop := 97 ≤ b.toInt ∧ b.toInt ≤ 122
abbrev isD (b : Int32) : Prop := 48 ≤ b.toInt ∧ b.toInt ≤ 57
abbrev isA (b : Int32) : Prop := isL b ∨ isD b
theorem b10 {c : Prop} [Decidable c] : ((if c then (1 : Int32) else 0) = 0) ↔ ¬ c := by
  split
  · rename_i h; exact ⟨fun e => absurd e (by decide), fun q => absurd h q⟩
  · rename_i h; exact ⟨fun _ => h, fun _ => rfl⟩
theorem zb_ite {c : Prop} [Decidable c] : md_zb (if c then (1 : Int32) else 0) = some (if c then (1 : Int32) else 0) := by
  split
  · exact if_pos (Or.inr rfl)
  · exact if_pos (Or.inl rfl)
theorem m_in (n : Nat) (s : md_S) (a lo hi : Int64) : f_X12_in n s a lo hi = some (if lo.toInt ≤ a.toInt ∧ a.toInt ≤ hi.toInt then 1 else 0, s) := m_inS n s a lo hi
theorem m_isLetter (n : Nat) (s : md_S) (b : Int32) : f_X12_isLetter n s b = some (if isL b then 1 else 0, s) := by
  unfold f_X12_isLetter
  rw [m_in, bs_some]
  dsimp only
  rw [zb_ite, bs_some, Int32.toInt_toInt64, show (97 : Int64).toInt = 97 by decide, show (122 : Int64).toInt = 122 by decide]
theorem m_isDigit (n : Nat) (s : md_S) (b : Int32) : f_X12_isDigit n s b = some (if isD b then 1 else 0, s) := by
  unfold f_X12_isDigit
  rw [m_in, bs_some]
  dsimp only
  rw [zb_ite, bs_some, Int32.toInt_toInt64, show (48 : Int64).toInt = 48 by decide, show (57 : Int64).toInt = 57 by decide]
theorem c_isLetter (n : Nat) (s : cd_S) (b : Int32) : f_X10_isLetter n s b = some (if isL b then 1 else 0, s) := by
  unfold f_X10_isLetter
  simp only [Int32.lt_iff_toInt_lt, show (97 : Int32).toInt = 97 by decide, show (122 : Int32).toInt = 122 by decide]
  by_cases h1 : b.toInt < 97
  · rw [if_pos h1, if_neg (by omega)]
  · rw [if_neg h1]
    by_cases h2 : 122 < b.toInt
    · rw [if_pos h2, if_neg (by omega)]
    · rw [if_neg h2, if_pos (by omega)]
theorem c_isDigit (n : Nat) (s : cd_S) (b : Int32) : f_X10_isDigit n s b = some (if isD b then 1 else 0, s) := by
  unfold f_X10_isDigit
  simp only [Int32.lt_iff_toInt_lt, show (48 : Int32).toInt = 48 by decide, show (57 : Int32).toInt = 57 by decide]
  by_cases h1 : b.toInt < 48
  · rw [if_pos h1, if_neg (by omega)]
  · rw [if_neg h1]
    by_cases h2 : 57 < b.toInt
    · rw [if_pos h2, if_neg (by omega)]
    · rw [if_neg h2, if_pos (by omega)]
/-- the text: N bytes, -1 behind them -/
def TB (B : Nat → Int32) (N : Nat) : Prop := N ≤ 3000 ∧ (∀ k, k < N → 0 ≤ (B k).toInt ∧ (B k).toInt ≤ 255) ∧ ∀ k, N ≤ k → B k = -1
theorem TB.m1 {B : Nat → Int32} {N k : Nat} (h : TB B N) : B k = -1 ↔ N ≤ k := by
  refine ⟨fun e => ?_, fun q => h.2.2 k q⟩
  by_cases q : k < N
  · have := (h.2.1 k q).1
    rw [e, show (-1 : Int32).toInt = -1 by decide] at this
    omega
  · omega
theorem TB.neg {B : Nat → Int32} {N k : Nat} (h : TB B N) (q : 0 ≤ (B k).toInt) : k < N := by
  by_cases q2 : k < N
  · exact q2
  · rw [h.2.2 k (by omega), show (-1 : Int32).toInt = -1 by decide] at q
    omega
theorem TB.al {B : Nat → Int32} {N k : Nat} (h : TB B N) (q : isA (B k)) : k < N := h.neg (by omega)
def MT (s : md_S) (B : Nat → Int32) (N : Nat) : Prop := mI s 4 = nI N ∧ ∀ k, k < N → mA s 3 k = B k
def CT (s : cd_S) (B : Nat → Int32) (N : Nat) : Prop := cI s 324 0 = nI N ∧ cP s 323 0 = 1 ∧ ∀ k, k < N → cAr s 352 0 k &&& 255 = B k
theorem m_at {n : Nat} {s : md_S} {B : Nat → Int32} {N k : Nat} (hT : TB B N) (h : MT s B N) (hk : k < 2 ^ 31) : f_X12_at n s (nI k) = some (B k, s) := by
  have := hT.1
  unfold f_X12_at
  rw [h.1]
  by_cases q : N ≤ k
  · rw [if_pos ((nI_leI (by omega) hk).mpr q), hT.2.2 k q]
  · rw [if_neg (fun z => q ((nI_leI (by omega) hk).mp z)), m_ld3 (by omega), bs_some, h.2 k (by omega)]
theorem c_byteAt {n : Nat} {s : cd_S} {B : Nat → Int32} {N k : Nat} (hT : TB B N) (h : CT s B N) (hk : k < 2 ^ 31) : f_X10_byteAt n s (nI k) = some (B k, s) := by
  have h3 := hT.1
  have htx : cd_tx s = some 0 := if_pos h.2.1
  unfold f_X10_byteAt
  rw [if_neg (show ¬ nI k < 0 from nI_nn hk), h.1]
  by_cases q : N ≤ k
  · rw [if_pos ((nI_leI (by omega) hk).mpr q), hT.2.2 k q]
  · rw [if_neg (fun z => q ((nI_leI (by omega) hk).mp z)), htx, bs_some, if_neg (show ¬ (3000 : Int32) ≤ nI k from fun z => absurd ((nI_leI (a := 3000) (by decide) hk).mp z) (by omega)), bs_some, c_ld352 (by omega), bs_some, h.2.2 k (by omega)]
theorem c_stepCharAt {n : Nat} {s : cd_S} {B : Nat → Int32} {N k : Nat} (hT : TB B N) (h : CT s B N) (hk : k < 2 ^ 31) : f_X10_stepCharAt n s (nI k) = some (if isA (B k) then 1 else 0, s) := by
  unfold f_X10_stepCharAt f_X10_stepCharAt_J20
  rw [c_byteAt hT h hk, bs_some]
  dsimp only
  rw [c_isLetter, bs_some]
  dsimp only
  rw [c_isDigit, bs_some]
  dsimp only
  by_cases h1 : isL (B k)
  · rw [if_neg (fun e => b10.mp e h1), if_pos (Or.inl h1)]
  · rw [if_pos (b10.mpr h1)]
    by_cases h2 : isD (B k)
    · rw [if_neg (fun e => b10.mp e h2), if_pos (Or.inr h2)]
    · rw [if_pos (b10.mpr h2), if_neg (fun q => q.elim h1 h2)]
/-! numbers of names -/
def vr (β : Nat) : List Nat → Nat
  | [] => 0
  | d :: w => vr β w * β + d
def dgs (w : List Nat) : Prop := ∀ d, d ∈ w → 1 ≤ d ∧ d ≤ 36
theorem vr_lt {β : Nat} (hβ : 37 ≤ β) : ∀ (w : List Nat), dgs w → vr β w < β ^ w.length
  | [], _ => by show 0 < β ^ 0; rw [Nat.pow_zero]; exact Nat.zero_lt_one
  | d :: w, h => by
    have h1 := vr_lt hβ w (fun x q => h x (List.mem_cons_of_mem _ q))
    have h2 := h d List.mem_cons_self
    show vr β w * β + d < β ^ (w.length + 1)
    rw [Nat.pow_succ]
    have h3 : (vr β w + 1) * β ≤ β ^ w.length * β := Nat.mul_le_mul_right β h1
    rw [Nat.add_mul] at h3
    omega
theorem vr_inj {β : Nat} (hβ : 37 ≤ β) : ∀ (w v : List Nat), dgs w → dgs v → vr β w = vr β v → w = v
  | [], [], _, _, _ => rfl
  | [], e :: v, _, h2, q => by
    have := (h2 e List.mem_cons_self).1
    have q : 0 = vr β v * β + e := q
    omega
  | d :: w, [], h1, _, q => by
    have := (h1 d List.mem_cons_self).1
    have q : vr β w * β + d = 0 := q
    omega
  | d :: w, e :: v, h1, h2, q => by
    have a1 := h1 d List.mem_cons_self
    have a2 := h2 e List.mem_cons_self
    have q : vr β w * β + d = vr β v * β + e := q
    have m1 : (vr β w * β + d) % β = d := by rw [Nat.mul_comm, Nat.mul_add_mod, Nat.mod_eq_of_lt (by omega)]
    have m2 : (vr β v * β + e) % β = e := by rw [Nat.mul_comm, Nat.mul_add_mod, Nat.mod_eq_of_lt (by omega)]
    have hde : d = e := by rw [← m1, q, m2]
    subst hde
    have hm : vr β w * β = vr β v * β := by omega
    have hw : vr β w = vr β v := Nat.eq_of_mul_eq_mul_right (by omega) hm
    rw [vr_inj hβ w v (fun x z => h1 x (List.mem_cons_of_mem _ z)) (fun x z => h2 x (List.mem_cons_of_mem _ z)) hw]
theorem lN_t63 {a : Nat} (h : a < 2 ^ 63) : (lN a).toInt = (a : Int) := lg_ofNat_toInt h
theorem lN_inj {a b : Nat} (ha : a < 2 ^ 63) (hb : b < 2 ^ 63) (h : lN a = lN b) : a = b := by
  have := congrArg Int64.toInt h
  rw [lN_t63 ha, lN_t63 hb] at this
  omega
theorem lN_le63 {a b : Nat} (ha : a < 2 ^ 63) (hb : b < 2 ^ 63) : lN a ≤ lN b ↔ a ≤ b := by
  rw [Int64.le_iff_toInt_le, lN_t63 ha, lN_t63 hb]; omega
theorem lN_lt63 {a b : Nat} (ha : a < 2 ^ 63) (hb : b < 2 ^ 63) : lN a < lN b ↔ a < b := by
  rw [Int64.lt_iff_toInt_lt, lN_t63 ha, lN_t63 hb]; omega
/-- a name in the class and the same in the model -/
def NR (x y : Int64) : Prop := ∃ w : List Nat, w.length ≤ 8 ∧ dgs w ∧ x = lN (vr 64 w) ∧ y = lN (vr 37 w)
theorem vr64_lt {w : List Nat} (h : w.length ≤ 8) (hd : dgs w) : vr 64 w < 2 ^ 48 := by
  have h1 := vr_lt (β := 64) (by decide) w hd
  have h2 : 64 ^ w.length ≤ 64 ^ 8 := Nat.pow_le_pow_right (by decide) h
  omega
theorem vr37_lt {w : List Nat} (h : w.length ≤ 8) (hd : dgs w) : vr 37 w < 2 ^ 48 := by
  have h1 := vr_lt (β := 37) (by decide) w hd
  have h2 : 37 ^ w.length ≤ 37 ^ 8 := Nat.pow_le_pow_right (by decide) h
  omega
theorem NR.iff {x y x1 y1 : Int64} (h : NR x y) (h1 : NR x1 y1) : x = x1 ↔ y = y1 := by
  obtain ⟨w, hl, hd, rfl, rfl⟩ := h
  obtain ⟨v, hl1, hd1, rfl, rfl⟩ := h1
  have a1 := vr64_lt hl hd
  have a2 := vr64_lt hl1 hd1
  have a3 := vr37_lt hl hd
  have a4 := vr37_lt hl1 hd1
  constructor
  · intro e
    rw [vr_inj (β := 64) (by decide) w v hd hd1 (lN_inj (by omega) (by omega) e)]
  · intro e
    rw [vr_inj (β := 37) (by decide) w v hd hd1 (lN_inj (by omega) (by omega) e)]
theorem NR.zero : NR 0 0 := ⟨[], by decide, fun _ h => absurd h (by simp), rfl, rfl⟩
/-- the number of a letter or digit -/
def dg (b : Int32) : Nat := if b.toInt < 97 then (b.toInt - 21).toNat else (b.toInt - 96).toNat
theorem dg_b {b : Int32} (h : isA b) : 1 ≤ dg b ∧ dg b ≤ 36 := by
  unfold dg
  split <;> omega
def d32 (b : Int32) : Int32 := if b < 97 then (b - 48) + 27 else (b - 97) + 1
theorem d32_dg {b : Int32} (h : isA b) : d32 b = nI (dg b) := by
  obtain ⟨k, hk, rfl⟩ : ∃ k : Nat, k < 256 ∧ b = nI k := by
    refine ⟨b.toInt.toNat, by omega, Int32.toInt_inj.mp ?_⟩
    rw [nI_toInt (by omega)]; omega
  unfold d32 dg isA isL isD at *
  rw [nI_toInt (by omega)] at *
  by_cases q : k < 97
  · rw [if_pos (show nI k < (97 : Int32) from (nI_ltI (b := 97) (by omega) (by decide)).mpr q), if_pos (by omega), show (48 : Int32) = nI 48 from rfl, show (27 : Int32) = nI 27 from rfl, nI_sub (by omega), nI_add]
    congr 1; omega
  · rw [if_neg (show ¬ nI k < (97 : Int32) from fun z => q ((nI_ltI (b := 97) (by omega) (by decide)).mp z)), if_neg (by omega), show (97 : Int32) = nI 97 from rfl, show (1 : Int32) = nI 1 from rfl, nI_sub (by omega), nI_add]
    congr 1; omega
def s64 (a : Int64) (b : Int32) : Int64 := (a <<< ((6 : Int32).toInt64 &&& 63)) ||| (d32 b).toInt64
def s37 (a : Int64) (b : Int32) : Int64 := 37 * a + (d32 b).toInt64
theorem c_codeWith (n : Nat) (s : cd_S) (a : Int64) (b : Int32) : f_X10_codeWith n s a b = some (s64 a b, s) := by
  unfold f_X10_codeWith f_X10_codeWith_J26 s64 d32
  split <;> rfl
theorem m_digitOf {n : Nat} {s : md_S} {b : Int32} (h : isA b) : f_X12_digitOf n s b = some (d32 b, s) := by
  unfold f_X12_digitOf d32
  rw [m_isLetter, bs_some]
  dsimp only
  simp only [Int32.lt_iff_toInt_lt, show (97 : Int32).toInt = 97 by decide]
  by_cases q : isL b
  · rw [if_neg (fun e => b10.mp e q), if_neg (by omega)]
  · rw [if_pos (b10.mpr q), if_pos (by omega)]
theorem shl6 {x d : Nat} (hx : x < 2 ^ 48) (hd : d < 64) : (lN x <<< ((6 : Int32).toInt64 &&& 63)) ||| lN d = lN (x * 64 + d) := by
  have h6 : (6 : Int32).toInt64 &&& 63 = 6 := by decide
  rw [h6]
  apply Int64.toBitVec_inj.mp
  simp [lN]
  have h1 : x % 2 ^ 64 = x := Nat.mod_eq_of_lt (by omega)
  have h2 : d % 2 ^ 64 = d := Nat.mod_eq_of_lt (by omega)
  have h3 : x <<< 6 % 2 ^ 64 = x <<< 6 := Nat.mod_eq_of_lt (by rw [Nat.shiftLeft_eq]; omega)
  apply BitVec.eq_of_toNat_eq
  rw [BitVec.toNat_or, BitVec.toNat_shiftLeft, BitVec.toNat_add, BitVec.toNat_mul, BitVec.toNat_ofNat, BitVec.toNat_ofNat, BitVec.toNat_ofNat, h1, h2, h3, ← Nat.shiftLeft_add_eq_or_of_lt (i := 6) hd, Nat.shiftLeft_eq]
  omega
theorem s64_N {w : List Nat} {b : Int32} (hw : w.length < 8) (hd : dgs w) (hb : isA b) : s64 (lN (vr 64 w)) b = lN (vr 64 (dg b :: w)) := by
  have h1 := dg_b hb
  unfold s64
  rw [d32_dg hb, nI_l (by omega), shl6 (vr64_lt (by omega) hd) (by omega)]
  rfl
theorem s37_N {w : List Nat} {b : Int32} (hb : isA b) : s37 (lN (vr 37 w)) b = lN (vr 37 (dg b :: w)) := by
  have h1 := dg_b hb
  unfold s37
  rw [d32_dg hb, nI_l (by omega), show (37 : Int64) = lN 37 from rfl, lN_mul, lN_add, Nat.mul_comm]
  rfl
def c64 (B : Nat → Int32) : Nat → Nat → Int64 → Int64
  | 0, _, a => a
  | k + 1, p, a => c64 B k (p + 1) (s64 a (B p))
def c37 (B : Nat → Int32) : Nat → Nat → Int64 → Int64
  | 0, _, a => a
  | k + 1, p, a => c37 B k (p + 1) (s37 a (B p))
def dgl (B : Nat → Int32) : Nat → Nat → List Nat → List Nat
  | 0, _, w => w
  | k + 1, p, w => dgl B k (p + 1) (dg (B p) :: w)
theorem dgl_len (B : Nat → Int32) : ∀ (k p : Nat) (w : List Nat), (dgl B k p w).length = k + w.length
  | 0, p, w => by simp [dgl]
  | k + 1, p, w => by rw [dgl, dgl_len B k]; simp; omega
theorem dgl_dgs (B : Nat → Int32) : ∀ (k p : Nat) (w : List Nat), (∀ i, p ≤ i → i < p + k → isA (B i)) → dgs w → dgs (dgl B k p w)
  | 0, p, w, _, hw => hw
  | k + 1, p, w, h, hw => dgl_dgs B k (p + 1) _ (fun i h1 h2 => h i (by omega) (by omega)) (fun d hd => by
    rcases List.mem_cons.mp hd with q | q
    · rw [q]; exact dg_b (h p (Nat.le_refl _) (by omega))
    · exact hw d q)
theorem c64_N (B : Nat → Int32) : ∀ (k p : Nat) (w : List Nat), (∀ i, p ≤ i → i < p + k → isA (B i)) → dgs w → w.length + k ≤ 8 → c64 B k p (lN (vr 64 w)) = lN (vr 64 (dgl B k p w))
  | 0, p, w, _, _, _ => rfl
  | k + 1, p, w, h, hw, hl => by
    rw [c64, dgl, s64_N (by omega) hw (h p (Nat.le_refl _) (by omega))]
    exact c64_N B k (p + 1) _ (fun i h1 h2 => h i (by omega) (by omega)) (fun d hd => by
      rcases List.mem_cons.mp hd with q | q
      · rw [q]; exact dg_b (h p (Nat.le_refl _) (by omega))
      · exact hw d q) (by simp; omega)
theorem c37_N (B : Nat → Int32) : ∀ (k p : Nat) (w : List Nat), (∀ i, p ≤ i → i < p + k → isA (B i)) → c37 B k p (lN (vr 37 w)) = lN (vr 37 (dgl B k p w))
  | 0, p, w, _ => rfl
  | k + 1, p, w, h => by
    rw [c37, dgl, s37_N (h p (Nat.le_refl _) (by omega))]
    exact c37_N B k (p + 1) _ (fun i h1 h2 => h i (by omega) (by omega))
theorem NR_text {B : Nat → Int32} {k p : Nat} (h : ∀ i, p ≤ i → i < p + k → isA (B i)) (hk : k ≤ 8) : NR (c64 B k p 0) (c37 B k p 0) :=
  ⟨dgl B k p [], by rw [dgl_len]; simpa using hk, dgl_dgs B k p [] h (fun _ q => absurd q (by simp)), c64_N B k p [] h (fun _ q => absurd q (by simp)) (by simpa using hk), c37_N B k p [] h⟩
