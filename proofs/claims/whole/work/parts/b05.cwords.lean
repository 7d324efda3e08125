/-! the class's words: what is found at a place of the text -/
def skp (B : Nat → Int32) : Nat → Bool → Nat → Nat
  | 0, _, p => p
  | k + 1, c, p => if B p = 35 ∨ (c = true ∧ ¬ B p = 10) then skp B k true (p + 1) else if B p = 32 ∨ B p = 10 then skp B k false (p + 1) else p
theorem skp_b (B : Nat → Int32) : ∀ (k : Nat) (c : Bool) (p : Nat), p ≤ skp B k c p ∧ skp B k c p ≤ p + k
  | 0, c, p => ⟨Nat.le_refl _, Nat.le_refl _⟩
  | k + 1, c, p => by
    have h1 := skp_b B k true (p + 1)
    have h2 := skp_b B k false (p + 1)
    unfold skp
    repeat' split
    all_goals omega
def alE (B : Nat → Int32) : Nat → Nat → Nat
  | 0, p => p
  | k + 1, p => if isA (B p) then alE B k (p + 1) else p
theorem alE_b (B : Nat → Int32) : ∀ (k p : Nat), p ≤ alE B k p ∧ alE B k p ≤ p + k
  | 0, p => ⟨Nat.le_refl _, Nat.le_refl _⟩
  | k + 1, p => by
    have h1 := alE_b B k (p + 1)
    unfold alE
    split <;> omega
theorem alE_al (B : Nat → Int32) : ∀ (k p i : Nat), p ≤ i → i < alE B k p → isA (B i)
  | 0, p, i, h1, h2 => by unfold alE at h2; omega
  | k + 1, p, i, h1, h2 => by
    unfold alE at h2
    split at h2
    · rename_i q
      by_cases hi : i = p
      · rw [hi]; exact q
      · exact alE_al B k (p + 1) i (by omega) h2
    · omega
theorem alE_end (B : Nat → Int32) : ∀ (k p : Nat), ¬ isA (B (p + k)) → ¬ isA (B (alE B k p))
  | 0, p, h => h
  | k + 1, p, h => by
    unfold alE
    split
    · exact alE_end B k (p + 1) (by rw [show p + 1 + k = p + (k + 1) by omega]; exact h)
    · rename_i q; exact q
theorem alE_gt {B : Nat → Int32} {k p : Nat} (hk : 0 < k) (h : isA (B p)) : p < alE B k p := by
  obtain ⟨k, rfl⟩ : ∃ j, k = j + 1 := ⟨k - 1, by omega⟩
  unfold alE
  rw [if_pos h]
  have := (alE_b B k (p + 1)).1
  omega
def dgE (B : Nat → Int32) : Nat → Nat → Nat
  | 0, p => p
  | k + 1, p => if isD (B p) then dgE B k (p + 1) else p
theorem dgE_b (B : Nat → Int32) : ∀ (k p : Nat), p ≤ dgE B k p ∧ dgE B k p ≤ p + k
  | 0, p => ⟨Nat.le_refl _, Nat.le_refl _⟩
  | k + 1, p => by
    have h1 := dgE_b B k (p + 1)
    unfold dgE
    split <;> omega
theorem dgE_gt {B : Nat → Int32} {k p : Nat} (hk : 0 < k) (h : isD (B p)) : p < dgE B k p := by
  obtain ⟨k, rfl⟩ : ∃ j, k = j + 1 := ⟨k - 1, by omega⟩
  unfold dgE
  rw [if_pos h]
  have := (dgE_b B k (p + 1)).1
  omega
/-- the number that digits make, as far as it is not too great -/
def nv (B : Nat → Int32) : Nat → Nat → Nat → Nat
  | 0, _, a => a
  | k + 1, p, a => if isD (B p) then nv B k (p + 1) (if a ≤ 2147483647 then a * 10 + ((B p).toInt - 48).toNat else a) else a
theorem nv_lt (B : Nat → Int32) : ∀ (k p a : Nat), a < 2 ^ 40 → nv B k p a < 2 ^ 40
  | 0, p, a, h => h
  | k + 1, p, a, h => by
    unfold nv
    split
    · rename_i q
      refine nv_lt B k (p + 1) _ ?_
      split
      · obtain ⟨q1, q2⟩ := q; omega
      · exact h
    · exact h
theorem CT.of {s t : cd_S} {B : Nat → Int32} {N : Nat} (h : CT s B N) (h1 : cI t 324 0 = cI s 324 0) (h2 : cP t 323 0 = cP s 323 0) (h3 : ∀ k, cAr t 352 0 k = cAr s 352 0 k) : CT t B N :=
  ⟨h1.trans h.1, h2.trans h.2.1, fun k hk => by rw [h3]; exact h.2.2 k hk⟩
theorem CT.pl {s : cd_S} {B : Nat → Int32} {N : Nat} (h : CT s B N) (v : Int32) : CT (cSI s 326 0 v) B N := h.of rfl rfl (fun _ => rfl)
theorem c_skipL {n : Nat} {B : Nat → Int32} {N : Nat} (hT : TB B N) : ∀ (k j p : Nat) (c : Bool) (s : cd_S), p + k = N → k < j → CT s B N → cI s 326 0 = nI p →
    f_X10_skipBlanks_L2 n j s (if c = true then 1 else 0) = some (Sum.inl (0, cSI s 326 0 (nI (skp B k c p)))) ∨ ∃ l, f_X10_skipBlanks_L2 n j s (if c = true then 1 else 0) = some (Sum.inr (cSI s 326 0 (nI (skp B k c p)), l)) := by
  have hN := hT.1
  intro k
  induction k with
  | zero =>
    intro j p c s hp hj hC hpl
    obtain ⟨j, rfl⟩ : ∃ i, j = i + 1 := ⟨j - 1, by omega⟩
    refine Or.inr ⟨if c = true then 1 else 0, ?_⟩
    rw [u_X10_skipBlanks_L2, hC.1, hpl, if_pos ((nI_leI (by omega) (by omega)).mpr (by omega)), show skp B 0 c p = p from rfl, cSI_self hpl]
  | succ k ih =>
    intro j p c s hp hj hC hpl
    obtain ⟨j, rfl⟩ : ∃ i, j = i + 1 := ⟨j - 1, by omega⟩
    have hs : ∀ c', f_X10_skipBlanks_L2 n j (cSI s 326 0 (nI (p + 1))) (if c' = true then 1 else 0) = some (Sum.inl (0, cSI s 326 0 (nI (skp B k c' (p + 1))))) ∨ ∃ l, f_X10_skipBlanks_L2 n j (cSI s 326 0 (nI (p + 1))) (if c' = true then 1 else 0) = some (Sum.inr (cSI s 326 0 (nI (skp B k c' (p + 1))), l)) := fun c' => by
      have := ih j (p + 1) c' (cSI s 326 0 (nI (p + 1))) (by omega) (by omega) (hC.pl _) (by rw [cI_SI, if_pos ⟨rfl, rfl⟩])
      rw [cSI_SI] at this
      exact this
    have hst : f_X10_skipBlanks_J61 n (f_X10_skipBlanks_L2 n j) s 1 = f_X10_skipBlanks_L2 n j (cSI s 326 0 (nI (p + 1))) (if true = true then 1 else 0) := by
      unfold f_X10_skipBlanks_J61; rw [bs_some, hpl, nI_1]; rfl
    have hsf : f_X10_skipBlanks_J61 n (f_X10_skipBlanks_L2 n j) s 0 = f_X10_skipBlanks_L2 n j (cSI s 326 0 (nI (p + 1))) (if false = true then 1 else 0) := by
      unfold f_X10_skipBlanks_J61; rw [bs_some, hpl, nI_1]; rfl
    have key : f_X10_skipBlanks_L2 n (j + 1) s (if c = true then 1 else 0) = if B p = 35 ∨ (c = true ∧ ¬ B p = 10) then f_X10_skipBlanks_L2 n j (cSI s 326 0 (nI (p + 1))) (if true = true then 1 else 0) else if B p = 32 ∨ B p = 10 then f_X10_skipBlanks_L2 n j (cSI s 326 0 (nI (p + 1))) (if false = true then 1 else 0) else some (Sum.inl (0, s)) := by
      rw [u_X10_skipBlanks_L2, hC.1, hpl, if_neg (fun z => absurd ((nI_leI (by omega) (by omega)).mp z) (by omega)), c_byteAt hT hC (by omega), bs_some]
      dsimp only
      unfold f_X10_skipBlanks_J38 f_X10_skipBlanks_J42 f_X10_skipBlanks_J43
      rw [hst, hsf]
      by_cases h35 : B p = 35
      · simp [h35]
      · by_cases h10 : B p = 10
        · cases c <;> simp [h10]
        · by_cases h32 : B p = 32
          · cases c <;> simp [h32]
          · cases c <;> simp [h35, h10, h32]
    rw [key]
    unfold skp
    split
    · exact hs true
    · split
      · exact hs false
      · rw [cSI_self hpl]; exact Or.inl rfl
theorem c_skip {n : Nat} {B : Nat → Int32} {N p : Nat} {s : cd_S} (hT : TB B N) (hn : 5000 ≤ n) (hp : p ≤ N) (hC : CT s B N) (hpl : cI s 326 0 = nI p) : f_X10_skipBlanks n s = some (0, cSI s 326 0 (nI (skp B (N - p) false p))) := by
  have hN := hT.1
  unfold f_X10_skipBlanks
  rcases c_skipL (n := n) hT (N - p) n p false s (by omega) (by omega) hC hpl with h | ⟨l, h⟩
  · rw [show (if false = true then (1 : Int32) else 0) = 0 from rfl] at h
    rw [h]; rfl
  · rw [show (if false = true then (1 : Int32) else 0) = 0 from rfl] at h
    rw [h]; rfl
theorem c_nameL {n : Nat} {B : Nat → Int32} {N : Nat} (hT : TB B N) (l1 : Int32) (b : cd_B) : ∀ (k j p : Nat) (s : cd_S) (a : Int64), p + k = N → k < j → CT s B N → cI s 326 0 = nI p →
    f_X10_findName_L7 n l1 j s b a = some (cSI s 326 0 (nI (alE B k p)), b, c64 B (alE B k p - p) p a) := by
  have hN := hT.1
  intro k
  induction k with
  | zero =>
    intro j p s a hp hj hC hpl
    obtain ⟨j, rfl⟩ : ∃ i, j = i + 1 := ⟨j - 1, by omega⟩
    rw [u_X10_findName_L7, hC.1, hpl, if_pos ((nI_leI (by omega) (by omega)).mpr (by omega)), show alE B 0 p = p from rfl, cSI_self hpl, Nat.sub_self]
    rfl
  | succ k ih =>
    intro j p s a hp hj hC hpl
    obtain ⟨j, rfl⟩ : ∃ i, j = i + 1 := ⟨j - 1, by omega⟩
    rw [u_X10_findName_L7, hC.1, hpl, if_neg (fun z => absurd ((nI_leI (by omega) (by omega)).mp z) (by omega)), c_stepCharAt hT hC (by omega), bs_some]
    dsimp only
    unfold alE
    by_cases q : isA (B p)
    · rw [if_neg (fun e => b10.mp e q), hpl, c_byteAt hT hC (by omega), bs_some]
      dsimp only
      rw [c_codeWith, bs_some]
      dsimp only
      rw [bs_some, hpl, nI_1, ih j (p + 1) (cSI s 326 0 (nI (p + 1))) (s64 a (B p)) (by omega) (by omega) (hC.pl _) (by rw [cI_SI, if_pos ⟨rfl, rfl⟩]), cSI_SI, if_pos q]
      have h1 := (alE_b B k (p + 1)).1
      rw [show alE B k (p + 1) - p = (alE B k (p + 1) - (p + 1)) + 1 by omega]
      rfl
    · rw [if_pos (b10.mpr q), if_neg q, cSI_self hpl, Nat.sub_self]
      rfl
theorem c_stepL {n : Nat} {B : Nat → Int32} {N : Nat} (hT : TB B N) (l1 : Int32) (b : cd_B) : ∀ (k j p : Nat) (s : cd_S) (a : Int64), p + k = N → k < j → CT s B N → cI s 326 0 = nI p →
    f_X10_findStep_L14 n l1 j s b a = some (cSI s 326 0 (nI (alE B k p)), b, c64 B (alE B k p - p) p a) := by
  have hN := hT.1
  intro k
  induction k with
  | zero =>
    intro j p s a hp hj hC hpl
    obtain ⟨j, rfl⟩ : ∃ i, j = i + 1 := ⟨j - 1, by omega⟩
    rw [u_X10_findStep_L14, hC.1, hpl, if_pos ((nI_leI (by omega) (by omega)).mpr (by omega)), show alE B 0 p = p from rfl, cSI_self hpl, Nat.sub_self]
    rfl
  | succ k ih =>
    intro j p s a hp hj hC hpl
    obtain ⟨j, rfl⟩ : ∃ i, j = i + 1 := ⟨j - 1, by omega⟩
    rw [u_X10_findStep_L14, hC.1, hpl, if_neg (fun z => absurd ((nI_leI (by omega) (by omega)).mp z) (by omega)), c_stepCharAt hT hC (by omega), bs_some]
    dsimp only
    unfold alE
    by_cases q : isA (B p)
    · rw [if_neg (fun e => b10.mp e q), hpl, c_byteAt hT hC (by omega), bs_some]
      dsimp only
      rw [c_codeWith, bs_some]
      dsimp only
      rw [bs_some, hpl, nI_1, ih j (p + 1) (cSI s 326 0 (nI (p + 1))) (s64 a (B p)) (by omega) (by omega) (hC.pl _) (by rw [cI_SI, if_pos ⟨rfl, rfl⟩]), cSI_SI, if_pos q]
      have h1 := (alE_b B k (p + 1)).1
      rw [show alE B k (p + 1) - p = (alE B k (p + 1) - (p + 1)) + 1 by omega]
      rfl
    · rw [if_pos (b10.mpr q), if_neg q, cSI_self hpl, Nat.sub_self]
      rfl
theorem c_numL {n : Nat} {B : Nat → Int32} {N : Nat} (hT : TB B N) (l1 : Int32) (b : cd_B) : ∀ (k j p : Nat) (s : cd_S) (a : Nat), a < 2 ^ 40 → p + k = N → k < j → CT s B N → cI s 326 0 = nI p →
    f_X10_findNumber_L7 n l1 j s b (lN a) = some (cSI s 326 0 (nI (dgE B k p)), b, lN (nv B k p a)) := by
  have hN := hT.1
  intro k
  induction k with
  | zero =>
    intro j p s a ha hp hj hC hpl
    obtain ⟨j, rfl⟩ : ∃ i, j = i + 1 := ⟨j - 1, by omega⟩
    rw [u_X10_findNumber_L7, hC.1, hpl, if_pos ((nI_leI (by omega) (by omega)).mpr (by omega)), show dgE B 0 p = p from rfl, cSI_self hpl]
    rfl
  | succ k ih =>
    intro j p s a ha hp hj hC hpl
    obtain ⟨j, rfl⟩ : ∃ i, j = i + 1 := ⟨j - 1, by omega⟩
    rw [u_X10_findNumber_L7, hC.1, hpl, if_neg (fun z => absurd ((nI_leI (by omega) (by omega)).mp z) (by omega)), c_byteAt hT hC (by omega), bs_some]
    dsimp only
    rw [c_isDigit, bs_some]
    dsimp only
    unfold dgE nv
    by_cases q : isD (B p)
    · have hB : B p = nI (B p).toInt.toNat := Int32.toInt_inj.mp (by rw [nI_toInt (by omega)]; omega)
      have hd : (B p - 48).toInt64 = lN ((B p).toInt - 48).toNat := by
        rw [hB, show (48 : Int32) = nI 48 from rfl, nI_sub (by omega), nI_l (by omega), nI_toInt (by omega)]
        congr 1; omega
      have hJ : ∀ x, x < 2 ^ 40 → f_X10_findNumber_J59 n l1 (f_X10_findNumber_L7 n l1 j) s b (lN x) = some (cSI s 326 0 (nI (dgE B k (p + 1))), b, lN (nv B k (p + 1) x)) := fun x hx => by
        unfold f_X10_findNumber_J59
        rw [bs_some, hpl, nI_1, ih j (p + 1) (cSI s 326 0 (nI (p + 1))) x hx (by omega) (by omega) (hC.pl _) (by rw [cI_SI, if_pos ⟨rfl, rfl⟩]), cSI_SI]
      rw [if_neg (fun e => b10.mp e q), if_pos q, if_pos q]
      simp only [lg_cmp_gt, show (2147483647 : Int64) = lN 2147483647 from rfl]
      have h63 := lN_lt63 (a := 2147483647) (b := a) (by decide) (by omega)
      by_cases h2 : 2147483647 < a
      · rw [if_pos (h63.mpr h2), hJ a ha, if_neg (by omega)]
      · rw [if_neg (fun z => h2 (h63.mp z)), hpl, c_byteAt hT hC (by omega), bs_some]
        dsimp only
        rw [hd, show (10 : Int64) = lN 10 from rfl, lN_mul, lN_add, hJ _ (by obtain ⟨q1, q2⟩ := q; omega), if_pos (by omega)]
    · rw [if_pos (b10.mpr q), if_neg q, if_neg q, cSI_self hpl]
/-- a word more -/
def aw (s : cd_S) (k f : Int32) (x : Int64) : cd_S := rAdd (rAdd (rAdd s 0 k.toInt64) 0 f.toInt64) 0 x
theorem c_addWord {n : Nat} {C : Nat × Nat} {s : cd_S} {b : cd_B} {k f : Int32} {x : Int64} (hC : BC C) (h : Bd C s b) (hz : rsz s 0 + 3 ≤ rcap 0) : ∃ b', f_X10_addWord n s b k f x = some (0, aw s k f x, b') ∧ Bd C (aw s k f x) b' ∧ b'.1 ≤ b.1 ∧ b'.2 ≤ b.2 := by
  have z0 := (h.1 0 (by decide)).szlt
  obtain ⟨b1, e1, B1, l1, l1'⟩ := c_add (n := n) (r := 0) (v := k.toInt64) hC h (by decide) (by omega)
  have z1 := rAdd_sz (s := s) (r := 0) (v := k.toInt64) z0
  obtain ⟨b2, e2, B2, l2, l2'⟩ := c_add (n := n) (r := 0) (v := f.toInt64) hC B1 (by decide) (by omega)
  have z2 := rAdd_sz (s := rAdd s 0 k.toInt64) (r := 0) (v := f.toInt64) (B1.1 0 (by decide)).szlt
  obtain ⟨b3, e3, B3, l3, l3'⟩ := c_add (n := n) (r := 0) (v := x) hC B2 (by decide) (by omega)
  refine ⟨b3, ?_, B3, by omega, by omega⟩
  unfold f_X10_addWord aw
  refine c_ck ?_ (by dsimp only; omega) (by dsimp only; omega)
  rw [e1, bs_some]
  dsimp only
  refine c_ck ?_ (by dsimp only; omega) (by dsimp only; omega)
  rw [e2, bs_some]
  dsimp only
  refine c_ck ?_ (by dsimp only; omega) (by dsimp only; omega)
  rw [e3, bs_some]
  dsimp only
  exact c_ck rfl (by dsimp only; omega) (by dsimp only; omega)
