/-! the class's contexts -/
def ofs (Ls : List (List Int32)) : Nat → Nat
  | 0 => 0
  | k + 1 => ofs Ls k + (Ls.getD k []).length
/-- the last context before k in bucket b -/
def lastI (Ls : List (List Int32)) (b : Int32) : Nat → Int32
  | 0 => -1
  | k + 1 => if bkt (Ls.getD k []) = b then nI k else lastI Ls b k
theorem gd_eq {Ls : List (List Int32)} {k : Nat} (h : k < Ls.length) : Ls.getD k [] = Ls[k] := by
  rw [List.getD_eq_getElem?_getD, List.getElem?_eq_getElem h]; rfl
theorem gd_app {Ls : List (List Int32)} {l : List Int32} {k : Nat} (h : k < Ls.length) : (Ls ++ [l]).getD k [] = Ls.getD k [] := by
  rw [List.getD_eq_getElem?_getD, List.getD_eq_getElem?_getD, List.getElem?_append_left h]
theorem gd_end {Ls : List (List Int32)} {l : List Int32} : (Ls ++ [l]).getD Ls.length [] = l := by
  rw [List.getD_eq_getElem?_getD, List.getElem?_append_right (Nat.le_refl _), Nat.sub_self]; rfl
theorem ofs_app {Ls : List (List Int32)} {l : List Int32} : ∀ {k : Nat}, k ≤ Ls.length → ofs (Ls ++ [l]) k = ofs Ls k
  | 0, _ => rfl
  | k + 1, h => by
    show ofs (Ls ++ [l]) k + _ = ofs Ls k + _
    rw [ofs_app (by omega), gd_app (by omega)]
theorem lastI_app {Ls : List (List Int32)} {l : List Int32} {b : Int32} : ∀ {k : Nat}, k ≤ Ls.length → lastI (Ls ++ [l]) b k = lastI Ls b k
  | 0, _ => rfl
  | k + 1, h => by
    show (if _ then _ else _) = (if _ then _ else _)
    rw [lastI_app (by omega), gd_app (by omega)]
theorem ofs_le {Ls : List (List Int32)} (h : ∀ k (h : k < Ls.length), Ls[k].length ≤ 13) : ∀ {k : Nat}, k ≤ Ls.length → ofs Ls k ≤ 13 * k
  | 0, _ => Nat.le_refl _
  | k + 1, hk => by
    show ofs Ls k + (Ls.getD k []).length ≤ _
    have := ofs_le h (k := k) (by omega)
    have := h k (by omega)
    rw [gd_eq (by omega)]
    omega
def CCO (c : cd_S) (Ls : List (List Int32)) : Prop := (RowOk c 2) ∧ (RowOk c 3) ∧ (RowOk c 4) ∧ (rsz c 2 = Ls.length) ∧ (rsz c 3 = ofs Ls Ls.length) ∧ (rsz c 4 = Ls.length) ∧ (∀ k, k < Ls.length → cRF c 2 k = (nI (ofs Ls k)).toInt64) ∧ (∀ k (h : k < Ls.length) i (hi : i < Ls[k].length), cRF c 3 (ofs Ls k + i) = (Ls[k][i]).toInt64) ∧ (∀ k (h : k < Ls.length), cRF c 4 k = (lastI Ls (bkt Ls[k]) k).toInt64) ∧ (∀ b, b < 256 → cAr c 3 0 b = lastI Ls (nI b) Ls.length) ∧ (∀ k (h : k < Ls.length), Ls[k].length ≤ 13) ∧ (Ls.length ≤ 4000)
theorem CCO.r2 {c : cd_S} {Ls : List (List Int32)} (h : CCO c Ls) : RowOk c 2 := h.1
theorem CCO.r3 {c : cd_S} {Ls : List (List Int32)} (h : CCO c Ls) : RowOk c 3 := h.2.1
theorem CCO.r4 {c : cd_S} {Ls : List (List Int32)} (h : CCO c Ls) : RowOk c 4 := h.2.2.1
theorem CCO.z2 {c : cd_S} {Ls : List (List Int32)} (h : CCO c Ls) : rsz c 2 = Ls.length := h.2.2.2.1
theorem CCO.z3 {c : cd_S} {Ls : List (List Int32)} (h : CCO c Ls) : rsz c 3 = ofs Ls Ls.length := h.2.2.2.2.1
theorem CCO.z4 {c : cd_S} {Ls : List (List Int32)} (h : CCO c Ls) : rsz c 4 = Ls.length := h.2.2.2.2.2.1
theorem CCO.s2 {c : cd_S} {Ls : List (List Int32)} (h : CCO c Ls) : ∀ k, k < Ls.length → cRF c 2 k = (nI (ofs Ls k)).toInt64 := h.2.2.2.2.2.2.1
theorem CCO.s3 {c : cd_S} {Ls : List (List Int32)} (h : CCO c Ls) : ∀ k (h : k < Ls.length) i (hi : i < Ls[k].length), cRF c 3 (ofs Ls k + i) = (Ls[k][i]).toInt64 := h.2.2.2.2.2.2.2.1
theorem CCO.s4 {c : cd_S} {Ls : List (List Int32)} (h : CCO c Ls) : ∀ k (h : k < Ls.length), cRF c 4 k = (lastI Ls (bkt Ls[k]) k).toInt64 := h.2.2.2.2.2.2.2.2.1
theorem CCO.hd {c : cd_S} {Ls : List (List Int32)} (h : CCO c Ls) : ∀ b, b < 256 → cAr c 3 0 b = lastI Ls (nI b) Ls.length := h.2.2.2.2.2.2.2.2.2.1
theorem CCO.le {c : cd_S} {Ls : List (List Int32)} (h : CCO c Ls) : ∀ k (h : k < Ls.length), Ls[k].length ≤ 13 := h.2.2.2.2.2.2.2.2.2.2.1
theorem CCO.lz {c : cd_S} {Ls : List (List Int32)} (h : CCO c Ls) : Ls.length ≤ 4000 := h.2.2.2.2.2.2.2.2.2.2.2
theorem CCO.fr {c c' : cd_S} {Ls : List (List Int32)} {F R : List Nat} (h : CCO c Ls) (hf : cd_fr F R c c') (h3 : 3 ∉ F) (a2 : 2 ∉ R) (a3 : 3 ∉ R) (a4 : 4 ∉ R) : CCO c' Ls := by
  have hz : ∀ r, r ∉ R → rsz c' r = rsz c r := fun r hr => by unfold rsz; rw [cd_frz hf hr]
  exact ⟨h.r2.of (cd_frz hf a2) (cd_frC hf a2), h.r3.of (cd_frz hf a3) (cd_frC hf a3), h.r4.of (cd_frz hf a4) (cd_frC hf a4), by rw [hz 2 a2]; exact h.z2, by rw [hz 3 a3]; exact h.z3, by rw [hz 4 a4]; exact h.z4, fun k hk => by rw [cd_frF hf a2]; exact h.s2 k hk, fun k hk i hi => by rw [cd_frF hf a3]; exact h.s3 k hk i hi, fun k hk => by rw [cd_frF hf a4]; exact h.s4 k hk, fun b hb => by rw [cd_frA hf h3 (by decide)]; exact h.hd b hb, h.le, h.lz⟩
theorem i6432 (x : Int32) : x.toInt64.toInt32 = x := by simp
theorem ofs_mono {Ls : List (List Int32)} {k : Nat} : ∀ {j : Nat}, k ≤ j → ofs Ls k ≤ ofs Ls j
  | 0, h => by rw [show k = 0 by omega]; exact Nat.le_refl _
  | j + 1, h => by
    by_cases e : k = j + 1
    · rw [e]; exact Nat.le_refl _
    · have := ofs_mono (Ls := Ls) (k := k) (j := j) (by omega)
      show _ ≤ ofs Ls j + _
      omega
theorem CCO.bnd {c : cd_S} {Ls : List (List Int32)} (h : CCO c Ls) {k : Nat} (hk : k ≤ Ls.length) : ofs Ls k ≤ 52000 := by
  have := ofs_le h.le hk
  have := h.lz
  omega
theorem CCO.at2 {c : cd_S} {Ls : List (List Int32)} (h : CCO c Ls) {n k : Nat} (hk : k < Ls.length) : f_X6_at n c 2 (nI k) = some (nI (ofs Ls k), c) := by
  rw [c_at h.r2 (by have := h.lz; omega), if_pos (by rw [h.z2]; exact hk), h.s2 k hk, i6432]
theorem CCO.nx {c : cd_S} {Ls : List (List Int32)} (h : CCO c Ls) {n k : Nat} (hk : k < Ls.length) : ofs Ls (k + 1) = ofs Ls k + Ls[k].length := by
  show ofs Ls k + _ = _
  rw [gd_eq hk]
theorem c_pCount {n k : Nat} {c : cd_S} {Ls : List (List Int32)} (h : CCO c Ls) (hk : k < Ls.length) : f_X0_productCount n c (nI k) = some (nI Ls[k].length, c) := by
  have hz := h.lz
  have hnx := h.nx (n := 0) hk
  unfold f_X0_productCount
  rw [h.r2.1, h.z2, nI_1]
  by_cases q : Ls.length ≤ k + 1
  · rw [if_pos ((nI_leI (by omega) (by omega)).mpr q), f_X0_productCount_J33, h.at2 hk, bs_some, h.r3.1, h.z3, nI_sub (ofs_mono (by omega)), show Ls.length = k + 1 by omega, hnx, show ofs Ls k + Ls[k].length - ofs Ls k = Ls[k].length by omega]
  · rw [if_neg (fun z => q ((nI_leI (by omega) (by omega)).mp z)), h.at2 (by omega), bs_some]
    dsimp only
    rw [f_X0_productCount_J33, h.at2 hk, bs_some, nI_sub (ofs_mono (by omega)), hnx, show ofs Ls k + Ls[k].length - ofs Ls k = Ls[k].length by omega]
theorem c_product {n k i : Nat} {c : cd_S} {Ls : List (List Int32)} (h : CCO c Ls) (hk : k < Ls.length) (hi : i < Ls[k].length) : f_X0_product n c (nI k) (nI i) = some (Ls[k][i], c) := by
  have h1 := h.bnd (k := k) (by omega)
  have h2 := h.nx (n := 0) hk
  have h3 := ofs_mono (Ls := Ls) (k := k + 1) (j := Ls.length) (by omega)
  have h4 := h.le k hk
  unfold f_X0_product
  rw [h.at2 hk, bs_some]
  dsimp only
  rw [nI_add, c_at h.r3 (by omega), if_pos (by rw [h.z3]; omega), bs_some, h.s3 k hk i hi, i6432]
theorem c_loadL {n k : Nat} {Ls : List (List Int32)} (hk : k < Ls.length) : ∀ (r j i : Nat) (c : cd_S), i + r = Ls[k].length → r < j → CCO c Ls → DRL c (Ls[k].take i) → ∃ c', f_X0_load_L18 n (nI k) j c (nI i) = some (c', nI Ls[k].length) ∧ DRL c' Ls[k] ∧ cd_fr [4, 5] [] c c'
  | 0, j + 1, i, c, hi, _, h, hd => by
    have h13 := h.le k hk
    rw [u_X0_load_L18, c_pCount h hk, bs_some]
    dsimp only
    rw [if_pos ((nI_leI (by omega) (by omega)).mpr (by omega)), show i = Ls[k].length by omega]
    rw [List.take_of_length_le (by omega)] at hd
    exact ⟨c, rfl, hd, cd_fr_refl _ _ _⟩
  | r + 1, j + 1, i, c, hi, hj, h, hd => by
    have h13 := h.le k hk
    rw [u_X0_load_L18, c_pCount h hk, bs_some]
    dsimp only
    rw [if_neg (fun z => absurd ((nI_leI (by omega) (by omega)).mp z) (by omega)), c_product h hk (by omega), bs_some]
    dsimp only
    obtain ⟨c1, g1, g2, g3⟩ := c_addDraft (n := n) (a := Ls[k][i]) hd (by rw [List.length_take]; omega)
    rw [g1, bs_some, nI_1]
    rw [← List.take_succ_eq_append_getElem (by omega)] at g2
    obtain ⟨c2, k1, k2, k3⟩ := c_loadL (n := n) hk r j (i + 1) c1 (by omega) (by omega) (h.fr g3 (by decide) (by simp) (by simp) (by simp)) g2
    exact ⟨c2, k1, k2, cd_fr_tr g3 k3 (fun _ q => ⟨q, q⟩) (fun _ q => ⟨q, q⟩)⟩
/-- a context's number in the class: none stands for all -/
def cnI (o : Nat) : Int32 := if o = 0 then -1 else nI (o - 1)
theorem c_load {n o : Nat} {c : cd_S} {Ls : List (List Int32)} (hn : 100 ≤ n) (h : CCO c Ls) (ho : o < ([0] :: Ls).length) : ∃ c', f_X0_load n c (cnI o) = some (0, c') ∧ DRL c' ([0] :: Ls)[o] ∧ cd_fr [4, 5] [] c c' := by
  unfold f_X0_load
  have hf : cd_fr [4, 5] [] c (cSI c 5 0 0) := cd_fr_SI (cd_fr_refl c [4, 5] []) (by simp) (by decide) _ _
  have h0 : DRL (cSI c 5 0 0) [] := ⟨cI_SIe, fun i hi => absurd hi (by simp)⟩
  rw [bs_some]
  cases o with
  | zero =>
    rw [if_pos (show cnI 0 = (-1 : Int32) from rfl)]
    obtain ⟨c1, g1, g2, g3⟩ := c_addDraft (n := n) (a := 0) h0 (by simp)
    rw [g1, bs_some]
    exact ⟨c1, rfl, g2, cd_fr_tr hf g3 (fun _ q => ⟨q, q⟩) (fun _ q => ⟨q, q⟩)⟩
  | succ k =>
    have hk : k < Ls.length := by simpa using ho
    have hz := h.lz
    have e : cnI (k + 1) = nI k := by unfold cnI; rw [if_neg (by omega)]; rfl
    rw [e, if_neg (show ¬ nI k = (-1 : Int32) from nI_m1 (by omega))]
    have h13 := h.le k hk
    obtain ⟨c1, g1, g2, g3⟩ := c_loadL (n := n) hk Ls[k].length n 0 (cSI c 5 0 0) (by omega) (by omega) (h.fr hf (by decide) (by simp) (by simp) (by simp)) (by simpa using h0)
    have g1' : f_X0_load_L18 n (nI k) n (cSI c 5 0 0) 0 = some (c1, nI Ls[k].length) := g1
    rw [g1', bs_some]
    exact ⟨c1, rfl, g2, cd_fr_tr hf g3 (fun _ q => ⟨q, q⟩) (fun _ q => ⟨q, q⟩)⟩
