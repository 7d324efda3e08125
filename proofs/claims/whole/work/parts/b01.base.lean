/-! PART B: both programs as pure functions, held against each other. b01: words of arithmetic, reads behind writes -/
theorem i3_lit (k : Nat) : (OfNat.ofNat k : Int32) = nI k := rfl
theorem i6_lit (k : Nat) : (OfNat.ofNat k : Int64) = lN k := rfl
theorem nI_mul (a b : Nat) : nI a * nI b = nI (a * b) := (Int32.ofNat_mul a b).symm
theorem nI_sub {a b : Nat} (h : b ≤ a) : nI a - nI b = nI (a - b) := by
  have : nI a = nI (a - b) + nI b := by rw [nI_add, Nat.sub_add_cancel h]
  rw [this, Int32.add_sub_cancel]
theorem nI_m1 {a : Nat} (h : a < 2 ^ 31) : ¬ nI a = -nI 1 := fun e => by
  have h1 := congrArg Int32.toInt e
  rw [nI_toInt h, show (-nI 1).toInt = -1 by decide] at h1
  omega
theorem nI_m1' {a : Nat} (h : a < 2 ^ 31) : ¬ -nI 1 = nI a := fun e => nI_m1 h e.symm
theorem nI_nn {a : Nat} (h : a < 2 ^ 31) : ¬ nI a < nI 0 := nI_nlt (Nat.zero_le _) h
theorem bs_some {α β : Type} (a : α) (f : α → Option β) : Option.bind (some a) f = f a := rfl
theorem bs_ite {α β : Type} {c : Prop} [Decidable c] (x y : Option α) (f : α → Option β) : Option.bind (if c then x else y) f = if c then Option.bind x f else Option.bind y f := by split <;> rfl
/-! the model's state -/
theorem mI_SI (s : md_S) (k j : Nat) (v : Int32) : mI (mSI s k v) j = if j = k then v else mI s j := rfl
theorem mI_SJ (s : md_S) (k j : Nat) (v : Int64) : mI (mSJ s k v) j = mI s j := rfl
theorem mI_SA (s : md_S) (k i j : Nat) (v : Int32) : mI (mSA s k i v) j = mI s j := rfl
theorem mI_SL (s : md_S) (k i j : Nat) (v : Int64) : mI (mSL s k i v) j = mI s j := rfl
theorem mJ_SI (s : md_S) (k j : Nat) (v : Int32) : mJ (mSI s k v) j = mJ s j := rfl
theorem mJ_SJ (s : md_S) (k j : Nat) (v : Int64) : mJ (mSJ s k v) j = if j = k then v else mJ s j := rfl
theorem mJ_SA (s : md_S) (k i j : Nat) (v : Int32) : mJ (mSA s k i v) j = mJ s j := rfl
theorem mJ_SL (s : md_S) (k i j : Nat) (v : Int64) : mJ (mSL s k i v) j = mJ s j := rfl
theorem mA_SI (s : md_S) (k j x : Nat) (v : Int32) : mA (mSI s k v) j x = mA s j x := rfl
theorem mA_SJ (s : md_S) (k j x : Nat) (v : Int64) : mA (mSJ s k v) j x = mA s j x := rfl
theorem mA_SA (s : md_S) (k i j x : Nat) (v : Int32) : mA (mSA s k i v) j x = if j = k then (if x = i then v else mA s j x) else mA s j x := by
  show (if j = k then upd (s.2.2.1 k) i v else s.2.2.1 j) x = _
  by_cases h : j = k
  · subst h; rw [if_pos rfl, if_pos rfl]; rfl
  · rw [if_neg h, if_neg h]
theorem mA_SL (s : md_S) (k i j x : Nat) (v : Int64) : mA (mSL s k i v) j x = mA s j x := rfl
theorem mL_SI (s : md_S) (k j x : Nat) (v : Int32) : mL (mSI s k v) j x = mL s j x := rfl
theorem mL_SJ (s : md_S) (k j x : Nat) (v : Int64) : mL (mSJ s k v) j x = mL s j x := rfl
theorem mL_SA (s : md_S) (k i j x : Nat) (v : Int32) : mL (mSA s k i v) j x = mL s j x := rfl
theorem mL_SL (s : md_S) (k i j x : Nat) (v : Int64) : mL (mSL s k i v) j x = if j = k then (if x = i then v else mL s j x) else mL s j x := by
  show (if j = k then vp_updL (s.2.2.2 k) i v else s.2.2.2 j) x = _
  by_cases h : j = k
  · subst h; rw [if_pos rfl, if_pos rfl]; rfl
  · rw [if_neg h, if_neg h]
theorem mSI_SI (s : md_S) (k : Nat) (v w : Int32) : mSI (mSI s k v) k w = mSI s k w := by
  refine Prod.ext (funext fun j => ?_) rfl
  show (if j = k then w else if j = k then v else s.1 j) = if j = k then w else s.1 j
  split <;> rfl
theorem mSI_self {s : md_S} {k : Nat} {v : Int32} (h : mI s k = v) : mSI s k v = s := by
  refine Prod.ext (funext fun j => ?_) rfl
  show (if j = k then v else s.1 j) = s.1 j
  split
  · rename_i q; rw [q]; exact h.symm
  · rfl
theorem mSJ_SJ (s : md_S) (k : Nat) (v w : Int64) : mSJ (mSJ s k v) k w = mSJ s k w := by
  refine Prod.ext rfl (Prod.ext (funext fun j => ?_) rfl)
  show (if j = k then w else if j = k then v else s.2.1 j) = if j = k then w else s.2.1 j
  split <;> rfl
theorem mSJ_self {s : md_S} {k : Nat} {v : Int64} (h : mJ s k = v) : mSJ s k v = s := by
  refine Prod.ext rfl (Prod.ext (funext fun j => ?_) rfl)
  show (if j = k then v else s.2.1 j) = s.2.1 j
  split
  · rename_i q; rw [q]; exact h.symm
  · rfl
theorem mSI_SJ (s : md_S) (k j : Nat) (v : Int32) (w : Int64) : mSI (mSJ s j w) k v = mSJ (mSI s k v) j w := rfl
theorem mSI_SIc {k j : Nat} (h : k ≠ j) (s : md_S) (v w : Int32) : mSI (mSI s j w) k v = mSI (mSI s k v) j w := by
  refine Prod.ext (funext fun x => ?_) rfl
  show (if x = k then v else if x = j then w else s.1 x) = if x = j then w else if x = k then v else s.1 x
  by_cases h1 : x = k
  · rw [if_pos h1, if_pos h1, if_neg (fun e => h (h1.symm.trans e))]
  · rw [if_neg h1, if_neg h1]
theorem mI_SIo {s : md_S} {k j : Nat} {v : Int32} (h : j ≠ k) : mI (mSI s k v) j = mI s j := if_neg h
theorem mI_SIe {s : md_S} {k : Nat} {v : Int32} : mI (mSI s k v) k = v := if_pos rfl
theorem mJ_SJo {s : md_S} {k j : Nat} {v : Int64} (h : j ≠ k) : mJ (mSJ s k v) j = mJ s j := if_neg h
theorem mJ_SJe {s : md_S} {k : Nat} {v : Int64} : mJ (mSJ s k v) k = v := if_pos rfl
theorem mA_SAo {s : md_S} {k i j x : Nat} {v : Int32} (h : j ≠ k) : mA (mSA s k i v) j x = mA s j x := by rw [mA_SA, if_neg h]
theorem mA_SAe {s : md_S} {k i : Nat} {v : Int32} : mA (mSA s k i v) k i = v := by rw [mA_SA, if_pos rfl, if_pos rfl]
theorem mA_SAi {s : md_S} {k i x : Nat} {v : Int32} (h : x ≠ i) : mA (mSA s k i v) k x = mA s k x := by rw [mA_SA, if_pos rfl, if_neg h]
theorem mL_SLo {s : md_S} {k i j x : Nat} {v : Int64} (h : j ≠ k) : mL (mSL s k i v) j x = mL s j x := by rw [mL_SL, if_neg h]
theorem mL_SLe {s : md_S} {k i : Nat} {v : Int64} : mL (mSL s k i v) k i = v := by rw [mL_SL, if_pos rfl, if_pos rfl]
theorem mL_SLi {s : md_S} {k i x : Nat} {v : Int64} (h : x ≠ i) : mL (mSL s k i v) k x = mL s k x := by rw [mL_SL, if_pos rfl, if_neg h]
theorem md_ibn {i L : Nat} (h : i < L) (hL : L < 2 ^ 31) : 0 ≤ (nI i).toInt ∧ (nI i).toInt < (L : Int) := by
  rw [nI_toInt (by omega)]; omega
/-- the fields of the model that are not among L are the same -/
def md_fr (L : List Nat) (s t : md_S) : Prop := ∀ k, k ∉ L → s.1 k = t.1 k ∧ s.2.1 k = t.2.1 k ∧ s.2.2.1 k = t.2.2.1 k ∧ s.2.2.2 k = t.2.2.2 k
theorem md_fr_refl (s : md_S) (L : List Nat) : md_fr L s s := fun _ _ => ⟨rfl, rfl, rfl, rfl⟩
theorem md_fr_tr {L1 L2 L3 : List Nat} {s t u : md_S} (h1 : md_fr L1 s t) (h2 : md_fr L2 t u) (h : ∀ k, k ∉ L3 → k ∉ L1 ∧ k ∉ L2) : md_fr L3 s u := fun k hk => by
  obtain ⟨a1, a2, a3, a4⟩ := h1 k (h k hk).1
  obtain ⟨b1, b2, b3, b4⟩ := h2 k (h k hk).2
  exact ⟨a1.trans b1, a2.trans b2, a3.trans b3, a4.trans b4⟩
theorem md_fr_mono {L1 L3 : List Nat} {s t : md_S} (h1 : md_fr L1 s t) (h : ∀ k, k ∈ L1 → k ∈ L3) : md_fr L3 s t := fun k hk => h1 k (fun q => hk (h k q))
theorem md_frI {L : List Nat} {s t : md_S} (h : md_fr L s t) {k : Nat} (hk : k ∉ L) : mI t k = mI s k := (h k hk).1.symm
theorem md_frJ {L : List Nat} {s t : md_S} (h : md_fr L s t) {k : Nat} (hk : k ∉ L) : mJ t k = mJ s k := (h k hk).2.1.symm
theorem md_frA {L : List Nat} {s t : md_S} (h : md_fr L s t) {k : Nat} (hk : k ∉ L) (i : Nat) : mA t k i = mA s k i := by rw [mA, mA, (h k hk).2.2.1]
theorem md_frL {L : List Nat} {s t : md_S} (h : md_fr L s t) {k : Nat} (hk : k ∉ L) (i : Nat) : mL t k i = mL s k i := by rw [mL, mL, (h k hk).2.2.2]
theorem md_fr_SI {L : List Nat} {s t : md_S} (h : md_fr L s t) {k : Nat} (hk : k ∈ L) (v : Int32) : md_fr L s (mSI t k v) := fun j hj => by
  obtain ⟨a1, a2, a3, a4⟩ := h j hj
  refine ⟨?_, a2, a3, a4⟩
  show s.1 j = if j = k then v else t.1 j
  rw [if_neg (fun e => hj (by rw [e]; exact hk))]; exact a1
theorem md_fr_SJ {L : List Nat} {s t : md_S} (h : md_fr L s t) {k : Nat} (hk : k ∈ L) (v : Int64) : md_fr L s (mSJ t k v) := fun j hj => by
  obtain ⟨a1, a2, a3, a4⟩ := h j hj
  refine ⟨a1, ?_, a3, a4⟩
  show s.2.1 j = if j = k then v else t.2.1 j
  rw [if_neg (fun e => hj (by rw [e]; exact hk))]; exact a2
theorem md_fr_SA {L : List Nat} {s t : md_S} (h : md_fr L s t) {k : Nat} (hk : k ∈ L) (i : Nat) (v : Int32) : md_fr L s (mSA t k i v) := fun j hj => by
  obtain ⟨a1, a2, a3, a4⟩ := h j hj
  refine ⟨a1, a2, ?_, a4⟩
  show s.2.2.1 j = if j = k then upd (t.2.2.1 k) i v else t.2.2.1 j
  rw [if_neg (fun e => hj (by rw [e]; exact hk))]; exact a3
theorem md_fr_SL {L : List Nat} {s t : md_S} (h : md_fr L s t) {k : Nat} (hk : k ∈ L) (i : Nat) (v : Int64) : md_fr L s (mSL t k i v) := fun j hj => by
  obtain ⟨a1, a2, a3, a4⟩ := h j hj
  refine ⟨a1, a2, a3, ?_⟩
  show s.2.2.2 j = if j = k then vp_updL (t.2.2.2 k) i v else t.2.2.2 j
  rw [if_neg (fun e => hj (by rw [e]; exact hk))]; exact a4

theorem m_ld1 {s : md_S} {i : Nat} (h : i < 3000) : mldA s 1 (nI i) = some (mA s 1 i) := by
  unfold mldA; rw [if_pos (md_ibn (L := md_len 1) h (by decide)), nI_clamp (by omega)]
theorem m_st1 {s : md_S} {i : Nat} {v : Int32} (h : i < 3000) : mstA s 1 (nI i) v = some (mSA s 1 i v) := by
  unfold mstA; rw [if_pos (md_ibn (L := md_len 1) h (by decide)), nI_clamp (by omega)]
theorem m_ld3 {s : md_S} {i : Nat} (h : i < 3000) : mldA s 3 (nI i) = some (mA s 3 i) := by
  unfold mldA; rw [if_pos (md_ibn (L := md_len 3) h (by decide)), nI_clamp (by omega)]
theorem m_st3 {s : md_S} {i : Nat} {v : Int32} (h : i < 3000) : mstA s 3 (nI i) v = some (mSA s 3 i v) := by
  unfold mstA; rw [if_pos (md_ibn (L := md_len 3) h (by decide)), nI_clamp (by omega)]
theorem m_ld13 {s : md_S} {i : Nat} (h : i < 6) : mldL s 13 (nI i) = some (mL s 13 i) := by
  unfold mldL; rw [if_pos (md_ibn (L := md_len 13) h (by decide)), nI_clamp (by omega)]
theorem m_st13 {s : md_S} {i : Nat} {v : Int64} (h : i < 6) : mstL s 13 (nI i) v = some (mSL s 13 i v) := by
  unfold mstL; rw [if_pos (md_ibn (L := md_len 13) h (by decide)), nI_clamp (by omega)]
theorem m_ld17 {s : md_S} {i : Nat} (h : i < 1330) : mldL s 17 (nI i) = some (mL s 17 i) := by
  unfold mldL; rw [if_pos (md_ibn (L := md_len 17) h (by decide)), nI_clamp (by omega)]
theorem m_st17 {s : md_S} {i : Nat} {v : Int64} (h : i < 1330) : mstL s 17 (nI i) v = some (mSL s 17 i v) := by
  unfold mstL; rw [if_pos (md_ibn (L := md_len 17) h (by decide)), nI_clamp (by omega)]
theorem m_ld18 {s : md_S} {i : Nat} (h : i < 266) : mldA s 18 (nI i) = some (mA s 18 i) := by
  unfold mldA; rw [if_pos (md_ibn (L := md_len 18) h (by decide)), nI_clamp (by omega)]
theorem m_st18 {s : md_S} {i : Nat} {v : Int32} (h : i < 266) : mstA s 18 (nI i) v = some (mSA s 18 i v) := by
  unfold mstA; rw [if_pos (md_ibn (L := md_len 18) h (by decide)), nI_clamp (by omega)]
theorem m_ld19 {s : md_S} {i : Nat} (h : i < 266) : mldA s 19 (nI i) = some (mA s 19 i) := by
  unfold mldA; rw [if_pos (md_ibn (L := md_len 19) h (by decide)), nI_clamp (by omega)]
theorem m_st19 {s : md_S} {i : Nat} {v : Int32} (h : i < 266) : mstA s 19 (nI i) v = some (mSA s 19 i v) := by
  unfold mstA; rw [if_pos (md_ibn (L := md_len 19) h (by decide)), nI_clamp (by omega)]
theorem m_ld23 {s : md_S} {i : Nat} (h : i < 20) : mldA s 23 (nI i) = some (mA s 23 i) := by
  unfold mldA; rw [if_pos (md_ibn (L := md_len 23) h (by decide)), nI_clamp (by omega)]
theorem m_st23 {s : md_S} {i : Nat} {v : Int32} (h : i < 20) : mstA s 23 (nI i) v = some (mSA s 23 i v) := by
  unfold mstA; rw [if_pos (md_ibn (L := md_len 23) h (by decide)), nI_clamp (by omega)]
theorem m_ld24 {s : md_S} {i : Nat} (h : i < 160) : mldL s 24 (nI i) = some (mL s 24 i) := by
  unfold mldL; rw [if_pos (md_ibn (L := md_len 24) h (by decide)), nI_clamp (by omega)]
theorem m_st24 {s : md_S} {i : Nat} {v : Int64} (h : i < 160) : mstL s 24 (nI i) v = some (mSL s 24 i v) := by
  unfold mstL; rw [if_pos (md_ibn (L := md_len 24) h (by decide)), nI_clamp (by omega)]
theorem m_ld26 {s : md_S} {i : Nat} (h : i < 8) : mldL s 26 (nI i) = some (mL s 26 i) := by
  unfold mldL; rw [if_pos (md_ibn (L := md_len 26) h (by decide)), nI_clamp (by omega)]
theorem m_st26 {s : md_S} {i : Nat} {v : Int64} (h : i < 8) : mstL s 26 (nI i) v = some (mSL s 26 i v) := by
  unfold mstL; rw [if_pos (md_ibn (L := md_len 26) h (by decide)), nI_clamp (by omega)]
theorem m_ld27 {s : md_S} {i : Nat} (h : i < 8) : mldA s 27 (nI i) = some (mA s 27 i) := by
  unfold mldA; rw [if_pos (md_ibn (L := md_len 27) h (by decide)), nI_clamp (by omega)]
theorem m_st27 {s : md_S} {i : Nat} {v : Int32} (h : i < 8) : mstA s 27 (nI i) v = some (mSA s 27 i v) := by
  unfold mstA; rw [if_pos (md_ibn (L := md_len 27) h (by decide)), nI_clamp (by omega)]
theorem m_ld28 {s : md_S} {i : Nat} (h : i < 8) : mldA s 28 (nI i) = some (mA s 28 i) := by
  unfold mldA; rw [if_pos (md_ibn (L := md_len 28) h (by decide)), nI_clamp (by omega)]
theorem m_st28 {s : md_S} {i : Nat} {v : Int32} (h : i < 8) : mstA s 28 (nI i) v = some (mSA s 28 i v) := by
  unfold mstA; rw [if_pos (md_ibn (L := md_len 28) h (by decide)), nI_clamp (by omega)]
theorem m_ld29 {s : md_S} {i : Nat} (h : i < 32) : mldL s 29 (nI i) = some (mL s 29 i) := by
  unfold mldL; rw [if_pos (md_ibn (L := md_len 29) h (by decide)), nI_clamp (by omega)]
theorem m_st29 {s : md_S} {i : Nat} {v : Int64} (h : i < 32) : mstL s 29 (nI i) v = some (mSL s 29 i v) := by
  unfold mstL; rw [if_pos (md_ibn (L := md_len 29) h (by decide)), nI_clamp (by omega)]
theorem m_ld30 {s : md_S} {i : Nat} (h : i < 8) : mldA s 30 (nI i) = some (mA s 30 i) := by
  unfold mldA; rw [if_pos (md_ibn (L := md_len 30) h (by decide)), nI_clamp (by omega)]
theorem m_st30 {s : md_S} {i : Nat} {v : Int32} (h : i < 8) : mstA s 30 (nI i) v = some (mSA s 30 i v) := by
  unfold mstA; rw [if_pos (md_ibn (L := md_len 30) h (by decide)), nI_clamp (by omega)]
theorem m_ld31 {s : md_S} {i : Nat} (h : i < 96) : mldA s 31 (nI i) = some (mA s 31 i) := by
  unfold mldA; rw [if_pos (md_ibn (L := md_len 31) h (by decide)), nI_clamp (by omega)]
theorem m_st31 {s : md_S} {i : Nat} {v : Int32} (h : i < 96) : mstA s 31 (nI i) v = some (mSA s 31 i v) := by
  unfold mstA; rw [if_pos (md_ibn (L := md_len 31) h (by decide)), nI_clamp (by omega)]
theorem m_ld32 {s : md_S} {i : Nat} (h : i < 8) : mldA s 32 (nI i) = some (mA s 32 i) := by
  unfold mldA; rw [if_pos (md_ibn (L := md_len 32) h (by decide)), nI_clamp (by omega)]
theorem m_st32 {s : md_S} {i : Nat} {v : Int32} (h : i < 8) : mstA s 32 (nI i) v = some (mSA s 32 i v) := by
  unfold mstA; rw [if_pos (md_ibn (L := md_len 32) h (by decide)), nI_clamp (by omega)]
theorem m_ld33 {s : md_S} {i : Nat} (h : i < 8) : mldA s 33 (nI i) = some (mA s 33 i) := by
  unfold mldA; rw [if_pos (md_ibn (L := md_len 33) h (by decide)), nI_clamp (by omega)]
theorem m_st33 {s : md_S} {i : Nat} {v : Int32} (h : i < 8) : mstA s 33 (nI i) v = some (mSA s 33 i v) := by
  unfold mstA; rw [if_pos (md_ibn (L := md_len 33) h (by decide)), nI_clamp (by omega)]
theorem m_ld36 {s : md_S} {i : Nat} (h : i < 60) : mldA s 36 (nI i) = some (mA s 36 i) := by
  unfold mldA; rw [if_pos (md_ibn (L := md_len 36) h (by decide)), nI_clamp (by omega)]
theorem m_st36 {s : md_S} {i : Nat} {v : Int32} (h : i < 60) : mstA s 36 (nI i) v = some (mSA s 36 i v) := by
  unfold mstA; rw [if_pos (md_ibn (L := md_len 36) h (by decide)), nI_clamp (by omega)]
theorem m_ld37 {s : md_S} {i : Nat} (h : i < 60) : mldA s 37 (nI i) = some (mA s 37 i) := by
  unfold mldA; rw [if_pos (md_ibn (L := md_len 37) h (by decide)), nI_clamp (by omega)]
theorem m_st37 {s : md_S} {i : Nat} {v : Int32} (h : i < 60) : mstA s 37 (nI i) v = some (mSA s 37 i v) := by
  unfold mstA; rw [if_pos (md_ibn (L := md_len 37) h (by decide)), nI_clamp (by omega)]
theorem m_ld38 {s : md_S} {i : Nat} (h : i < 60) : mldA s 38 (nI i) = some (mA s 38 i) := by
  unfold mldA; rw [if_pos (md_ibn (L := md_len 38) h (by decide)), nI_clamp (by omega)]
theorem m_st38 {s : md_S} {i : Nat} {v : Int32} (h : i < 60) : mstA s 38 (nI i) v = some (mSA s 38 i v) := by
  unfold mstA; rw [if_pos (md_ibn (L := md_len 38) h (by decide)), nI_clamp (by omega)]
theorem m_ld39 {s : md_S} {i : Nat} (h : i < 60) : mldA s 39 (nI i) = some (mA s 39 i) := by
  unfold mldA; rw [if_pos (md_ibn (L := md_len 39) h (by decide)), nI_clamp (by omega)]
theorem m_st39 {s : md_S} {i : Nat} {v : Int32} (h : i < 60) : mstA s 39 (nI i) v = some (mSA s 39 i v) := by
  unfold mstA; rw [if_pos (md_ibn (L := md_len 39) h (by decide)), nI_clamp (by omega)]
theorem m_ld40 {s : md_S} {i : Nat} (h : i < 60) : mldA s 40 (nI i) = some (mA s 40 i) := by
  unfold mldA; rw [if_pos (md_ibn (L := md_len 40) h (by decide)), nI_clamp (by omega)]
theorem m_st40 {s : md_S} {i : Nat} {v : Int32} (h : i < 60) : mstA s 40 (nI i) v = some (mSA s 40 i v) := by
  unfold mstA; rw [if_pos (md_ibn (L := md_len 40) h (by decide)), nI_clamp (by omega)]
theorem m_ld41 {s : md_S} {i : Nat} (h : i < 60) : mldA s 41 (nI i) = some (mA s 41 i) := by
  unfold mldA; rw [if_pos (md_ibn (L := md_len 41) h (by decide)), nI_clamp (by omega)]
theorem m_st41 {s : md_S} {i : Nat} {v : Int32} (h : i < 60) : mstA s 41 (nI i) v = some (mSA s 41 i v) := by
  unfold mstA; rw [if_pos (md_ibn (L := md_len 41) h (by decide)), nI_clamp (by omega)]
theorem m_ld42 {s : md_S} {i : Nat} (h : i < 60) : mldA s 42 (nI i) = some (mA s 42 i) := by
  unfold mldA; rw [if_pos (md_ibn (L := md_len 42) h (by decide)), nI_clamp (by omega)]
theorem m_st42 {s : md_S} {i : Nat} {v : Int32} (h : i < 60) : mstA s 42 (nI i) v = some (mSA s 42 i v) := by
  unfold mstA; rw [if_pos (md_ibn (L := md_len 42) h (by decide)), nI_clamp (by omega)]
theorem m_ld43 {s : md_S} {i : Nat} (h : i < 60) : mldL s 43 (nI i) = some (mL s 43 i) := by
  unfold mldL; rw [if_pos (md_ibn (L := md_len 43) h (by decide)), nI_clamp (by omega)]
theorem m_st43 {s : md_S} {i : Nat} {v : Int64} (h : i < 60) : mstL s 43 (nI i) v = some (mSL s 43 i v) := by
  unfold mstL; rw [if_pos (md_ibn (L := md_len 43) h (by decide)), nI_clamp (by omega)]
theorem m_ld44 {s : md_S} {i : Nat} (h : i < 60) : mldA s 44 (nI i) = some (mA s 44 i) := by
  unfold mldA; rw [if_pos (md_ibn (L := md_len 44) h (by decide)), nI_clamp (by omega)]
theorem m_st44 {s : md_S} {i : Nat} {v : Int32} (h : i < 60) : mstA s 44 (nI i) v = some (mSA s 44 i v) := by
  unfold mstA; rw [if_pos (md_ibn (L := md_len 44) h (by decide)), nI_clamp (by omega)]
theorem m_ld45 {s : md_S} {i : Nat} (h : i < 960) : mldA s 45 (nI i) = some (mA s 45 i) := by
  unfold mldA; rw [if_pos (md_ibn (L := md_len 45) h (by decide)), nI_clamp (by omega)]
theorem m_st45 {s : md_S} {i : Nat} {v : Int32} (h : i < 960) : mstA s 45 (nI i) v = some (mSA s 45 i v) := by
  unfold mstA; rw [if_pos (md_ibn (L := md_len 45) h (by decide)), nI_clamp (by omega)]
theorem m_ld46 {s : md_S} {i : Nat} (h : i < 60) : mldA s 46 (nI i) = some (mA s 46 i) := by
  unfold mldA; rw [if_pos (md_ibn (L := md_len 46) h (by decide)), nI_clamp (by omega)]
theorem m_st46 {s : md_S} {i : Nat} {v : Int32} (h : i < 60) : mstA s 46 (nI i) v = some (mSA s 46 i v) := by
  unfold mstA; rw [if_pos (md_ibn (L := md_len 46) h (by decide)), nI_clamp (by omega)]
theorem m_ld47 {s : md_S} {i : Nat} (h : i < 60) : mldA s 47 (nI i) = some (mA s 47 i) := by
  unfold mldA; rw [if_pos (md_ibn (L := md_len 47) h (by decide)), nI_clamp (by omega)]
theorem m_st47 {s : md_S} {i : Nat} {v : Int32} (h : i < 60) : mstZ s 47 (nI i) v = some (mSA s 47 i (vp_nar .boolean v)) := by
  unfold mstZ; rw [if_pos (md_ibn (L := md_len 47) h (by decide)), nI_clamp (by omega)]
theorem m_ld49 {s : md_S} {i : Nat} (h : i < 24) : mldL s 49 (nI i) = some (mL s 49 i) := by
  unfold mldL; rw [if_pos (md_ibn (L := md_len 49) h (by decide)), nI_clamp (by omega)]
theorem m_st49 {s : md_S} {i : Nat} {v : Int64} (h : i < 24) : mstL s 49 (nI i) v = some (mSL s 49 i v) := by
  unfold mstL; rw [if_pos (md_ibn (L := md_len 49) h (by decide)), nI_clamp (by omega)]
theorem m_ld51 {s : md_S} {i : Nat} (h : i < 500) : mldA s 51 (nI i) = some (mA s 51 i) := by
  unfold mldA; rw [if_pos (md_ibn (L := md_len 51) h (by decide)), nI_clamp (by omega)]
theorem m_st51 {s : md_S} {i : Nat} {v : Int32} (h : i < 500) : mstA s 51 (nI i) v = some (mSA s 51 i v) := by
  unfold mstA; rw [if_pos (md_ibn (L := md_len 51) h (by decide)), nI_clamp (by omega)]
theorem m_ld52 {s : md_S} {i : Nat} (h : i < 500) : mldL s 52 (nI i) = some (mL s 52 i) := by
  unfold mldL; rw [if_pos (md_ibn (L := md_len 52) h (by decide)), nI_clamp (by omega)]
theorem m_st52 {s : md_S} {i : Nat} {v : Int64} (h : i < 500) : mstL s 52 (nI i) v = some (mSL s 52 i v) := by
  unfold mstL; rw [if_pos (md_ibn (L := md_len 52) h (by decide)), nI_clamp (by omega)]
theorem m_ld53 {s : md_S} {i : Nat} (h : i < 500) : mldA s 53 (nI i) = some (mA s 53 i) := by
  unfold mldA; rw [if_pos (md_ibn (L := md_len 53) h (by decide)), nI_clamp (by omega)]
theorem m_st53 {s : md_S} {i : Nat} {v : Int32} (h : i < 500) : mstA s 53 (nI i) v = some (mSA s 53 i v) := by
  unfold mstA; rw [if_pos (md_ibn (L := md_len 53) h (by decide)), nI_clamp (by omega)]
theorem m_ld54 {s : md_S} {i : Nat} (h : i < 500) : mldA s 54 (nI i) = some (mA s 54 i) := by
  unfold mldA; rw [if_pos (md_ibn (L := md_len 54) h (by decide)), nI_clamp (by omega)]
theorem m_st54 {s : md_S} {i : Nat} {v : Int32} (h : i < 500) : mstZ s 54 (nI i) v = some (mSA s 54 i (vp_nar .boolean v)) := by
  unfold mstZ; rw [if_pos (md_ibn (L := md_len 54) h (by decide)), nI_clamp (by omega)]
theorem m_ld55 {s : md_S} {i : Nat} (h : i < 60) : mldA s 55 (nI i) = some (mA s 55 i) := by
  unfold mldA; rw [if_pos (md_ibn (L := md_len 55) h (by decide)), nI_clamp (by omega)]
theorem m_st55 {s : md_S} {i : Nat} {v : Int32} (h : i < 60) : mstA s 55 (nI i) v = some (mSA s 55 i v) := by
  unfold mstA; rw [if_pos (md_ibn (L := md_len 55) h (by decide)), nI_clamp (by omega)]
theorem m_ld57 {s : md_S} {i : Nat} (h : i < 20) : mldA s 57 (nI i) = some (mA s 57 i) := by
  unfold mldA; rw [if_pos (md_ibn (L := md_len 57) h (by decide)), nI_clamp (by omega)]
theorem m_st57 {s : md_S} {i : Nat} {v : Int32} (h : i < 20) : mstA s 57 (nI i) v = some (mSA s 57 i v) := by
  unfold mstA; rw [if_pos (md_ibn (L := md_len 57) h (by decide)), nI_clamp (by omega)]
theorem m_ld59 {s : md_S} {i : Nat} (h : i < 400) : mldA s 59 (nI i) = some (mA s 59 i) := by
  unfold mldA; rw [if_pos (md_ibn (L := md_len 59) h (by decide)), nI_clamp (by omega)]
theorem m_st59 {s : md_S} {i : Nat} {v : Int32} (h : i < 400) : mstA s 59 (nI i) v = some (mSA s 59 i v) := by
  unfold mstA; rw [if_pos (md_ibn (L := md_len 59) h (by decide)), nI_clamp (by omega)]
theorem m_ld61 {s : md_S} {i : Nat} (h : i < 400) : mldL s 61 (nI i) = some (mL s 61 i) := by
  unfold mldL; rw [if_pos (md_ibn (L := md_len 61) h (by decide)), nI_clamp (by omega)]
theorem m_st61 {s : md_S} {i : Nat} {v : Int64} (h : i < 400) : mstL s 61 (nI i) v = some (mSL s 61 i v) := by
  unfold mstL; rw [if_pos (md_ibn (L := md_len 61) h (by decide)), nI_clamp (by omega)]
theorem m_ld66 {s : md_S} {i : Nat} (h : i < 900) : mldA s 66 (nI i) = some (mA s 66 i) := by
  unfold mldA; rw [if_pos (md_ibn (L := md_len 66) h (by decide)), nI_clamp (by omega)]
theorem m_st66 {s : md_S} {i : Nat} {v : Int32} (h : i < 900) : mstA s 66 (nI i) v = some (mSA s 66 i v) := by
  unfold mstA; rw [if_pos (md_ibn (L := md_len 66) h (by decide)), nI_clamp (by omega)]
theorem m_ld67 {s : md_S} {i : Nat} (h : i < 900) : mldA s 67 (nI i) = some (mA s 67 i) := by
  unfold mldA; rw [if_pos (md_ibn (L := md_len 67) h (by decide)), nI_clamp (by omega)]
theorem m_st67 {s : md_S} {i : Nat} {v : Int32} (h : i < 900) : mstA s 67 (nI i) v = some (mSA s 67 i v) := by
  unfold mstA; rw [if_pos (md_ibn (L := md_len 67) h (by decide)), nI_clamp (by omega)]
theorem m_ld68 {s : md_S} {i : Nat} (h : i < 900) : mldA s 68 (nI i) = some (mA s 68 i) := by
  unfold mldA; rw [if_pos (md_ibn (L := md_len 68) h (by decide)), nI_clamp (by omega)]
theorem m_st68 {s : md_S} {i : Nat} {v : Int32} (h : i < 900) : mstA s 68 (nI i) v = some (mSA s 68 i v) := by
  unfold mstA; rw [if_pos (md_ibn (L := md_len 68) h (by decide)), nI_clamp (by omega)]
theorem m_ld69 {s : md_S} {i : Nat} (h : i < 900) : mldA s 69 (nI i) = some (mA s 69 i) := by
  unfold mldA; rw [if_pos (md_ibn (L := md_len 69) h (by decide)), nI_clamp (by omega)]
theorem m_st69 {s : md_S} {i : Nat} {v : Int32} (h : i < 900) : mstA s 69 (nI i) v = some (mSA s 69 i v) := by
  unfold mstA; rw [if_pos (md_ibn (L := md_len 69) h (by decide)), nI_clamp (by omega)]
theorem m_ld70 {s : md_S} {i : Nat} (h : i < 900) : mldA s 70 (nI i) = some (mA s 70 i) := by
  unfold mldA; rw [if_pos (md_ibn (L := md_len 70) h (by decide)), nI_clamp (by omega)]
theorem m_st70 {s : md_S} {i : Nat} {v : Int32} (h : i < 900) : mstA s 70 (nI i) v = some (mSA s 70 i v) := by
  unfold mstA; rw [if_pos (md_ibn (L := md_len 70) h (by decide)), nI_clamp (by omega)]
theorem m_ld71 {s : md_S} {i : Nat} (h : i < 900) : mldA s 71 (nI i) = some (mA s 71 i) := by
  unfold mldA; rw [if_pos (md_ibn (L := md_len 71) h (by decide)), nI_clamp (by omega)]
theorem m_st71 {s : md_S} {i : Nat} {v : Int32} (h : i < 900) : mstA s 71 (nI i) v = some (mSA s 71 i v) := by
  unfold mstA; rw [if_pos (md_ibn (L := md_len 71) h (by decide)), nI_clamp (by omega)]
theorem m_ld72 {s : md_S} {i : Nat} (h : i < 900) : mldA s 72 (nI i) = some (mA s 72 i) := by
  unfold mldA; rw [if_pos (md_ibn (L := md_len 72) h (by decide)), nI_clamp (by omega)]
theorem m_st72 {s : md_S} {i : Nat} {v : Int32} (h : i < 900) : mstA s 72 (nI i) v = some (mSA s 72 i v) := by
  unfold mstA; rw [if_pos (md_ibn (L := md_len 72) h (by decide)), nI_clamp (by omega)]
theorem m_ld74 {s : md_S} {i : Nat} (h : i < 80000) : mldA s 74 (nI i) = some (mA s 74 i) := by
  unfold mldA; rw [if_pos (md_ibn (L := md_len 74) h (by decide)), nI_clamp (by omega)]
theorem m_st74 {s : md_S} {i : Nat} {v : Int32} (h : i < 80000) : mstB s 74 (nI i) v = some (mSA s 74 i (vp_nar .byte v)) := by
  unfold mstB; rw [if_pos (md_ibn (L := md_len 74) h (by decide)), nI_clamp (by omega)]
theorem m_ld76 {s : md_S} {i : Nat} (h : i < 120) : mldA s 76 (nI i) = some (mA s 76 i) := by
  unfold mldA; rw [if_pos (md_ibn (L := md_len 76) h (by decide)), nI_clamp (by omega)]
theorem m_st76 {s : md_S} {i : Nat} {v : Int32} (h : i < 120) : mstA s 76 (nI i) v = some (mSA s 76 i v) := by
  unfold mstA; rw [if_pos (md_ibn (L := md_len 76) h (by decide)), nI_clamp (by omega)]
theorem m_ld77 {s : md_S} {i : Nat} (h : i < 120) : mldA s 77 (nI i) = some (mA s 77 i) := by
  unfold mldA; rw [if_pos (md_ibn (L := md_len 77) h (by decide)), nI_clamp (by omega)]
theorem m_st77 {s : md_S} {i : Nat} {v : Int32} (h : i < 120) : mstA s 77 (nI i) v = some (mSA s 77 i v) := by
  unfold mstA; rw [if_pos (md_ibn (L := md_len 77) h (by decide)), nI_clamp (by omega)]
theorem m_ld80 {s : md_S} {i : Nat} (h : i < 9) : mldA s 80 (nI i) = some (mA s 80 i) := by
  unfold mldA; rw [if_pos (md_ibn (L := md_len 80) h (by decide)), nI_clamp (by omega)]
theorem m_st80 {s : md_S} {i : Nat} {v : Int32} (h : i < 9) : mstA s 80 (nI i) v = some (mSA s 80 i v) := by
  unfold mstA; rw [if_pos (md_ibn (L := md_len 80) h (by decide)), nI_clamp (by omega)]
theorem m_ld83 {s : md_S} {i : Nat} (h : i < 60) : mldA s 83 (nI i) = some (mA s 83 i) := by
  unfold mldA; rw [if_pos (md_ibn (L := md_len 83) h (by decide)), nI_clamp (by omega)]
theorem m_st83 {s : md_S} {i : Nat} {v : Int32} (h : i < 60) : mstA s 83 (nI i) v = some (mSA s 83 i v) := by
  unfold mstA; rw [if_pos (md_ibn (L := md_len 83) h (by decide)), nI_clamp (by omega)]
theorem m_ld92 {s : md_S} {i : Nat} (h : i < 1000) : mldA s 92 (nI i) = some (mA s 92 i) := by
  unfold mldA; rw [if_pos (md_ibn (L := md_len 92) h (by decide)), nI_clamp (by omega)]
theorem m_st92 {s : md_S} {i : Nat} {v : Int32} (h : i < 1000) : mstA s 92 (nI i) v = some (mSA s 92 i v) := by
  unfold mstA; rw [if_pos (md_ibn (L := md_len 92) h (by decide)), nI_clamp (by omega)]
theorem m_ld96 {s : md_S} {i : Nat} (h : i < 2000) : mldA s 96 (nI i) = some (mA s 96 i) := by
  unfold mldA; rw [if_pos (md_ibn (L := md_len 96) h (by decide)), nI_clamp (by omega)]
theorem m_st96 {s : md_S} {i : Nat} {v : Int32} (h : i < 2000) : mstA s 96 (nI i) v = some (mSA s 96 i v) := by
  unfold mstA; rw [if_pos (md_ibn (L := md_len 96) h (by decide)), nI_clamp (by omega)]
theorem m_ld97 {s : md_S} {i : Nat} (h : i < 2000) : mldA s 97 (nI i) = some (mA s 97 i) := by
  unfold mldA; rw [if_pos (md_ibn (L := md_len 97) h (by decide)), nI_clamp (by omega)]
theorem m_st97 {s : md_S} {i : Nat} {v : Int32} (h : i < 2000) : mstA s 97 (nI i) v = some (mSA s 97 i v) := by
  unfold mstA; rw [if_pos (md_ibn (L := md_len 97) h (by decide)), nI_clamp (by omega)]
theorem m_ld99 {s : md_S} {i : Nat} (h : i < 66000) : mldA s 99 (nI i) = some (mA s 99 i) := by
  unfold mldA; rw [if_pos (md_ibn (L := md_len 99) h (by decide)), nI_clamp (by omega)]
theorem m_st99 {s : md_S} {i : Nat} {v : Int32} (h : i < 66000) : mstA s 99 (nI i) v = some (mSA s 99 i v) := by
  unfold mstA; rw [if_pos (md_ibn (L := md_len 99) h (by decide)), nI_clamp (by omega)]
theorem m_ld100 {s : md_S} {i : Nat} (h : i < 66000) : mldA s 100 (nI i) = some (mA s 100 i) := by
  unfold mldA; rw [if_pos (md_ibn (L := md_len 100) h (by decide)), nI_clamp (by omega)]
theorem m_st100 {s : md_S} {i : Nat} {v : Int32} (h : i < 66000) : mstA s 100 (nI i) v = some (mSA s 100 i v) := by
  unfold mstA; rw [if_pos (md_ibn (L := md_len 100) h (by decide)), nI_clamp (by omega)]
theorem m_ld102 {s : md_S} {i : Nat} (h : i < 4001) : mldA s 102 (nI i) = some (mA s 102 i) := by
  unfold mldA; rw [if_pos (md_ibn (L := md_len 102) h (by decide)), nI_clamp (by omega)]
theorem m_st102 {s : md_S} {i : Nat} {v : Int32} (h : i < 4001) : mstA s 102 (nI i) v = some (mSA s 102 i v) := by
  unfold mstA; rw [if_pos (md_ibn (L := md_len 102) h (by decide)), nI_clamp (by omega)]
theorem m_ld103 {s : md_S} {i : Nat} (h : i < 4001) : mldA s 103 (nI i) = some (mA s 103 i) := by
  unfold mldA; rw [if_pos (md_ibn (L := md_len 103) h (by decide)), nI_clamp (by omega)]
theorem m_st103 {s : md_S} {i : Nat} {v : Int32} (h : i < 4001) : mstA s 103 (nI i) v = some (mSA s 103 i v) := by
  unfold mstA; rw [if_pos (md_ibn (L := md_len 103) h (by decide)), nI_clamp (by omega)]
theorem m_ld104 {s : md_S} {i : Nat} (h : i < 4001) : mldA s 104 (nI i) = some (mA s 104 i) := by
  unfold mldA; rw [if_pos (md_ibn (L := md_len 104) h (by decide)), nI_clamp (by omega)]
theorem m_st104 {s : md_S} {i : Nat} {v : Int32} (h : i < 4001) : mstA s 104 (nI i) v = some (mSA s 104 i v) := by
  unfold mstA; rw [if_pos (md_ibn (L := md_len 104) h (by decide)), nI_clamp (by omega)]
theorem m_ld106 {s : md_S} {i : Nat} (h : i < 8) : mldA s 106 (nI i) = some (mA s 106 i) := by
  unfold mldA; rw [if_pos (md_ibn (L := md_len 106) h (by decide)), nI_clamp (by omega)]
theorem m_st106 {s : md_S} {i : Nat} {v : Int32} (h : i < 8) : mstA s 106 (nI i) v = some (mSA s 106 i v) := by
  unfold mstA; rw [if_pos (md_ibn (L := md_len 106) h (by decide)), nI_clamp (by omega)]
theorem m_ld107 {s : md_S} {i : Nat} (h : i < 8) : mldA s 107 (nI i) = some (mA s 107 i) := by
  unfold mldA; rw [if_pos (md_ibn (L := md_len 107) h (by decide)), nI_clamp (by omega)]
theorem m_st107 {s : md_S} {i : Nat} {v : Int32} (h : i < 8) : mstA s 107 (nI i) v = some (mSA s 107 i v) := by
  unfold mstA; rw [if_pos (md_ibn (L := md_len 107) h (by decide)), nI_clamp (by omega)]
theorem m_ld108 {s : md_S} {i : Nat} (h : i < 8) : mldA s 108 (nI i) = some (mA s 108 i) := by
  unfold mldA; rw [if_pos (md_ibn (L := md_len 108) h (by decide)), nI_clamp (by omega)]
theorem m_st108 {s : md_S} {i : Nat} {v : Int32} (h : i < 8) : mstA s 108 (nI i) v = some (mSA s 108 i v) := by
  unfold mstA; rw [if_pos (md_ibn (L := md_len 108) h (by decide)), nI_clamp (by omega)]
theorem m_ld109 {s : md_S} {i : Nat} (h : i < 8) : mldA s 109 (nI i) = some (mA s 109 i) := by
  unfold mldA; rw [if_pos (md_ibn (L := md_len 109) h (by decide)), nI_clamp (by omega)]
theorem m_st109 {s : md_S} {i : Nat} {v : Int32} (h : i < 8) : mstA s 109 (nI i) v = some (mSA s 109 i v) := by
  unfold mstA; rw [if_pos (md_ibn (L := md_len 109) h (by decide)), nI_clamp (by omega)]
theorem m_ld110 {s : md_S} {i : Nat} (h : i < 8) : mldA s 110 (nI i) = some (mA s 110 i) := by
  unfold mldA; rw [if_pos (md_ibn (L := md_len 110) h (by decide)), nI_clamp (by omega)]
theorem m_st110 {s : md_S} {i : Nat} {v : Int32} (h : i < 8) : mstA s 110 (nI i) v = some (mSA s 110 i v) := by
  unfold mstA; rw [if_pos (md_ibn (L := md_len 110) h (by decide)), nI_clamp (by omega)]
theorem m_ld111 {s : md_S} {i : Nat} (h : i < 8) : mldA s 111 (nI i) = some (mA s 111 i) := by
  unfold mldA; rw [if_pos (md_ibn (L := md_len 111) h (by decide)), nI_clamp (by omega)]
theorem m_st111 {s : md_S} {i : Nat} {v : Int32} (h : i < 8) : mstA s 111 (nI i) v = some (mSA s 111 i v) := by
  unfold mstA; rw [if_pos (md_ibn (L := md_len 111) h (by decide)), nI_clamp (by omega)]
theorem m_ld112 {s : md_S} {i : Nat} (h : i < 480) : mldA s 112 (nI i) = some (mA s 112 i) := by
  unfold mldA; rw [if_pos (md_ibn (L := md_len 112) h (by decide)), nI_clamp (by omega)]
theorem m_st112 {s : md_S} {i : Nat} {v : Int32} (h : i < 480) : mstA s 112 (nI i) v = some (mSA s 112 i v) := by
  unfold mstA; rw [if_pos (md_ibn (L := md_len 112) h (by decide)), nI_clamp (by omega)]
theorem m_ld113 {s : md_S} {i : Nat} (h : i < 480) : mldA s 113 (nI i) = some (mA s 113 i) := by
  unfold mldA; rw [if_pos (md_ibn (L := md_len 113) h (by decide)), nI_clamp (by omega)]
theorem m_st113 {s : md_S} {i : Nat} {v : Int32} (h : i < 480) : mstA s 113 (nI i) v = some (mSA s 113 i v) := by
  unfold mstA; rw [if_pos (md_ibn (L := md_len 113) h (by decide)), nI_clamp (by omega)]
theorem m_ld114 {s : md_S} {i : Nat} (h : i < 480) : mldA s 114 (nI i) = some (mA s 114 i) := by
  unfold mldA; rw [if_pos (md_ibn (L := md_len 114) h (by decide)), nI_clamp (by omega)]
theorem m_st114 {s : md_S} {i : Nat} {v : Int32} (h : i < 480) : mstA s 114 (nI i) v = some (mSA s 114 i v) := by
  unfold mstA; rw [if_pos (md_ibn (L := md_len 114) h (by decide)), nI_clamp (by omega)]
theorem m_ld115 {s : md_S} {i : Nat} (h : i < 480) : mldA s 115 (nI i) = some (mA s 115 i) := by
  unfold mldA; rw [if_pos (md_ibn (L := md_len 115) h (by decide)), nI_clamp (by omega)]
theorem m_st115 {s : md_S} {i : Nat} {v : Int32} (h : i < 480) : mstA s 115 (nI i) v = some (mSA s 115 i v) := by
  unfold mstA; rw [if_pos (md_ibn (L := md_len 115) h (by decide)), nI_clamp (by omega)]
theorem m_ld116 {s : md_S} {i : Nat} (h : i < 480) : mldA s 116 (nI i) = some (mA s 116 i) := by
  unfold mldA; rw [if_pos (md_ibn (L := md_len 116) h (by decide)), nI_clamp (by omega)]
theorem m_st116 {s : md_S} {i : Nat} {v : Int32} (h : i < 480) : mstA s 116 (nI i) v = some (mSA s 116 i v) := by
  unfold mstA; rw [if_pos (md_ibn (L := md_len 116) h (by decide)), nI_clamp (by omega)]
theorem m_ld117 {s : md_S} {i : Nat} (h : i < 8) : mldA s 117 (nI i) = some (mA s 117 i) := by
  unfold mldA; rw [if_pos (md_ibn (L := md_len 117) h (by decide)), nI_clamp (by omega)]
theorem m_st117 {s : md_S} {i : Nat} {v : Int32} (h : i < 8) : mstA s 117 (nI i) v = some (mSA s 117 i v) := by
  unfold mstA; rw [if_pos (md_ibn (L := md_len 117) h (by decide)), nI_clamp (by omega)]
theorem m_ld118 {s : md_S} {i : Nat} (h : i < 100800) : mldA s 118 (nI i) = some (mA s 118 i) := by
  unfold mldA; rw [if_pos (md_ibn (L := md_len 118) h (by decide)), nI_clamp (by omega)]
theorem m_st118 {s : md_S} {i : Nat} {v : Int32} (h : i < 100800) : mstA s 118 (nI i) v = some (mSA s 118 i v) := by
  unfold mstA; rw [if_pos (md_ibn (L := md_len 118) h (by decide)), nI_clamp (by omega)]
theorem m_ld119 {s : md_S} {i : Nat} (h : i < 100800) : mldA s 119 (nI i) = some (mA s 119 i) := by
  unfold mldA; rw [if_pos (md_ibn (L := md_len 119) h (by decide)), nI_clamp (by omega)]
theorem m_st119 {s : md_S} {i : Nat} {v : Int32} (h : i < 100800) : mstA s 119 (nI i) v = some (mSA s 119 i v) := by
  unfold mstA; rw [if_pos (md_ibn (L := md_len 119) h (by decide)), nI_clamp (by omega)]
theorem m_ld120 {s : md_S} {i : Nat} (h : i < 8) : mldA s 120 (nI i) = some (mA s 120 i) := by
  unfold mldA; rw [if_pos (md_ibn (L := md_len 120) h (by decide)), nI_clamp (by omega)]
theorem m_st120 {s : md_S} {i : Nat} {v : Int32} (h : i < 8) : mstA s 120 (nI i) v = some (mSA s 120 i v) := by
  unfold mstA; rw [if_pos (md_ibn (L := md_len 120) h (by decide)), nI_clamp (by omega)]
theorem m_ld121 {s : md_S} {i : Nat} (h : i < 72000) : mldA s 121 (nI i) = some (mA s 121 i) := by
  unfold mldA; rw [if_pos (md_ibn (L := md_len 121) h (by decide)), nI_clamp (by omega)]
theorem m_st121 {s : md_S} {i : Nat} {v : Int32} (h : i < 72000) : mstA s 121 (nI i) v = some (mSA s 121 i v) := by
  unfold mstA; rw [if_pos (md_ibn (L := md_len 121) h (by decide)), nI_clamp (by omega)]
theorem m_ld122 {s : md_S} {i : Nat} (h : i < 72000) : mldA s 122 (nI i) = some (mA s 122 i) := by
  unfold mldA; rw [if_pos (md_ibn (L := md_len 122) h (by decide)), nI_clamp (by omega)]
theorem m_st122 {s : md_S} {i : Nat} {v : Int32} (h : i < 72000) : mstA s 122 (nI i) v = some (mSA s 122 i v) := by
  unfold mstA; rw [if_pos (md_ibn (L := md_len 122) h (by decide)), nI_clamp (by omega)]
theorem m_ld123 {s : md_S} {i : Nat} (h : i < 8) : mldA s 123 (nI i) = some (mA s 123 i) := by
  unfold mldA; rw [if_pos (md_ibn (L := md_len 123) h (by decide)), nI_clamp (by omega)]
theorem m_st123 {s : md_S} {i : Nat} {v : Int32} (h : i < 8) : mstA s 123 (nI i) v = some (mSA s 123 i v) := by
  unfold mstA; rw [if_pos (md_ibn (L := md_len 123) h (by decide)), nI_clamp (by omega)]
theorem m_ld124 {s : md_S} {i : Nat} (h : i < 12000) : mldA s 124 (nI i) = some (mA s 124 i) := by
  unfold mldA; rw [if_pos (md_ibn (L := md_len 124) h (by decide)), nI_clamp (by omega)]
theorem m_st124 {s : md_S} {i : Nat} {v : Int32} (h : i < 12000) : mstA s 124 (nI i) v = some (mSA s 124 i v) := by
  unfold mstA; rw [if_pos (md_ibn (L := md_len 124) h (by decide)), nI_clamp (by omega)]
theorem m_ld125 {s : md_S} {i : Nat} (h : i < 12000) : mldA s 125 (nI i) = some (mA s 125 i) := by
  unfold mldA; rw [if_pos (md_ibn (L := md_len 125) h (by decide)), nI_clamp (by omega)]
theorem m_st125 {s : md_S} {i : Nat} {v : Int32} (h : i < 12000) : mstA s 125 (nI i) v = some (mSA s 125 i v) := by
  unfold mstA; rw [if_pos (md_ibn (L := md_len 125) h (by decide)), nI_clamp (by omega)]
theorem m_ld126 {s : md_S} {i : Nat} (h : i < 12000) : mldA s 126 (nI i) = some (mA s 126 i) := by
  unfold mldA; rw [if_pos (md_ibn (L := md_len 126) h (by decide)), nI_clamp (by omega)]
theorem m_st126 {s : md_S} {i : Nat} {v : Int32} (h : i < 12000) : mstA s 126 (nI i) v = some (mSA s 126 i v) := by
  unfold mstA; rw [if_pos (md_ibn (L := md_len 126) h (by decide)), nI_clamp (by omega)]
theorem m_ld131 {s : md_S} {i : Nat} (h : i < 4002) : mldA s 131 (nI i) = some (mA s 131 i) := by
  unfold mldA; rw [if_pos (md_ibn (L := md_len 131) h (by decide)), nI_clamp (by omega)]
theorem m_st131 {s : md_S} {i : Nat} {v : Int32} (h : i < 4002) : mstA s 131 (nI i) v = some (mSA s 131 i v) := by
  unfold mstA; rw [if_pos (md_ibn (L := md_len 131) h (by decide)), nI_clamp (by omega)]
theorem m_ld132 {s : md_S} {i : Nat} (h : i < 64032) : mldA s 132 (nI i) = some (mA s 132 i) := by
  unfold mldA; rw [if_pos (md_ibn (L := md_len 132) h (by decide)), nI_clamp (by omega)]
theorem m_st132 {s : md_S} {i : Nat} {v : Int32} (h : i < 64032) : mstA s 132 (nI i) v = some (mSA s 132 i v) := by
  unfold mstA; rw [if_pos (md_ibn (L := md_len 132) h (by decide)), nI_clamp (by omega)]
theorem m_ld133 {s : md_S} {i : Nat} (h : i < 40) : mldA s 133 (nI i) = some (mA s 133 i) := by
  unfold mldA; rw [if_pos (md_ibn (L := md_len 133) h (by decide)), nI_clamp (by omega)]
theorem m_st133 {s : md_S} {i : Nat} {v : Int32} (h : i < 40) : mstA s 133 (nI i) v = some (mSA s 133 i v) := by
  unfold mstA; rw [if_pos (md_ibn (L := md_len 133) h (by decide)), nI_clamp (by omega)]
theorem m_ld136 {s : md_S} {i : Nat} (h : i < 24) : mldA s 136 (nI i) = some (mA s 136 i) := by
  unfold mldA; rw [if_pos (md_ibn (L := md_len 136) h (by decide)), nI_clamp (by omega)]
theorem m_st136 {s : md_S} {i : Nat} {v : Int32} (h : i < 24) : mstZ s 136 (nI i) v = some (mSA s 136 i (vp_nar .boolean v)) := by
  unfold mstZ; rw [if_pos (md_ibn (L := md_len 136) h (by decide)), nI_clamp (by omega)]
/-! the class's state -/
theorem cI_SI (s : cd_S) (f i g j : Nat) (v : Int32) : cI (cSI s f i v) g j = if g = f ∧ j = i then v else cI s g j := rfl
theorem cI_SJ (s : cd_S) (f i g j : Nat) (v : Int64) : cI (cSJ s f i v) g j = cI s g j := rfl
theorem cI_SA (s : cd_S) (f i x g j : Nat) (v : Int32) : cI (cSA s f i x v) g j = cI s g j := rfl
theorem cI_SL (s : cd_S) (f i x g j : Nat) (v : Int64) : cI (cSL s f i x v) g j = cI s g j := rfl
theorem cI_SP (s : cd_S) (f i v g j : Nat) : cI (cSP s f i v) g j = cI s g j := rfl
theorem cI_SF (s : cd_S) (i x g j : Nat) (v : Int64) : cI (cSF s i x v) g j = cI s g j := rfl
theorem cI_SG (s : cd_S) (i x g j : Nat) (v : Nat → Int64) : cI (cSG s i x v) g j = cI s g j := rfl
theorem cJ_SI (s : cd_S) (f i g j : Nat) (v : Int32) : cJ (cSI s f i v) g j = cJ s g j := rfl
theorem cJ_SJ (s : cd_S) (f i g j : Nat) (v : Int64) : cJ (cSJ s f i v) g j = if g = f ∧ j = i then v else cJ s g j := rfl
theorem cJ_SA (s : cd_S) (f i x g j : Nat) (v : Int32) : cJ (cSA s f i x v) g j = cJ s g j := rfl
theorem cJ_SL (s : cd_S) (f i x g j : Nat) (v : Int64) : cJ (cSL s f i x v) g j = cJ s g j := rfl
theorem cJ_SP (s : cd_S) (f i v g j : Nat) : cJ (cSP s f i v) g j = cJ s g j := rfl
theorem cJ_SF (s : cd_S) (i x g j : Nat) (v : Int64) : cJ (cSF s i x v) g j = cJ s g j := rfl
theorem cJ_SG (s : cd_S) (i x g j : Nat) (v : Nat → Int64) : cJ (cSG s i x v) g j = cJ s g j := rfl
theorem cA_SI (s : cd_S) (f i g j y : Nat) (v : Int32) : cAr (cSI s f i v) g j y = cAr s g j y := rfl
theorem cA_SJ (s : cd_S) (f i g j y : Nat) (v : Int64) : cAr (cSJ s f i v) g j y = cAr s g j y := rfl
theorem cA_SA (s : cd_S) (f i x g j y : Nat) (v : Int32) : cAr (cSA s f i x v) g j y = if g = f ∧ j = i then (if y = x then v else cAr s g j y) else cAr s g j y := by
  show (if g = f ∧ j = i then upd (s.2.2.1 f i) x v else s.2.2.1 g j) y = _
  by_cases h : g = f ∧ j = i
  · obtain ⟨h1, h2⟩ := h; subst h1; subst h2; rw [if_pos ⟨rfl, rfl⟩, if_pos ⟨rfl, rfl⟩]; rfl
  · rw [if_neg h, if_neg h]
theorem cA_SL (s : cd_S) (f i x g j y : Nat) (v : Int64) : cAr (cSL s f i x v) g j y = cAr s g j y := rfl
theorem cA_SP (s : cd_S) (f i v g j y : Nat) : cAr (cSP s f i v) g j y = cAr s g j y := rfl
theorem cA_SF (s : cd_S) (i x g j y : Nat) (v : Int64) : cAr (cSF s i x v) g j y = cAr s g j y := rfl
theorem cA_SG (s : cd_S) (i x g j y : Nat) (v : Nat → Int64) : cAr (cSG s i x v) g j y = cAr s g j y := rfl
theorem cL_SI (s : cd_S) (f i g j y : Nat) (v : Int32) : cLr (cSI s f i v) g j y = cLr s g j y := rfl
theorem cL_SJ (s : cd_S) (f i g j y : Nat) (v : Int64) : cLr (cSJ s f i v) g j y = cLr s g j y := rfl
theorem cL_SA (s : cd_S) (f i x g j y : Nat) (v : Int32) : cLr (cSA s f i x v) g j y = cLr s g j y := rfl
theorem cL_SL (s : cd_S) (f i x g j y : Nat) (v : Int64) : cLr (cSL s f i x v) g j y = if g = f ∧ j = i then (if y = x then v else cLr s g j y) else cLr s g j y := by
  show (if g = f ∧ j = i then vp_updL (s.2.2.2.1 f i) x v else s.2.2.2.1 g j) y = _
  by_cases h : g = f ∧ j = i
  · obtain ⟨h1, h2⟩ := h; subst h1; subst h2; rw [if_pos ⟨rfl, rfl⟩, if_pos ⟨rfl, rfl⟩]; rfl
  · rw [if_neg h, if_neg h]
theorem cL_SP (s : cd_S) (f i v g j y : Nat) : cLr (cSP s f i v) g j y = cLr s g j y := rfl
theorem cL_SF (s : cd_S) (i x g j y : Nat) (v : Int64) : cLr (cSF s i x v) g j y = cLr s g j y := rfl
theorem cL_SG (s : cd_S) (i x g j y : Nat) (v : Nat → Int64) : cLr (cSG s i x v) g j y = cLr s g j y := rfl
theorem cP_SI (s : cd_S) (f i g j : Nat) (v : Int32) : cP (cSI s f i v) g j = cP s g j := rfl
theorem cP_SJ (s : cd_S) (f i g j : Nat) (v : Int64) : cP (cSJ s f i v) g j = cP s g j := rfl
theorem cP_SA (s : cd_S) (f i x g j : Nat) (v : Int32) : cP (cSA s f i x v) g j = cP s g j := rfl
theorem cP_SL (s : cd_S) (f i x g j : Nat) (v : Int64) : cP (cSL s f i x v) g j = cP s g j := rfl
theorem cP_SP (s : cd_S) (f i v g j : Nat) : cP (cSP s f i v) g j = if g = f ∧ j = i then v else cP s g j := rfl
theorem cP_SF (s : cd_S) (i x g j : Nat) (v : Int64) : cP (cSF s i x v) g j = cP s g j := rfl
theorem cP_SG (s : cd_S) (i x g j : Nat) (v : Nat → Int64) : cP (cSG s i x v) g j = cP s g j := rfl
theorem cC_SI (s : cd_S) (f i r : Nat) (v : Int32) : cRC (cSI s f i v) r = cRC s r := rfl
theorem cC_SJ (s : cd_S) (f i r : Nat) (v : Int64) : cRC (cSJ s f i v) r = cRC s r := rfl
theorem cC_SA (s : cd_S) (f i x r : Nat) (v : Int32) : cRC (cSA s f i x v) r = cRC s r := rfl
theorem cC_SL (s : cd_S) (f i x r : Nat) (v : Int64) : cRC (cSL s f i x v) r = cRC s r := rfl
theorem cC_SP (s : cd_S) (f i v r : Nat) : cRC (cSP s f i v) r = cRC s r := rfl
theorem cC_SF (s : cd_S) (i x r : Nat) (v : Int64) : cRC (cSF s i x v) r = cRC s r := rfl
theorem cC_SG (s : cd_S) (i x r : Nat) (v : Nat → Int64) : cRC (cSG s i x v) r = if r = i then x else cRC s r := rfl
theorem cF_SI (s : cd_S) (f i r y : Nat) (v : Int32) : cRF (cSI s f i v) r y = cRF s r y := rfl
theorem cF_SJ (s : cd_S) (f i r y : Nat) (v : Int64) : cRF (cSJ s f i v) r y = cRF s r y := rfl
theorem cF_SA (s : cd_S) (f i x r y : Nat) (v : Int32) : cRF (cSA s f i x v) r y = cRF s r y := rfl
theorem cF_SL (s : cd_S) (f i x r y : Nat) (v : Int64) : cRF (cSL s f i x v) r y = cRF s r y := rfl
theorem cF_SP (s : cd_S) (f i v r y : Nat) : cRF (cSP s f i v) r y = cRF s r y := rfl
theorem cF_SF (s : cd_S) (i x r y : Nat) (v : Int64) : cRF (cSF s i x v) r y = if r = i then (if y = x then v else cRF s r y) else cRF s r y := by
  show (if r = i then vp_updL (s.2.2.2.2.2.2 i) x v else s.2.2.2.2.2.2 r) y = _
  by_cases h : r = i
  · subst h; rw [if_pos rfl, if_pos rfl]; rfl
  · rw [if_neg h, if_neg h]
theorem cF_SG (s : cd_S) (i x r y : Nat) (v : Nat → Int64) : cRF (cSG s i x v) r y = if r = i then v y else cRF s r y := by
  show (if r = i then v else s.2.2.2.2.2.2 r) y = _
  split <;> rfl
theorem cSI_SI (s : cd_S) (f i : Nat) (v w : Int32) : cSI (cSI s f i v) f i w = cSI s f i w := by
  refine Prod.ext (funext fun g => funext fun j => ?_) rfl
  show (if g = f ∧ j = i then w else if g = f ∧ j = i then v else s.1 g j) = if g = f ∧ j = i then w else s.1 g j
  split <;> rfl
theorem cSI_self {s : cd_S} {f i : Nat} {v : Int32} (h : cI s f i = v) : cSI s f i v = s := by
  refine Prod.ext (funext fun g => funext fun j => ?_) rfl
  show (if g = f ∧ j = i then v else s.1 g j) = s.1 g j
  split
  · rename_i q; rw [q.1, q.2]; exact h.symm
  · rfl
theorem cI_SIo {s : cd_S} {f i g j : Nat} {v : Int32} (h : g ≠ f) : cI (cSI s f i v) g j = cI s g j := if_neg (fun q => h q.1)
theorem cI_SIi {s : cd_S} {f i j : Nat} {v : Int32} (h : j ≠ i) : cI (cSI s f i v) f j = cI s f j := if_neg (fun q => h q.2)
theorem cI_SIe {s : cd_S} {f i : Nat} {v : Int32} : cI (cSI s f i v) f i = v := if_pos ⟨rfl, rfl⟩
theorem cJ_SJo {s : cd_S} {f i g j : Nat} {v : Int64} (h : g ≠ f) : cJ (cSJ s f i v) g j = cJ s g j := if_neg (fun q => h q.1)
theorem cJ_SJi {s : cd_S} {f i j : Nat} {v : Int64} (h : j ≠ i) : cJ (cSJ s f i v) f j = cJ s f j := if_neg (fun q => h q.2)
theorem cJ_SJe {s : cd_S} {f i : Nat} {v : Int64} : cJ (cSJ s f i v) f i = v := if_pos ⟨rfl, rfl⟩
theorem cA_SAo {s : cd_S} {f i x g j y : Nat} {v : Int32} (h : g ≠ f) : cAr (cSA s f i x v) g j y = cAr s g j y := by rw [cA_SA, if_neg (fun q => h q.1)]
theorem cA_SAe {s : cd_S} {f i x : Nat} {v : Int32} : cAr (cSA s f i x v) f i x = v := by rw [cA_SA, if_pos ⟨rfl, rfl⟩, if_pos rfl]
theorem cA_SAi {s : cd_S} {f i x y : Nat} {v : Int32} (h : y ≠ x) : cAr (cSA s f i x v) f i y = cAr s f i y := by rw [cA_SA, if_pos ⟨rfl, rfl⟩, if_neg h]
theorem cL_SLo {s : cd_S} {f i x g j y : Nat} {v : Int64} (h : g ≠ f) : cLr (cSL s f i x v) g j y = cLr s g j y := by rw [cL_SL, if_neg (fun q => h q.1)]
theorem cL_SLe {s : cd_S} {f i x : Nat} {v : Int64} : cLr (cSL s f i x v) f i x = v := by rw [cL_SL, if_pos ⟨rfl, rfl⟩, if_pos rfl]
theorem cL_SLi {s : cd_S} {f i x y : Nat} {v : Int64} (h : y ≠ x) : cLr (cSL s f i x v) f i y = cLr s f i y := by rw [cL_SL, if_pos ⟨rfl, rfl⟩, if_neg h]
theorem cP_SPo {s : cd_S} {f i v g j : Nat} (h : g ≠ f) : cP (cSP s f i v) g j = cP s g j := if_neg (fun q => h q.1)
theorem cP_SPe {s : cd_S} {f i v : Nat} : cP (cSP s f i v) f i = v := if_pos ⟨rfl, rfl⟩
theorem c_ck {α : Type} {fb : α → cd_B} {b : cd_B} {r : Option α} {q : α} (h : r = some q) (h1 : (fb q).1 ≤ b.1) (h2 : (fb q).2 ≤ b.2) : cd_ck fb b r = some q := by
  rw [h]; exact if_pos ⟨h1, h2⟩

theorem c_ld3 {s : cd_S} {o i : Nat} (h : i < 256) : cldA s 3 o (nI i) = some (cAr s 3 o i) := by
  unfold cldA; rw [if_pos (md_ibn (L := cd_alen 3) h (by decide)), nI_clamp (by omega)]
theorem c_st3 {s : cd_S} {o i : Nat} {v : Int32} (h : i < 256) : cstA s 3 o (nI i) v = some (cSA s 3 o i v) := by
  unfold cstA; rw [if_pos (md_ibn (L := cd_alen 3) h (by decide)), nI_clamp (by omega)]
theorem c_ld4 {s : cd_S} {o i : Nat} (h : i < 14) : cldA s 4 o (nI i) = some (cAr s 4 o i) := by
  unfold cldA; rw [if_pos (md_ibn (L := cd_alen 4) h (by decide)), nI_clamp (by omega)]
theorem c_st4 {s : cd_S} {o i : Nat} {v : Int32} (h : i < 14) : cstA s 4 o (nI i) v = some (cSA s 4 o i v) := by
  unfold cstA; rw [if_pos (md_ibn (L := cd_alen 4) h (by decide)), nI_clamp (by omega)]
theorem c_ld35 {i : Nat} (h : i < 8) : cldR 35 (nI i) = some (0 + i) := by
  unfold cldR; rw [if_pos (md_ibn (L := cd_alen 35) h (by decide)), nI_clamp (by omega)]; rfl
theorem c_ld65 {i : Nat} (h : i < 60) : cldR 65 (nI i) = some (0 + i) := by
  unfold cldR; rw [if_pos (md_ibn (L := cd_alen 65) h (by decide)), nI_clamp (by omega)]; rfl
theorem c_ld67 {s : cd_S} {o i : Nat} (h : i < 8) : cldL s 67 o (nI i) = some (cLr s 67 o i) := by
  unfold cldL; rw [if_pos (md_ibn (L := cd_alen 67) h (by decide)), nI_clamp (by omega)]
theorem c_st67 {s : cd_S} {o i : Nat} {v : Int64} (h : i < 8) : cstL s 67 o (nI i) v = some (cSL s 67 o i v) := by
  unfold cstL; rw [if_pos (md_ibn (L := cd_alen 67) h (by decide)), nI_clamp (by omega)]
theorem c_ld68 {s : cd_S} {o i : Nat} (h : i < 8) : cldA s 68 o (nI i) = some (cAr s 68 o i) := by
  unfold cldA; rw [if_pos (md_ibn (L := cd_alen 68) h (by decide)), nI_clamp (by omega)]
theorem c_st68 {s : cd_S} {o i : Nat} {v : Int32} (h : i < 8) : cstA s 68 o (nI i) v = some (cSA s 68 o i v) := by
  unfold cstA; rw [if_pos (md_ibn (L := cd_alen 68) h (by decide)), nI_clamp (by omega)]
theorem c_ld69 {s : cd_S} {o i : Nat} (h : i < 32) : cldL s 69 o (nI i) = some (cLr s 69 o i) := by
  unfold cldL; rw [if_pos (md_ibn (L := cd_alen 69) h (by decide)), nI_clamp (by omega)]
theorem c_st69 {s : cd_S} {o i : Nat} {v : Int64} (h : i < 32) : cstL s 69 o (nI i) v = some (cSL s 69 o i v) := by
  unfold cstL; rw [if_pos (md_ibn (L := cd_alen 69) h (by decide)), nI_clamp (by omega)]
theorem c_ld70 {s : cd_S} {o i : Nat} (h : i < 8) : cldA s 70 o (nI i) = some (cAr s 70 o i) := by
  unfold cldA; rw [if_pos (md_ibn (L := cd_alen 70) h (by decide)), nI_clamp (by omega)]
theorem c_st70 {s : cd_S} {o i : Nat} {v : Int32} (h : i < 8) : cstA s 70 o (nI i) v = some (cSA s 70 o i v) := by
  unfold cstA; rw [if_pos (md_ibn (L := cd_alen 70) h (by decide)), nI_clamp (by omega)]
theorem c_ld71 {s : cd_S} {o i : Nat} (h : i < 8) : cldA s 71 o (nI i) = some (cAr s 71 o i) := by
  unfold cldA; rw [if_pos (md_ibn (L := cd_alen 71) h (by decide)), nI_clamp (by omega)]
theorem c_st71 {s : cd_S} {o i : Nat} {v : Int32} (h : i < 8) : cstA s 71 o (nI i) v = some (cSA s 71 o i v) := by
  unfold cstA; rw [if_pos (md_ibn (L := cd_alen 71) h (by decide)), nI_clamp (by omega)]
theorem c_ld72 {s : cd_S} {o i : Nat} (h : i < 96) : cldA s 72 o (nI i) = some (cAr s 72 o i) := by
  unfold cldA; rw [if_pos (md_ibn (L := cd_alen 72) h (by decide)), nI_clamp (by omega)]
theorem c_st72 {s : cd_S} {o i : Nat} {v : Int32} (h : i < 96) : cstA s 72 o (nI i) v = some (cSA s 72 o i v) := by
  unfold cstA; rw [if_pos (md_ibn (L := cd_alen 72) h (by decide)), nI_clamp (by omega)]
theorem c_ld73 {s : cd_S} {o i : Nat} (h : i < 8) : cldA s 73 o (nI i) = some (cAr s 73 o i) := by
  unfold cldA; rw [if_pos (md_ibn (L := cd_alen 73) h (by decide)), nI_clamp (by omega)]
theorem c_st73 {s : cd_S} {o i : Nat} {v : Int32} (h : i < 8) : cstA s 73 o (nI i) v = some (cSA s 73 o i v) := by
  unfold cstA; rw [if_pos (md_ibn (L := cd_alen 73) h (by decide)), nI_clamp (by omega)]
theorem c_ld75 {s : cd_S} {o i : Nat} (h : i < 400) : cldA s 75 o (nI i) = some (cAr s 75 o i) := by
  unfold cldA; rw [if_pos (md_ibn (L := cd_alen 75) h (by decide)), nI_clamp (by omega)]
theorem c_st75 {s : cd_S} {o i : Nat} {v : Int32} (h : i < 400) : cstA s 75 o (nI i) v = some (cSA s 75 o i v) := by
  unfold cstA; rw [if_pos (md_ibn (L := cd_alen 75) h (by decide)), nI_clamp (by omega)]
theorem c_ld77 {s : cd_S} {o i : Nat} (h : i < 400) : cldL s 77 o (nI i) = some (cLr s 77 o i) := by
  unfold cldL; rw [if_pos (md_ibn (L := cd_alen 77) h (by decide)), nI_clamp (by omega)]
theorem c_st77 {s : cd_S} {o i : Nat} {v : Int64} (h : i < 400) : cstL s 77 o (nI i) v = some (cSL s 77 o i v) := by
  unfold cstL; rw [if_pos (md_ibn (L := cd_alen 77) h (by decide)), nI_clamp (by omega)]
theorem c_ld79 {s : cd_S} {o i : Nat} (h : i < 400) : cldA s 79 o (nI i) = some (cAr s 79 o i) := by
  unfold cldA; rw [if_pos (md_ibn (L := cd_alen 79) h (by decide)), nI_clamp (by omega)]
theorem c_st79 {s : cd_S} {o i : Nat} {v : Int32} (h : i < 400) : cstA s 79 o (nI i) v = some (cSA s 79 o i v) := by
  unfold cstA; rw [if_pos (md_ibn (L := cd_alen 79) h (by decide)), nI_clamp (by omega)]
theorem c_ld96 {i : Nat} (h : i < 8) : cldR 96 (nI i) = some (0 + i) := by
  unfold cldR; rw [if_pos (md_ibn (L := cd_alen 96) h (by decide)), nI_clamp (by omega)]; rfl
theorem c_ld97 {i : Nat} (h : i < 160) : cldR 97 (nI i) = some (8 + i) := by
  unfold cldR; rw [if_pos (md_ibn (L := cd_alen 97) h (by decide)), nI_clamp (by omega)]; rfl
theorem c_ld98 {s : cd_S} {o i : Nat} (h : i < 8) : cldA s 98 o (nI i) = some (cAr s 98 o i) := by
  unfold cldA; rw [if_pos (md_ibn (L := cd_alen 98) h (by decide)), nI_clamp (by omega)]
theorem c_st98 {s : cd_S} {o i : Nat} {v : Int32} (h : i < 8) : cstA s 98 o (nI i) v = some (cSA s 98 o i v) := by
  unfold cstA; rw [if_pos (md_ibn (L := cd_alen 98) h (by decide)), nI_clamp (by omega)]
theorem c_ld99 {s : cd_S} {o i : Nat} (h : i < 12) : cldA s 99 o (nI i) = some (cAr s 99 o i) := by
  unfold cldA; rw [if_pos (md_ibn (L := cd_alen 99) h (by decide)), nI_clamp (by omega)]
theorem c_st99 {s : cd_S} {o i : Nat} {v : Int32} (h : i < 12) : cstA s 99 o (nI i) v = some (cSA s 99 o i v) := by
  unfold cstA; rw [if_pos (md_ibn (L := cd_alen 99) h (by decide)), nI_clamp (by omega)]
theorem c_ld100 {s : cd_S} {o i : Nat} (h : i < 8) : cldA s 100 o (nI i) = some (cAr s 100 o i) := by
  unfold cldA; rw [if_pos (md_ibn (L := cd_alen 100) h (by decide)), nI_clamp (by omega)]
theorem c_st100 {s : cd_S} {o i : Nat} {v : Int32} (h : i < 8) : cstA s 100 o (nI i) v = some (cSA s 100 o i v) := by
  unfold cstA; rw [if_pos (md_ibn (L := cd_alen 100) h (by decide)), nI_clamp (by omega)]
theorem c_ld101 {s : cd_S} {o i : Nat} (h : i < 8) : cldA s 101 o (nI i) = some (cAr s 101 o i) := by
  unfold cldA; rw [if_pos (md_ibn (L := cd_alen 101) h (by decide)), nI_clamp (by omega)]
theorem c_st101 {s : cd_S} {o i : Nat} {v : Int32} (h : i < 8) : cstA s 101 o (nI i) v = some (cSA s 101 o i v) := by
  unfold cstA; rw [if_pos (md_ibn (L := cd_alen 101) h (by decide)), nI_clamp (by omega)]
theorem c_ld102 {i : Nat} (h : i < 24) : cldR 102 (nI i) = some (168 + i) := by
  unfold cldR; rw [if_pos (md_ibn (L := cd_alen 102) h (by decide)), nI_clamp (by omega)]; rfl
theorem c_ld103 {s : cd_S} {o i : Nat} (h : i < 24) : cldA s 103 o (nI i) = some (cAr s 103 o i) := by
  unfold cldA; rw [if_pos (md_ibn (L := cd_alen 103) h (by decide)), nI_clamp (by omega)]
theorem c_st103 {s : cd_S} {o i : Nat} {v : Int32} (h : i < 24) : cstZ s 103 o (nI i) v = some (cSA s 103 o i (vp_nar .boolean v)) := by
  unfold cstZ; rw [if_pos (md_ibn (L := cd_alen 103) h (by decide)), nI_clamp (by omega)]
theorem c_ld104 {s : cd_S} {o i : Nat} (h : i < 24) : cldA s 104 o (nI i) = some (cAr s 104 o i) := by
  unfold cldA; rw [if_pos (md_ibn (L := cd_alen 104) h (by decide)), nI_clamp (by omega)]
theorem c_st104 {s : cd_S} {o i : Nat} {v : Int32} (h : i < 24) : cstA s 104 o (nI i) v = some (cSA s 104 o i v) := by
  unfold cstA; rw [if_pos (md_ibn (L := cd_alen 104) h (by decide)), nI_clamp (by omega)]
theorem c_ld132 {s : cd_S} {o i : Nat} (h : i < 12) : cldL s 132 o (nI i) = some (cLr s 132 o i) := by
  unfold cldL; rw [if_pos (md_ibn (L := cd_alen 132) h (by decide)), nI_clamp (by omega)]
theorem c_st132 {s : cd_S} {o i : Nat} {v : Int64} (h : i < 12) : cstL s 132 o (nI i) v = some (cSL s 132 o i v) := by
  unfold cstL; rw [if_pos (md_ibn (L := cd_alen 132) h (by decide)), nI_clamp (by omega)]
theorem c_ld133 {s : cd_S} {o i : Nat} (h : i < 12) : cldA s 133 o (nI i) = some (cAr s 133 o i) := by
  unfold cldA; rw [if_pos (md_ibn (L := cd_alen 133) h (by decide)), nI_clamp (by omega)]
theorem c_st133 {s : cd_S} {o i : Nat} {v : Int32} (h : i < 12) : cstA s 133 o (nI i) v = some (cSA s 133 o i v) := by
  unfold cstA; rw [if_pos (md_ibn (L := cd_alen 133) h (by decide)), nI_clamp (by omega)]
theorem c_ld161 {s : cd_S} {o i : Nat} (h : i < 5) : cldL s 161 o (nI i) = some (cLr s 161 o i) := by
  unfold cldL; rw [if_pos (md_ibn (L := cd_alen 161) h (by decide)), nI_clamp (by omega)]
theorem c_st161 {s : cd_S} {o i : Nat} {v : Int64} (h : i < 5) : cstL s 161 o (nI i) v = some (cSL s 161 o i v) := by
  unfold cstL; rw [if_pos (md_ibn (L := cd_alen 161) h (by decide)), nI_clamp (by omega)]
theorem c_ld224 {s : cd_S} {o i : Nat} (h : i < 60) : cldA s 224 o (nI i) = some (cAr s 224 o i) := by
  unfold cldA; rw [if_pos (md_ibn (L := cd_alen 224) h (by decide)), nI_clamp (by omega)]
theorem c_st224 {s : cd_S} {o i : Nat} {v : Int32} (h : i < 60) : cstA s 224 o (nI i) v = some (cSA s 224 o i v) := by
  unfold cstA; rw [if_pos (md_ibn (L := cd_alen 224) h (by decide)), nI_clamp (by omega)]
theorem c_ld225 {s : cd_S} {o i : Nat} (h : i < 60) : cldA s 225 o (nI i) = some (cAr s 225 o i) := by
  unfold cldA; rw [if_pos (md_ibn (L := cd_alen 225) h (by decide)), nI_clamp (by omega)]
theorem c_st225 {s : cd_S} {o i : Nat} {v : Int32} (h : i < 60) : cstA s 225 o (nI i) v = some (cSA s 225 o i v) := by
  unfold cstA; rw [if_pos (md_ibn (L := cd_alen 225) h (by decide)), nI_clamp (by omega)]
theorem c_ld226 {s : cd_S} {o i : Nat} (h : i < 60) : cldA s 226 o (nI i) = some (cAr s 226 o i) := by
  unfold cldA; rw [if_pos (md_ibn (L := cd_alen 226) h (by decide)), nI_clamp (by omega)]
theorem c_st226 {s : cd_S} {o i : Nat} {v : Int32} (h : i < 60) : cstA s 226 o (nI i) v = some (cSA s 226 o i v) := by
  unfold cstA; rw [if_pos (md_ibn (L := cd_alen 226) h (by decide)), nI_clamp (by omega)]
theorem c_ld227 {s : cd_S} {o i : Nat} (h : i < 60) : cldA s 227 o (nI i) = some (cAr s 227 o i) := by
  unfold cldA; rw [if_pos (md_ibn (L := cd_alen 227) h (by decide)), nI_clamp (by omega)]
theorem c_st227 {s : cd_S} {o i : Nat} {v : Int32} (h : i < 60) : cstA s 227 o (nI i) v = some (cSA s 227 o i v) := by
  unfold cstA; rw [if_pos (md_ibn (L := cd_alen 227) h (by decide)), nI_clamp (by omega)]
theorem c_ld228 {s : cd_S} {o i : Nat} (h : i < 60) : cldA s 228 o (nI i) = some (cAr s 228 o i) := by
  unfold cldA; rw [if_pos (md_ibn (L := cd_alen 228) h (by decide)), nI_clamp (by omega)]
theorem c_st228 {s : cd_S} {o i : Nat} {v : Int32} (h : i < 60) : cstA s 228 o (nI i) v = some (cSA s 228 o i v) := by
  unfold cstA; rw [if_pos (md_ibn (L := cd_alen 228) h (by decide)), nI_clamp (by omega)]
theorem c_ld229 {s : cd_S} {o i : Nat} (h : i < 60) : cldA s 229 o (nI i) = some (cAr s 229 o i) := by
  unfold cldA; rw [if_pos (md_ibn (L := cd_alen 229) h (by decide)), nI_clamp (by omega)]
theorem c_st229 {s : cd_S} {o i : Nat} {v : Int32} (h : i < 60) : cstA s 229 o (nI i) v = some (cSA s 229 o i v) := by
  unfold cstA; rw [if_pos (md_ibn (L := cd_alen 229) h (by decide)), nI_clamp (by omega)]
theorem c_ld257 {s : cd_S} {o i : Nat} (h : i < 60) : cldA s 257 o (nI i) = some (cAr s 257 o i) := by
  unfold cldA; rw [if_pos (md_ibn (L := cd_alen 257) h (by decide)), nI_clamp (by omega)]
theorem c_st257 {s : cd_S} {o i : Nat} {v : Int32} (h : i < 60) : cstA s 257 o (nI i) v = some (cSA s 257 o i v) := by
  unfold cstA; rw [if_pos (md_ibn (L := cd_alen 257) h (by decide)), nI_clamp (by omega)]
theorem c_ld300 {s : cd_S} {o i : Nat} (h : i < 13) : cldA s 300 o (nI i) = some (cAr s 300 o i) := by
  unfold cldA; rw [if_pos (md_ibn (L := cd_alen 300) h (by decide)), nI_clamp (by omega)]
theorem c_st300 {s : cd_S} {o i : Nat} {v : Int32} (h : i < 13) : cstA s 300 o (nI i) v = some (cSA s 300 o i v) := by
  unfold cstA; rw [if_pos (md_ibn (L := cd_alen 300) h (by decide)), nI_clamp (by omega)]
theorem c_ld320 {s : cd_S} {o i : Nat} (h : i < 23) : cldL s 320 o (nI i) = some (cLr s 320 o i) := by
  unfold cldL; rw [if_pos (md_ibn (L := cd_alen 320) h (by decide)), nI_clamp (by omega)]
theorem c_st320 {s : cd_S} {o i : Nat} {v : Int64} (h : i < 23) : cstL s 320 o (nI i) v = some (cSL s 320 o i v) := by
  unfold cstL; rw [if_pos (md_ibn (L := cd_alen 320) h (by decide)), nI_clamp (by omega)]
theorem c_ld352 {s : cd_S} {o i : Nat} (h : i < 3000) : cldA s 352 o (nI i) = some (cAr s 352 o i) := by
  unfold cldA; rw [if_pos (md_ibn (L := cd_alen 352) h (by decide)), nI_clamp (by omega)]
theorem c_st352 {s : cd_S} {o i : Nat} {v : Int32} (h : i < 3000) : cstB s 352 o (nI i) v = some (cSA s 352 o i (vp_nar .byte v)) := by
  unfold cstB; rw [if_pos (md_ibn (L := cd_alen 352) h (by decide)), nI_clamp (by omega)]
theorem c_ldF {s : cd_S} {r i : Nat} (h : i < cRC s r) (hL : cRC s r < 2 ^ 31) : cldF s r (nI i) = some (cRF s r i) := by
  unfold cldF; rw [if_pos (md_ibn h hL), nI_clamp (by omega)]
theorem c_stF {s : cd_S} {r i : Nat} {v : Int64} (h : i < cRC s r) (hL : cRC s r < 2 ^ 31) : cstF s r (nI i) v = some (cSF s r i v) := by
  unfold cstF; rw [if_pos (md_ibn h hL), nI_clamp (by omega)]
