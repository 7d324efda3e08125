/-! readers in step: what both see, and faults -/
abbrev Th : Type := (Int32 × cd_S × cd_B) ⊕ (cd_S × cd_B)
def tbud (q : Th) : cd_B := Sum.elim (fun (p : Int32 × cd_S × cd_B) => p.2.2) (fun (t : cd_S × cd_B) => t.2) q
/-- the model has a fault -/
def NF (m : md_S) (k pl : Nat) : Prop := mI m 6 = nI k ∧ 1 ≤ k ∧ k ≤ 5 ∧ mI m 7 = nI pl
theorem NF.ne {m : md_S} {k pl : Nat} (h : NF m k pl) : ¬ mI m 6 = 0 := fun z => by
  have := (nI_eq (b := 0) (by have := h.2.2.1; omega) (by decide)).mp (h.1.symm.trans z)
  have := h.2.1
  omega
theorem NF.fr {m m' : md_S} {k pl : Nat} {L : List Nat} (h : NF m k pl) (hf : md_fr L m m') (h6 : 6 ∉ L) (h7 : 7 ∉ L) : NF m' k pl := ⟨(md_frI hf h6).trans h.1, h.2.1, h.2.2.1, (md_frI hf h7).trans h.2.2.2⟩
theorem m_fine (n : Nat) (m : md_S) : f_X12_isFine n m = some (if mI m 6 = 0 then 1 else 0, m) := by
  unfold f_X12_isFine; split <;> rfl
theorem nf_isFine {n : Nat} {m : md_S} {k pl : Nat} (h : NF m k pl) : f_X12_isFine n m = some (0, m) := by rw [m_fine, if_neg h.ne]
theorem nf_next {n : Nat} {m : md_S} {k pl : Nat} (h : NF m k pl) : f_X12_next n m = some (0, m) := by
  unfold f_X12_next; rw [nf_isFine h, bs_some]; rfl
theorem nf_isSign {n : Nat} {m : md_S} {k pl : Nat} (h : NF m k pl) (s : Int32) : f_X12_isSign n m s = some (0, m) := by
  unfold f_X12_isSign; rw [nf_isFine h, bs_some]; rfl
theorem nf_isKey {n : Nat} {m : md_S} {k pl : Nat} (h : NF m k pl) (s : Int32) : f_X12_isKey n m s = some (0, m) := by
  unfold f_X12_isKey; rw [nf_isFine h, bs_some]; rfl
theorem nf_sign {n : Nat} {m : md_S} {k pl : Nat} (h : NF m k pl) (s : Int32) : f_X12_sign n m s = some (0, m) := by
  unfold f_X12_sign; rw [nf_isSign h, bs_some]; dsimp only; rw [if_pos rfl, nf_isFine h, bs_some]; rfl
theorem nf_key {n : Nat} {m : md_S} {k pl : Nat} (h : NF m k pl) (s : Int32) : f_X12_key n m s = some (0, m) := by
  unfold f_X12_key; rw [nf_isKey h, bs_some]; dsimp only; rw [if_pos rfl, nf_isFine h, bs_some]; rfl
theorem nf_isName {n : Nat} {m : md_S} {k pl : Nat} (h : NF m k pl) : f_X12_isName n m = some (0, m) := by
  unfold f_X12_isName f_X12_isName_J19; rw [nf_isFine h, bs_some]; dsimp only; rw [if_pos rfl, nf_isFine h, bs_some]; rfl
theorem nf_pattern {n : Nat} {m : md_S} {k pl : Nat} (h : NF m k pl) (p q : Int32) : f_X12_pattern n m p q = some (0, m) := by
  unfold f_X12_pattern; rw [nf_isFine h, bs_some]; rfl
def mN (m : md_S) (k : Nat) : Nat := (mI m k).toNatClampNeg
theorem mN_of {m : md_S} {k a : Nat} (h : mI m k = nI a) (ha : a < 2 ^ 31) : mN m k = a := by rw [mN, h, nI_clamp ha]
theorem mN_fr {L : List Nat} {s t : md_S} (h : md_fr L s t) {k : Nat} (hk : k ∉ L) : mN t k = mN s k := by rw [mN, mN, md_frI h hk]
def aN (m : md_S) (k i : Nat) : Nat := (mA m k i).toNatClampNeg
theorem aN_of {m : md_S} {k i a : Nat} (h : mA m k i = nI a) (ha : a < 2 ^ 31) : aN m k i = a := by rw [aN, h, nI_clamp ha]
/-- unit u has variable v: its own, or captured -/
def OC (m : md_S) (u v : Nat) : Prop := aN m 51 v = u ∨ ∃ y, y < aN m 44 u ∧ aN m 45 (16 * u + y) = v
/-- what a unit has captured its parent has -/
def PC (m : md_S) : Prop := ∀ q, q < mN m 35 → mA m 36 q ≠ 0 → ∀ x, x < aN m 44 q → OC m (aN m 40 q) (aN m 45 (16 * q + x))
theorem PC.fr {m m' : md_S} {L : List Nat} (h : PC m) (hf : md_fr L m m') (hL : ∀ x, x ∈ [35, 36, 40, 44, 45, 51] → x ∉ L) : PC m' := by
  unfold PC OC aN
  rw [mN_fr hf (hL 35 (by decide))]
  simp only [md_frA hf (hL 36 (by decide)), md_frA hf (hL 40 (by decide)), md_frA hf (hL 44 (by decide)), md_frA hf (hL 45 (by decide)), md_frA hf (hL 51 (by decide))]
  exact h
/-- how many lets a unit may have, by the place in the text -/
def P7 (z : Nat) (m : md_S) (f : Nat) : Prop := ∀ i, i < mN m 35 → 7 * aN m 46 i ≤ f + z
theorem P7.fr {z f : Nat} {m m' : md_S} {L : List Nat} (h : P7 z m f) (hf : md_fr L m m') (h35 : 35 ∉ L) (h46 : 46 ∉ L) : P7 z m' f := fun i hi => by
  rw [mN_fr hf h35] at hi
  rw [aN, md_frA hf h46]
  exact h i hi
theorem P7.le {z z' f f' : Nat} {m : md_S} (h : P7 z m f) (hl : f + z ≤ f' + z') : P7 z' m f' := fun i hi => Nat.le_trans (h i hi) hl
theorem P7.beg {z f u : Nat} {m m' : md_S} (h : P7 z m f) (hu : mN m 35 = u) (h35 : mN m' 35 = u + 1) (ho : ∀ i, i ≠ u → mA m' 46 i = mA m 46 i) (h0 : mA m' 46 u = 0) : P7 z m' f := fun i hi => by
  by_cases q : i = u
  · rw [q, aN, h0]; exact Nat.zero_le _
  · rw [aN, ho i q]; exact h i (by omega)
/-- what both readers look at: word w, then those of L; nothing is at fault -/
def LX (B : Nat → Int32) (N : Nat) (c : cd_S) (m : md_S) (w : WD) (L : List WD) : Prop :=
  WS c w L ∧ (rL c 0).length < 15000 ∧ RowOk c 0 ∧ RowOk c 1 ∧ MW m w ∧ (mI m 6 = 0 ∧ mI m 7 = -1 ∧ PC m ∧ P7 (N / 2048) m (wF w)) ∧ MT m B (N % 2048) ∧ mI m 16 = nI 4 ∧ TB B (N % 2048) ∧ N % 2048 ≤ 1280 ∧ ∃ p A, p ≤ N % 2048 ∧ Wch B (N % 2048) 4 p A.length (w :: L) ∧ rL c 1 = A ++ (w :: L).flatMap wP
/-- the class looks at what is no word, at place pl -/
def BW (c : cd_S) (pl : Nat) : Prop := cI c 328 0 = 1 ∧ cI c 329 0 = nI pl
theorem LX.frq {B : Nat → Int32} {N : Nat} {c c' : cd_S} {m m' : md_S} {w : WD} {L : List WD} {F R G : List Nat} (h : LX B N c m w L) (hc : cd_fr F R c c') (hm : md_fr G m m') (h1 : ∀ x, x ∈ [327, 328, 329, 330] → x ∉ F) (h2 : ∀ x, x ∈ [0, 1] → x ∉ R) (h3 : ∀ x, x ∈ [3, 4, 6, 7, 8, 9, 10, 11, 12, 13, 14, 15, 16] → x ∉ G) (hp : PC m') (h7 : P7 (N / 2048) m' (wF w)) : LX B N c' m' w L := by
  obtain ⟨a1, a2, a3, a4, a5, a6, a7, a8, a9, a10, p, A, a11, a12, a13⟩ := h
  refine ⟨?_, by rw [rL_fr hc (h2 0 (by decide))]; exact a2, a3.of (cd_frz hc (h2 0 (by decide))) (cd_frC hc (h2 0 (by decide))), a4.of (cd_frz hc (h2 1 (by decide))) (cd_frC hc (h2 1 (by decide))), a5.of hm (fun k hk => h3 k (by simp at hk; simp; omega)), ⟨(md_frI hm (h3 6 (by decide))).trans a6.1, (md_frI hm (h3 7 (by decide))).trans a6.2.1, hp, h7⟩, a7.of hm (h3 3 (by decide)) (h3 4 (by decide)), (md_frI hm (h3 16 (by decide))).trans a8, a9, a10, p, A, a11, a12, by rw [rL_fr hc (h2 1 (by decide))]; exact a13⟩
  obtain ⟨pre, q1, q2, q3, q4, q5, q6⟩ := a1
  exact ⟨pre, by rw [rL_fr hc (h2 0 (by decide))]; exact q1, q2, (cd_frI hc (h1 327 (by decide)) (by decide) _).trans q3, (cd_frI hc (h1 328 (by decide)) (by decide) _).trans q4, (cd_frI hc (h1 329 (by decide)) (by decide) _).trans q5, (cd_frJ hc (h1 330 (by decide)) (by decide) _).trans q6⟩
theorem LX.pc {B : Nat → Int32} {N : Nat} {c : cd_S} {m : md_S} {w : WD} {L : List WD} (h : LX B N c m w L) : PC m := h.2.2.2.2.2.1.2.2.1
theorem LX.p7 {B : Nat → Int32} {N : Nat} {c : cd_S} {m : md_S} {w : WD} {L : List WD} (h : LX B N c m w L) : P7 (N / 2048) m (wF w) := h.2.2.2.2.2.1.2.2.2
theorem LX.frp {B : Nat → Int32} {N : Nat} {c c' : cd_S} {m m' : md_S} {w : WD} {L : List WD} {F R G : List Nat} (h : LX B N c m w L) (hc : cd_fr F R c c') (hm : md_fr G m m') (h1 : ∀ x, x ∈ [327, 328, 329, 330] → x ∉ F) (h2 : ∀ x, x ∈ [0, 1] → x ∉ R) (h3 : ∀ x, x ∈ [3, 4, 6, 7, 8, 9, 10, 11, 12, 13, 14, 15, 16, 35, 46] → x ∉ G) (hp : PC m') : LX B N c' m' w L :=
  h.frq hc hm h1 h2 (fun x hx => h3 x (by revert hx; revert x; decide)) hp (h.p7.fr hm (h3 35 (by decide)) (h3 46 (by decide)))
theorem LX.fr {B : Nat → Int32} {N : Nat} {c c' : cd_S} {m m' : md_S} {w : WD} {L : List WD} {F R G : List Nat} (h : LX B N c m w L) (hc : cd_fr F R c c') (hm : md_fr G m m') (h1 : ∀ x, x ∈ [327, 328, 329, 330] → x ∉ F) (h2 : ∀ x, x ∈ [0, 1] → x ∉ R) (h3 : ∀ x, x ∈ [3, 4, 6, 7, 8, 9, 10, 11, 12, 13, 14, 15, 16, 35, 36, 40, 44, 45, 46, 51] → x ∉ G) : LX B N c' m' w L :=
  h.frp hc hm h1 h2 (fun x hx => h3 x (by revert hx; revert x; decide)) (h.pc.fr hm (fun x hx => h3 x (by revert hx; revert x; decide)))
theorem LX.k {B : Nat → Int32} {N : Nat} {c : cd_S} {m : md_S} {w : WD} {L : List WD} (h : LX B N c m w L) : cI c 328 0 = wK w ∧ cI c 329 0 = nI (wF w) ∧ cJ c 330 0 = wX w := by
  obtain ⟨pre, q1, q2, q3, q4, q5, q6⟩ := h.1
  exact ⟨q4, q5, q6⟩
theorem LX.mw {B : Nat → Int32} {N : Nat} {c : cd_S} {m : md_S} {w : WD} {L : List WD} (h : LX B N c m w L) : MW m w := h.2.2.2.2.1
theorem LX.fine {B : Nat → Int32} {N : Nat} {c : cd_S} {m : md_S} {w : WD} {L : List WD} (h : LX B N c m w L) : mI m 6 = 0 := h.2.2.2.2.2.1.1
theorem LX.plc {B : Nat → Int32} {N : Nat} {c : cd_S} {m : md_S} {w : WD} {L : List WD} (h : LX B N c m w L) : mI m 7 = -1 := h.2.2.2.2.2.1.2.1
theorem LX.v {B : Nat → Int32} {N : Nat} {c : cd_S} {m : md_S} {w : WD} {L : List WD} (h : LX B N c m w L) : wK w ∈ vks := h.mw.1
/-- another allowance -/
theorem LX.z {B : Nat → Int32} {N N' : Nat} {c : cd_S} {m : md_S} {w : WD} {L : List WD} (h : LX B N c m w L) (e : N' % 2048 = N % 2048) (h7 : P7 (N' / 2048) m (wF w)) : LX B N' c m w L := by
  obtain ⟨a1, a2, a3, a4, a5, a6, a7, a8, a9, a10, p, A, a11, a12, a13⟩ := h
  exact ⟨a1, a2, a3, a4, a5, ⟨a6.1, a6.2.1, a6.2.2.1, h7⟩, by rw [e]; exact a7, a8, by rw [e]; exact a9, by rw [e]; exact a10, p, A, by rw [e]; exact a11, by rw [e]; exact a12, a13⟩
/-- how long some words are -/
theorem Tok_len {B : Nat → Int32} {N ms p kept : Nat} {k : Int32} {f q : Nat} {x : Int64} {PS : List Int64} (h : Tok B N ms p kept k f q x PS) : (k = 213 → f + 3 ≤ q) ∧ (k = 214 → f + 2 ≤ q) ∧ (k = 219 → f + 5 ≤ q) := by
  obtain ⟨h1, h2, t | t | t | t | t⟩ := h
  · rw [t.2.1]
    exact ⟨fun y => absurd y (by decide), fun y => absurd y (by decide), fun y => absurd y (by decide)⟩
  · obtain ⟨t1, t2, t3, t4, t5, t6⟩ := t
    have hb := alE_b B (N - f) f
    rw [← t3] at hb
    by_cases q8 : q - f ≤ 8
    · rw [if_pos q8] at t5
      have hA : ∀ i, f ≤ i → i < f + (q - f) → isA (B i) := fun i a b => alE_al B (N - f) f i a (by rw [← t3]; omega)
      have e1 := c64_N B (q - f) f [] hA (fun _ y => absurd y (by simp)) (by simpa using q8)
      have hx : x = lN (vr 64 (dgl B (q - f) f [])) := by rw [t4]; exact e1
      have hd := dgl_dgs B (q - f) f [] hA (fun _ y => absurd y (by simp))
      have hl : (dgl B (q - f) f []).length = q - f := by rw [dgl_len]; rfl
      have key : ∀ i, i < 23 → k = nI (210 + i) → (kwl.getD i []).length = q - f := by
        intro i hi hk
        unfold kwk at t5
        split at t5
        · rename_i hz
          have e2 : i = kwx x 23 0 := by
            have := (nI_eq (by omega) (by omega)).mp (hk.symm.trans t5)
            omega
          have e3 := (kwx_some (k := 23) (i := 0) (by omega) hz).2.2
          rw [← e2, hx] at e3
          have g1 : ∀ i : Fin 23, (kwl.getD i.val []).length ≤ 8 := by decide
          have g2 : ∀ i : Fin 23, ∀ d ∈ kwl.getD i.val [], 1 ≤ d ∧ d ≤ 36 := by decide
          have a1 := vr64_lt (g1 ⟨i, hi⟩) (g2 ⟨i, hi⟩)
          have a2 := vr64_lt (by rw [hl]; exact q8) hd
          have e4 := vr_inj (β := 64) (by decide) _ _ (g2 ⟨i, hi⟩) hd (lN_inj (by omega) (by omega) e3)
          rw [← hl, ← e4]
        · rw [hk] at t5
          exact absurd ((nI_eq (b := 2) (by omega) (by decide)).mp t5) (by omega)
      refine ⟨fun y => ?_, fun y => ?_, fun y => ?_⟩
      · have := key 3 (by decide) y
        rw [show (kwl.getD 3 []).length = 3 from rfl] at this
        omega
      · have := key 4 (by decide) y
        rw [show (kwl.getD 4 []).length = 2 from rfl] at this
        omega
      · have := key 9 (by decide) y
        rw [show (kwl.getD 9 []).length = 5 from rfl] at this
        omega
    · exact ⟨fun _ => by omega, fun _ => by omega, fun _ => by omega⟩
  · obtain ⟨t1, t2, t3, t4, t5, t6⟩ := t
    rw [t5]
    split
    · exact ⟨fun y => absurd y (by decide), fun y => absurd y (by decide), fun y => absurd y (by decide)⟩
    · exact ⟨fun y => absurd y (by decide), fun y => absurd y (by decide), fun y => absurd y (by decide)⟩
  · obtain ⟨t1, t2, t3, t4, t5, t6⟩ := t
    rw [t5]
    split
    · exact ⟨fun y => absurd y (by decide), fun y => absurd y (by decide), fun y => absurd y (by decide)⟩
    · exact ⟨fun y => absurd y (by decide), fun y => absurd y (by decide), fun y => absurd y (by decide)⟩
  · obtain ⟨t1, t2, t3, t4, t5, t6, t7⟩ := t
    have hn : ∀ c : Int32, isS c → c ≠ 213 ∧ c ≠ 214 ∧ c ≠ 219 := by
      intro c hc
      rcases hc with rfl | rfl | rfl | rfl | rfl | rfl | rfl | rfl | rfl | rfl | rfl | rfl | rfl | rfl | rfl <;> decide
    rw [t6]
    split
    · split
      · exact ⟨fun y => absurd y (by decide), fun y => absurd y (by decide), fun y => absurd y (by decide)⟩
      · exact ⟨fun y => absurd y (by decide), fun y => absurd y (by decide), fun y => absurd y (by decide)⟩
    · split
      · rename_i z
        exact ⟨fun y => absurd y (hn _ z).1, fun y => absurd y (hn _ z).2.1, fun y => absurd y (hn _ z).2.2⟩
      · exact ⟨fun y => absurd y (by decide), fun y => absurd y (by decide), fun y => absurd y (by decide)⟩
/-- where the next word stands -/
theorem LX.nxt {B : Nat → Int32} {N : Nat} {c : cd_S} {m : md_S} {w w1 : WD} {L : List WD} (h : LX B N c m w (w1 :: L)) : (wK w = 213 → wF w + 3 ≤ wF w1) ∧ (wK w = 214 → wF w + 2 ≤ wF w1) ∧ (wK w = 219 → wF w + 5 ≤ wF w1) := by
  obtain ⟨a1, a2, a3, a4, a5, a6, a7, a8, a9, a10, p, A, a11, ⟨t, rest⟩, a13⟩ := h
  rcases rest with ⟨z, -⟩ | ⟨-, -, wch⟩
  · exact absurd z (by simp)
  · obtain ⟨v1, v2, v3, -⟩ := Tok_adv a9 a11 t
    have g := (Tok_adv a9 v3 wch.1).1
    have hl := Tok_len t
    exact ⟨fun y => Nat.le_trans (hl.1 y) g, fun y => Nat.le_trans (hl.2.1 y) g, fun y => Nat.le_trans (hl.2.2 y) g⟩
theorem LX.wf {B : Nat → Int32} {N : Nat} {c : cd_S} {m : md_S} {w : WD} {L : List WD} (h : LX B N c m w L) : wF w ≤ 1280 := by
  obtain ⟨a1, a2, a3, a4, a5, a6, a7, a8, a9, a10, p, A, a11, ⟨t, rest⟩, a13⟩ := h
  obtain ⟨v1, v2, v3, -⟩ := Tok_adv a9 a11 t
  omega
/-- and the one two behind -/
theorem LX.nxt3 {B : Nat → Int32} {N : Nat} {c : cd_S} {m : md_S} {w w1 w2 w3 : WD} {L : List WD} (h : LX B N c m w (w1 :: w2 :: w3 :: L)) : (wK w = 213 → wF w + 5 ≤ wF w3) ∧ (wK w = 219 → wF w + 7 ≤ wF w3) := by
  obtain ⟨a1, a2, a3, a4, a5, a6, a7, a8, a9, a10, p, A, a11, ⟨t, rest⟩, a13⟩ := h
  rcases rest with ⟨z, -⟩ | ⟨-, -, t1, rest1⟩
  · exact absurd z (by simp)
  · rcases rest1 with ⟨z, -⟩ | ⟨-, k1, t2, rest2⟩
    · exact absurd z (by simp)
    · rcases rest2 with ⟨z, -⟩ | ⟨-, k2, t3, -⟩
      · exact absurd z (by simp)
      · obtain ⟨v1, v2, v3, -⟩ := Tok_adv a9 a11 t
        obtain ⟨x1, x2, x3, x4, -⟩ := Tok_adv a9 v3 t1
        obtain ⟨y1, y2, y3, y4, -⟩ := Tok_adv a9 x3 t2
        have g := (Tok_adv a9 y3 t3).1
        have hl := Tok_len t
        have g1 := (x4 k1).1
        have g2 := (y4 k2).1
        exact ⟨fun y => by have := hl.1 y; omega, fun y => by have := hl.2.2 y; omega⟩
/-- behind a step to the next word: both see it, or it is no word -/
def AD (B : Nat → Int32) (N : Nat) (c : cd_S) (m : md_S) (L : List WD) : Prop := ∃ w' L', L = w' :: L' ∧ (LX B N c m w' L' ∨ (BW c (wF w') ∧ NF m 1 (wF w')))
/-- Words.advance and next -/
theorem adv_ok {n : Nat} {B : Nat → Int32} {N : Nat} {c : cd_S} {m : md_S} {w : WD} {L : List WD} (hn : 5000 ≤ n) (h : LX B N c m w L) (hk : wK w ≠ 0) : ∃ c' m', f_X10_advance n c = some (0, c') ∧ f_X12_next n m = some (0, m') ∧ cd_fr [327, 328, 329, 330] [] c c' ∧ md_fr [6, 7, 8, 9, 10, 11, 12, 13, 14, 15] m m' ∧ AD B N c' m' L ∧ (mI m' 6 = 0 → mI m' 7 = mI m 7) := by
  have hv := h.v
  obtain ⟨a1, a2, a3, a4, a5, a6, a7, a8, a9, a10, p, A, a11, ⟨t, rest⟩, a13⟩ := h
  have h1 : wK w ≠ 1 := fun z => by rw [z] at hv; exact absurd hv (by decide)
  rcases rest with ⟨-, z⟩ | ⟨hL, -, wch⟩
  · exact absurd z (fun y => y.elim hk h1)
  cases L with
  | nil => exact absurd rfl hL
  | cons w' L' =>
  obtain ⟨v1, v2, v3, v4, v5⟩ := Tok_adv a9 a11 t
  obtain ⟨c', e1, e2, e3⟩ := c_advance (n := n) a3 a1 a2
  obtain ⟨t', rest'⟩ := wch
  obtain ⟨m', f1, f2, f3, f4⟩ := m_next (n := n) (m := m) a9 hn (by decide) v3 a7 a6.1 a5.2.2.2.2.1 a8 t'
  refine ⟨c', m', e1, f1, e3, f2, ⟨w', L', rfl, ?_⟩, fun z => ?_⟩
  · by_cases hb : wK w' = 1
    · right
      obtain ⟨g1, g2, g3⟩ := f3 hb
      obtain ⟨pre, q1, q2, q3, q4, q5, q6⟩ := e2
      exact ⟨⟨q4.trans hb, q5⟩, g1, by decide, by decide, g2⟩
    · left
      obtain ⟨g1, g2, g3⟩ := f4 hb
      refine ⟨e2, by rw [rL_fr e3 (by simp)]; exact a2, a3.of (cd_frz e3 (by simp)) (cd_frC e3 (by simp)), a4.of (cd_frz e3 (by simp)) (cd_frC e3 (by simp)), g3, ⟨g1, g2.trans a6.2.1, a6.2.2.1.fr f2 (by decide), (a6.2.2.2.fr f2 (by decide) (by decide)).le (by have := (Tok_adv a9 v3 t').1; omega)⟩, a7.of f2 (by decide) (by decide), by rw [md_frI f2 (by decide)]; exact a8, a9, a10, wQ w, A ++ wP w, v3, ?_, ?_⟩
      · rw [List.length_append]; exact ⟨t', rest'⟩
      · rw [rL_fr e3 (by simp), a13, List.flatMap_cons, List.append_assoc]
  · by_cases hb : wK w' = 1
    · exact absurd (z.symm.trans (f3 hb).1) (by decide)
    · exact (f4 hb).2.1
theorem m_isSign {n : Nat} {m : md_S} {w : WD} (h6 : mI m 6 = 0) (hw : MW m w) {s sk : Int32} (hs : ∀ k, k ∈ vks → ((mWd k = 5 ∧ mVl k = s) ↔ k = sk)) : f_X12_isSign n m s = some (if wK w = sk then 1 else 0, m) := by
  have hs := hs _ hw.1
  unfold f_X12_isSign
  rw [m_fine, bs_some, if_pos h6]
  dsimp only
  rw [if_neg (by decide), hw.2.1]
  by_cases q5 : mWd (wK w) = 5
  · rw [if_pos q5, hw.2.2.1 (Or.inr q5)]
    by_cases qs : mVl (wK w) = s
    · rw [if_pos qs, if_pos (hs.mp ⟨q5, qs⟩)]
    · rw [if_neg qs, if_neg (fun z => qs (hs.mpr z).2)]
  · rw [if_neg q5, if_neg (fun z => q5 (hs.mpr z).1)]
theorem m_isKey {n : Nat} {m : md_S} {w : WD} (h6 : mI m 6 = 0) (hw : MW m w) {s sk : Int32} (hs : ∀ k, k ∈ vks → ((mWd k = 2 ∧ mVl k = s) ↔ k = sk)) : f_X12_isKey n m s = some (if wK w = sk then 1 else 0, m) := by
  have hs := hs _ hw.1
  unfold f_X12_isKey
  rw [m_fine, bs_some, if_pos h6]
  dsimp only
  rw [if_neg (by decide), hw.2.1]
  by_cases q5 : mWd (wK w) = 2
  · rw [if_pos q5, hw.2.2.1 (Or.inl q5)]
    by_cases qs : mVl (wK w) = s
    · rw [if_pos qs, if_pos (hs.mp ⟨q5, qs⟩)]
    · rw [if_neg qs, if_neg (fun z => qs (hs.mpr z).2)]
  · rw [if_neg q5, if_neg (fun z => q5 (hs.mpr z).1)]
/-- a fault told by the model -/
theorem m_failsAt {n : Nat} {m : md_S} {k pl : Nat} (h : mI m 6 = 0) (hk : 1 ≤ k) (hk5 : k ≤ 5) : ∃ m', f_X12_failsAt n m (nI k) (nI pl) = some (0, m') ∧ md_fr [6, 7, 8] m m' ∧ NF m' k pl := by
  refine ⟨mSI (mSI (mSI m 6 (nI k)) 7 (nI pl)) 8 0, ?_, md_fr_SI (md_fr_SI (md_fr_SI (md_fr_refl _ _) (by decide) _) (by decide) _) (by decide) _, ?_, hk, hk5, ?_⟩
  · unfold f_X12_failsAt f_X12_failsAt_J17
    rw [if_pos h, bs_some, bs_some, bs_some]
  · rw [mI_SIo (by decide), mI_SIo (by decide), mI_SIe]
  · rw [mI_SIo (by decide), mI_SIe]
theorem m_misfit {n : Nat} {B : Nat → Int32} {N : Nat} {c : cd_S} {m : md_S} {w : WD} {L : List WD} (h : LX B N c m w L) : ∃ m', f_X12_misfit n m = some (0, m') ∧ md_fr [6, 7, 8] m m' ∧ NF m' 1 (wF w) := by
  obtain ⟨m', e1, e2, e3⟩ := m_failsAt (n := n) (k := 1) (pl := wF w) h.fine (by decide) (by decide)
  refine ⟨m', ?_, e2, e3⟩
  have hw := h.mw
  unfold f_X12_misfit f_X12_misfit_J20
  by_cases q : mI m 8 = 0
  · have hz : ∀ k ∈ vks, mWd k = 0 → k = 0 := by decide
    have hk0 : wK w = 0 := hz _ hw.1 (hw.2.1.symm.trans q)
    obtain ⟨a1, a2, a3, a4, a5, a6, a7, a8, a9, a10, p, A, a11, ⟨t, rest⟩, a13⟩ := h
    have hN : wF w = N % 2048 := (Tok_kind t).1 hk0
    rw [if_pos q, a7.1, ← hN, show f_X12_failsAt n m 1 (nI (wF w)) = _ from e1, bs_some]
  · rw [if_neg q, hw.2.2.2.1, show f_X12_failsAt n m 1 (nI (wF w)) = _ from e1, bs_some]
theorem m_failsW {n : Nat} {B : Nat → Int32} {N : Nat} {c : cd_S} {m : md_S} {w : WD} {L : List WD} {k : Nat} (h : LX B N c m w L) (hk : 1 ≤ k) (hk5 : k ≤ 5) : ∃ m', f_X12_fails n m (nI k) = some (0, m') ∧ md_fr [6, 7, 8] m m' ∧ NF m' k (wF w) := by
  obtain ⟨m', e1, e2, e3⟩ := m_failsAt (n := n) (k := k) (pl := wF w) h.fine hk hk5
  refine ⟨m', ?_, e2, e3⟩
  unfold f_X12_fails
  rw [h.mw.2.2.2.1, e1, bs_some]
/-- a fault told by the class -/
def THR (C : Nat × Nat) (c c' : cd_S) (b b' : cd_B) (k pl : Nat) : Prop := cI c' 139 0 = nI k ∧ cI c' 140 0 = nI pl ∧ Bd (C.1 - 1, C.2 - 6) c' b' ∧ b'.1 ≤ b.1 ∧ b'.2 ≤ b.2 ∧ cd_fr [139, 140] [] c c'
theorem c_refuse {n : Nat} {C : Nat × Nat} {c : cd_S} {b : cd_B} {k pl : Nat} (hC : BC C) (h : Bd C c b) : ∃ c' b', f_X4_refuse n c b (nI k) (nI pl) = some (Sum.inr (c', b')) ∧ THR C c c' b b' k pl := by
  obtain ⟨r1, r2⟩ := h.room hC
  refine ⟨cSI (cSI c 139 0 (nI k)) 140 0 (nI pl), (b.1 - 1, b.2 - 6), ?_, ?_, cI_SIe, ?_, Nat.sub_le _ _, Nat.sub_le _ _, cd_fr_SI (cd_fr_SI (cd_fr_refl _ _ _) (by decide) (by decide) _ _) (by decide) (by decide) _ _⟩
  · unfold f_X4_refuse
    refine c_ck ?_ (show b.1 - 1 ≤ b.1 from Nat.sub_le _ _) (show b.2 - 6 ≤ b.2 from Nat.sub_le _ _)
    rw [bs_some, bs_some]
    have : cd_use b 1 6 = some (b.1 - 1, b.2 - 6) := if_pos ⟨by omega, by omega⟩
    rw [this, bs_some]
  · rw [cI_SIo (by decide), cI_SIe]
  · have hB : Bd C (cSI (cSI c 139 0 (nI k)) 140 0 (nI pl)) b := (h.SI (by decide) _ _).SI (by decide) _ _
    refine ⟨hB.1, ?_, ?_⟩
    · have := hB.2.1; dsimp only; omega
    · have := hB.2.2; dsimp only; omega
theorem c_need0 {n : Nat} {C : Nat × Nat} {c : cd_S} {b : cd_B} {pl : Nat} (hC : BC C) (h : Bd C c b) (hp : cI c 329 0 = nI pl) : ∃ c' b', f_X4_need n c b 0 = some (Sum.inr (c', b')) ∧ THR C c c' b b' 1 pl := by
  obtain ⟨c', b', e1, e2⟩ := c_refuse (n := n) (k := 1) (pl := pl) hC h
  refine ⟨c', b', ?_, e2⟩
  unfold f_X4_need
  refine c_ck ?_ e2.2.2.2.1 e2.2.2.2.2.1
  rw [if_pos rfl, hp, show f_X4_refuse n c b 1 (nI pl) = _ from e1, bs_some]
  exact c_ck rfl (Nat.le_refl _) (Nat.le_refl _)
theorem c_need1 {n : Nat} {c : cd_S} {b : cd_B} : f_X4_need n c b 1 = some (Sum.inl (0, c, b)) := by
  unfold f_X4_need
  refine c_ck ?_ (Nat.le_refl _) (Nat.le_refl _)
  rw [if_neg (by decide)]
theorem c_room0 {n : Nat} {C : Nat × Nat} {c : cd_S} {b : cd_B} {pl : Nat} (hC : BC C) (h : Bd C c b) (hp : cI c 329 0 = nI pl) : ∃ c' b', f_X4_room n c b 0 = some (Sum.inr (c', b')) ∧ THR C c c' b b' 4 pl := by
  obtain ⟨c', b', e1, e2⟩ := c_refuse (n := n) (k := 4) (pl := pl) hC h
  refine ⟨c', b', ?_, e2⟩
  unfold f_X4_room
  refine c_ck ?_ e2.2.2.2.1 e2.2.2.2.2.1
  rw [if_pos rfl, hp, show f_X4_refuse n c b 4 (nI pl) = _ from e1, bs_some]
  exact c_ck rfl (Nat.le_refl _) (Nat.le_refl _)
theorem c_room1 {n : Nat} {c : cd_S} {b : cd_B} : f_X4_room n c b 1 = some (Sum.inl (0, c, b)) := by
  unfold f_X4_room
  refine c_ck ?_ (Nat.le_refl _) (Nat.le_refl _)
  rw [if_neg (by decide)]
theorem c_pass0 {n : Nat} {C : Nat × Nat} {c : cd_S} {b : cd_B} {pl : Nat} {k : Int32} (hC : BC C) (h : Bd C c b) (hp : cI c 329 0 = nI pl) (hk : cI c 328 0 ≠ k) : ∃ c' b', f_X4_pass n c b k = some (Sum.inr (c', b')) ∧ THR C c c' b b' 1 pl := by
  obtain ⟨c', b', e1, e2⟩ := c_need0 (n := n) hC h hp
  refine ⟨c', b', ?_, e2⟩
  unfold f_X4_pass f_X4_pass_J17
  refine c_ck ?_ e2.2.2.2.1 e2.2.2.2.2.1
  rw [if_neg hk, e1, bs_some]
  exact c_ck rfl (Nat.le_refl _) (Nat.le_refl _)
theorem c_pass1 {n : Nat} {c c' : cd_S} {b : cd_B} {k : Int32} (hk : cI c 328 0 = k) (ha : f_X10_advance n c = some (0, c')) : f_X4_pass n c b k = some (Sum.inl (0, c', b)) := by
  unfold f_X4_pass f_X4_pass_J17
  refine c_ck ?_ (Nat.le_refl _) (Nat.le_refl _)
  rw [if_pos hk, c_need1, bs_some]
  refine c_ck ?_ (Nat.le_refl _) (Nat.le_refl _)
  dsimp only [Sum.elim]
  rw [ha, bs_some]
theorem c_needName0 {n : Nat} {C : Nat × Nat} {c : cd_S} {b : cd_B} {pl : Nat} (hC : BC C) (h : Bd C c b) (hp : cI c 329 0 = nI pl) (hk : cI c 328 0 ≠ 2) : ∃ c' b', f_X4_needName n c b = some (Sum.inr (c', b')) ∧ THR C c c' b b' 1 pl := by
  obtain ⟨c', b', e1, e2⟩ := c_refuse (n := n) (k := 1) (pl := pl) hC h
  refine ⟨c', b', ?_, e2⟩
  unfold f_X4_needName
  refine c_ck ?_ e2.2.2.2.1 e2.2.2.2.2.1
  rw [if_neg hk, hp, show f_X4_refuse n c b 1 (nI pl) = _ from e1, bs_some]
  exact c_ck rfl (Nat.le_refl _) (Nat.le_refl _)
theorem c_needName1 {n : Nat} {c : cd_S} {b : cd_B} (hk : cI c 328 0 = 2) : f_X4_needName n c b = some (Sum.inl (0, c, b)) := by
  unfold f_X4_needName
  refine c_ck ?_ (Nat.le_refl _) (Nat.le_refl _)
  rw [if_pos hk]
/-- isName in step with needName -/
theorem m_isName {n : Nat} {B : Nat → Int32} {N : Nat} {c : cd_S} {m : md_S} {w : WD} {L : List WD} (h : LX B N c m w L) : (wK w = 2 ∧ f_X12_isName n m = some (1, m)) ∨ (wK w ≠ 2 ∧ ∃ m', f_X12_isName n m = some (0, m') ∧ md_fr [6, 7, 8] m m' ∧ NF m' 1 (wF w)) := by
  have hw := h.mw
  have hz : ∀ k ∈ vks, (mWd k = 1 ↔ k = 2) := by decide
  have hz := hz _ hw.1
  by_cases q : wK w = 2
  · left
    refine ⟨q, ?_⟩
    unfold f_X12_isName f_X12_isName_J19
    rw [m_fine, bs_some, if_pos h.fine]
    dsimp only
    rw [if_neg (by decide), hw.2.1, if_pos (hz.mpr q), m_fine, bs_some, if_pos h.fine]
    rfl
  · right
    obtain ⟨m', e1, e2, e3⟩ := m_misfit (n := n) h
    refine ⟨q, m', ?_, e2, e3⟩
    unfold f_X12_isName f_X12_isName_J19
    rw [m_fine, bs_some, if_pos h.fine]
    dsimp only
    rw [if_neg (by decide), hw.2.1, if_neg (fun z => q (hz.mp z)), e1, bs_some]
    dsimp only
    rw [nf_isFine e3, bs_some]
    rfl
/-- pass and sign (or key) in step -/
theorem pass_ok {n : Nat} {C : Nat × Nat} {B : Nat → Int32} {N : Nat} {c : cd_S} {m : md_S} {b : cd_B} {w : WD} {L : List WD} (hC : BC C) (hn : 5000 ≤ n) (hB : Bd C c b) (h : LX B N c m w L) {s sk : Int32} (hs : ∀ k, k ∈ vks → ((mWd k = 5 ∧ mVl k = s) ↔ k = sk)) (h0 : sk ≠ 0) :
    (wK w = sk ∧ ∃ c' m', f_X4_pass n c b sk = some (Sum.inl (0, c', b)) ∧ f_X12_sign n m s = some (0, m') ∧ cd_fr [327, 328, 329, 330] [] c c' ∧ md_fr [6, 7, 8, 9, 10, 11, 12, 13, 14, 15] m m' ∧ AD B N c' m' L ∧ (mI m' 6 = 0 → mI m' 7 = mI m 7)) ∨
    (wK w ≠ sk ∧ ∃ c' b' m', f_X4_pass n c b sk = some (Sum.inr (c', b')) ∧ f_X12_sign n m s = some (0, m') ∧ THR C c c' b b' 1 (wF w) ∧ md_fr [6, 7, 8] m m' ∧ NF m' 1 (wF w)) := by
  by_cases q : wK w = sk
  · left
    refine ⟨q, ?_⟩
    obtain ⟨c', m', e1, e2, e3, e4, e5⟩ := adv_ok (n := n) hn h (by rw [q]; exact h0)
    refine ⟨c', m', c_pass1 (h.k.1.trans q) e1, ?_, e3, e4, e5⟩
    unfold f_X12_sign
    rw [m_isSign h.fine h.mw hs, bs_some, if_pos q]
    dsimp only
    rw [if_neg (by decide), e2, bs_some]
  · right
    refine ⟨q, ?_⟩
    obtain ⟨c', b', e1, e2⟩ := c_pass0 (n := n) (k := sk) hC hB h.k.2.1 (by rw [h.k.1]; exact q)
    obtain ⟨m', f1, f2, f3⟩ := m_misfit (n := n) h
    refine ⟨c', b', m', e1, ?_, e2, f2, f3⟩
    unfold f_X12_sign
    rw [m_isSign h.fine h.mw hs, bs_some, if_neg q]
    dsimp only
    rw [if_pos rfl, m_fine, bs_some, if_pos h.fine]
    dsimp only
    rw [if_neg (by decide), f1, bs_some]
theorem passK_ok {n : Nat} {C : Nat × Nat} {B : Nat → Int32} {N : Nat} {c : cd_S} {m : md_S} {b : cd_B} {w : WD} {L : List WD} (hC : BC C) (hn : 5000 ≤ n) (hB : Bd C c b) (h : LX B N c m w L) {s sk : Int32} (hs : ∀ k, k ∈ vks → ((mWd k = 2 ∧ mVl k = s) ↔ k = sk)) (h0 : sk ≠ 0) :
    (wK w = sk ∧ ∃ c' m', f_X4_pass n c b sk = some (Sum.inl (0, c', b)) ∧ f_X12_key n m s = some (0, m') ∧ cd_fr [327, 328, 329, 330] [] c c' ∧ md_fr [6, 7, 8, 9, 10, 11, 12, 13, 14, 15] m m' ∧ AD B N c' m' L ∧ (mI m' 6 = 0 → mI m' 7 = mI m 7)) ∨
    (wK w ≠ sk ∧ ∃ c' b' m', f_X4_pass n c b sk = some (Sum.inr (c', b')) ∧ f_X12_key n m s = some (0, m') ∧ THR C c c' b b' 1 (wF w) ∧ md_fr [6, 7, 8] m m' ∧ NF m' 1 (wF w)) := by
  by_cases q : wK w = sk
  · left
    refine ⟨q, ?_⟩
    obtain ⟨c', m', e1, e2, e3, e4, e5⟩ := adv_ok (n := n) hn h (by rw [q]; exact h0)
    refine ⟨c', m', c_pass1 (h.k.1.trans q) e1, ?_, e3, e4, e5⟩
    unfold f_X12_key
    rw [m_isKey h.fine h.mw hs, bs_some, if_pos q]
    dsimp only
    rw [if_neg (by decide), e2, bs_some]
  · right
    refine ⟨q, ?_⟩
    obtain ⟨c', b', e1, e2⟩ := c_pass0 (n := n) (k := sk) hC hB h.k.2.1 (by rw [h.k.1]; exact q)
    obtain ⟨m', f1, f2, f3⟩ := m_misfit (n := n) h
    refine ⟨c', b', m', e1, ?_, e2, f2, f3⟩
    unfold f_X12_key
    rw [m_isKey h.fine h.mw hs, bs_some, if_neg q]
    dsimp only
    rw [if_pos rfl, m_fine, bs_some, if_pos h.fine]
    dsimp only
    rw [if_neg (by decide), f1, bs_some]
