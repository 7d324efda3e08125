/-! asks -/
theorem and255 (x : Int32) : ∃ k, k < 256 ∧ x &&& 255 = nI k := by
  refine ⟨(x &&& 255).toBitVec.toNat, ?_, ?_⟩
  · rw [Int32.toBitVec_and, BitVec.toNat_and]
    exact Nat.lt_of_le_of_lt Nat.and_le_right (by decide)
  · apply Int32.toBitVec_inj.mp
    unfold nI
    rw [Int32.toBitVec_ofNat']
    simp
/-- the text that a tape is -/
def tB (c : cd_S) (t k : Nat) : Int32 := if k < t then cAr c 352 0 k &&& 255 else -1
theorem tB_TB {c : cd_S} {t : Nat} (h : t ≤ 3000) : TB (tB c t) t := by
  refine ⟨h, fun k hk => ?_, fun k hk => if_neg (by omega)⟩
  unfold tB
  rw [if_pos hk]
  obtain ⟨j, h1, h2⟩ := and255 (cAr c 352 0 k)
  rw [h2, nI_toInt (by omega)]; omega
theorem Tok_kind {B : Nat → Int32} {N ms p kept : Nat} {k : Int32} {f q : Nat} {x : Int64} {PS : List Int64} (h : Tok B N ms p kept k f q x PS) : (k = 0 → f = N) ∧ (k = 4 → x = lN kept) := by
  obtain ⟨h1, h2, h3⟩ := h
  have kw : ∀ x : Int64, kwk x ≠ 0 ∧ kwk x ≠ 4 := fun x => by
    unfold kwk
    split
    · rename_i z
      have : ∀ i : Fin 23, nI (210 + i.val) ≠ 0 ∧ nI (210 + i.val) ≠ 4 := by decide
      exact this ⟨_, z⟩
    · decide
  rcases h3 with t | t | t | t | t
  · exact ⟨fun _ => t.1, fun z => absurd (t.2.1.symm.trans z) (by decide)⟩
  · obtain ⟨t1, t2, t3, t4, t5, t6⟩ := t
    split at t5
    · exact ⟨fun z => absurd (t5.symm.trans z) (kw x).1, fun z => absurd (t5.symm.trans z) (kw x).2⟩
    · exact ⟨fun z => absurd (t5.symm.trans z) (by decide), fun z => absurd (t5.symm.trans z) (by decide)⟩
  · obtain ⟨t1, t2, t3, t4, t5, t6⟩ := t
    split at t5
    · exact ⟨fun z => absurd (t5.symm.trans z) (by decide), fun z => absurd (t5.symm.trans z) (by decide)⟩
    · exact ⟨fun z => absurd (t5.symm.trans z) (by decide), fun z => absurd (t5.symm.trans z) (by decide)⟩
  · obtain ⟨t1, t2, t3, t4, t5, t6⟩ := t
    refine ⟨fun z => ?_, fun _ => t4⟩
    split at t5
    · exact absurd (t5.symm.trans z) (by decide)
    · exact absurd (t5.symm.trans z) (by decide)
  · obtain ⟨t1, t2, t3, t4, t5, t6, t7⟩ := t
    have h45 : ∀ c : Int32, isS c → c ≠ 0 ∧ c ≠ 4 := by
      rintro c (q | q | q | q | q | q | q | q | q | q | q | q | q | q | q) <;> rw [q] <;> decide
    split at t6
    · split at t6
      · exact ⟨fun z => absurd (t6.symm.trans z) (by decide), fun z => absurd (t6.symm.trans z) (by decide)⟩
      · exact ⟨fun z => absurd (t6.symm.trans z) (by decide), fun z => absurd (t6.symm.trans z) (by decide)⟩
    · split at t6
      · rename_i q
        exact ⟨fun z => absurd (t6.symm.trans z) (h45 _ q).1, fun z => absurd (t6.symm.trans z) (h45 _ q).2⟩
      · exact ⟨fun z => absurd (t6.symm.trans z) (by decide), fun z => absurd (t6.symm.trans z) (by decide)⟩
theorem m_nextE {n : Nat} {B : Nat → Int32} {N p : Nat} {m : md_S} (hT : TB B N) (hn : 5000 ≤ n) (hp : p ≤ N) (h : MT m B N) (hfi : mI m 6 = 0) (hto : mI m 10 = nI p) (hf : skp B (N - p) false p = N) : ∃ m', f_X12_next n m = some (0, m') ∧ md_fr [8, 9, 10] m m' := by
  have hN := hT.1
  refine ⟨mSI (mSI (mSI m 10 (nI N)) 9 (nI N)) 8 0, ?_, md_fr_SI (md_fr_SI (md_fr_SI (md_fr_refl _ _) (by decide) _) (by decide) _) (by decide) _⟩
  have hfine : f_X12_isFine n m = some (1, m) := by unfold f_X12_isFine; rw [if_pos hfi]
  unfold f_X12_next
  rw [hfine, bs_some]
  dsimp only
  rw [if_neg (by decide), m_skL hT hn (N - p) n p m (by omega) (by omega) h hto, hf, bs_some]
  dsimp only
  rw [bs_some, mI_SIe, mI_SIo (by decide), mI_SIe, m_at (s := mSI (mSI m 10 (nI N)) 9 (nI N)) hT h (by omega), bs_some]
  dsimp only
  rw [if_pos (hT.2.2 N (Nat.le_refl _)), bs_some]
theorem m_cpL {n : Nat} (l1 l2 : Int32) {t : Nat} (ht : t ≤ 3000) : ∀ (d j i : Nat) (s : md_S), i + d = t → d < j → mI s 4 = nI t → ∃ k, f_X12_asks_L25 n l1 l2 j s (nI i) = some (k, nI t) ∧ (∀ y, y < i → mA k 3 y = mA s 3 y) ∧ (∀ y, i ≤ y → y < t → mA k 3 y = mA s 1 y) ∧ md_fr [3] s k := by
  intro d
  induction d with
  | zero =>
    intro j i s hi hj hs
    obtain ⟨j, rfl⟩ : ∃ m, j = m + 1 := ⟨j - 1, by omega⟩
    obtain rfl : i = t := by omega
    refine ⟨s, ?_, fun _ _ => rfl, fun y h1 h2 => by omega, md_fr_refl _ _⟩
    rw [u_X12_asks_L25, hs, if_pos ((nI_leI (by omega) (by omega)).mpr (Nat.le_refl _))]
  | succ d ih =>
    intro j i s hi hj hs
    obtain ⟨j, rfl⟩ : ∃ m, j = m + 1 := ⟨j - 1, by omega⟩
    obtain ⟨k, e1, e2, e3, e4⟩ := ih j (i + 1) (mSA s 3 i (mA s 1 i)) (by omega) (by omega) hs
    refine ⟨k, ?_, fun y hy => ?_, fun y h1 h2 => ?_, md_fr_tr (md_fr_SA (md_fr_refl _ _) (by decide) _ _) e4 (fun _ z => ⟨z, z⟩)⟩
    · rw [u_X12_asks_L25, hs, if_neg (fun z => absurd ((nI_leI (by omega) (by omega)).mp z) (by omega)), m_ld1 (by omega), bs_some, m_st3 (by omega), bs_some, nI_1, e1]
    · rw [e2 y (by omega), mA_SAi (by omega)]
    · by_cases hy : y = i
      · subst hy; rw [e2 y (by omega), mA_SAe]
      · rw [e3 y (by omega) h2, mA_SAo (by decide)]
/-- what is asked for -/
def AskR (c : cd_S) (m : md_S) : Prop := (cI c 363 0 = 0 ∧ mI m 81 = 0) ∨ (cI c 363 0 = 1 ∧ mI m 81 = 1 ∧ RP c m 195 264 ∧ NR (cJ c 160 195) (mJ m 82))
/-- Rights below 192 and patterns below 264 stay -/
def RK (c d : cd_S) : Prop := ∀ x, x < 192 → cI d 162 x = cI c 162 x ∧ cI d 163 x = cI c 163 x ∧ cJ d 160 x = cJ c 160 x ∧ ∀ i, cLr d 161 x i = cLr c 161 x i
def PK (m k : md_S) : Prop := ∀ x, x < 264 → mA k 18 x = mA m 18 x ∧ mA k 19 x = mA m 19 x ∧ ∀ i, i < 5 → mL k 17 (5 * x + i) = mL m 17 (5 * x + i)
theorem asks_ok {n : Nat} {C : Nat × Nat} {c : cd_S} {m : md_S} {b : cd_B} {t : Nat} (hC : BC C) (hn : 5000 ≤ n) (hTR : TR c m t) (ht : t ≤ 1280) (hK : KWs c) (hB : Bd C c b) (hA : AskR c m) :
    ∃ r c' b' m', f_X11_asks n c b = some (r, c', b') ∧ f_X12_asks n m = some (r, m') ∧ TR c' m' 0 ∧ KWs c' ∧ Bd C c' b' ∧ b'.1 ≤ b.1 ∧ b'.2 ≤ b.2 ∧ AskR c' m' ∧ RK c c' ∧ PK m m' ∧ cd_fr [160, 161, 162, 163, 260, 323, 324, 325, 326, 327, 328, 329, 330, 353, 363] [0, 1] c c' ∧ md_fr [0, 2, 3, 4, 6, 7, 8, 9, 10, 11, 12, 13, 14, 15, 16, 17, 18, 19, 81, 82] m m' ∧ mI m' 6 = mI m 6 ∧ mI m' 7 = mI m 7 ∧ mI m' 0 = 0 ∧ ((cI c' 260 0 = cI c 260 0 ∧ r = 0 ∧ cI c' 363 0 = cI c 363 0 ∧ ∀ x, x ≠ 194 → cI c' 162 x = cI c 162 x ∧ cI c' 163 x = cI c 163 x ∧ cJ c' 160 x = cJ c 160 x ∧ ∀ i, cLr c' 161 x i = cLr c 161 x i) ∨ cI c' 260 0 = 0) := by
  obtain ⟨h1, h2, h3, h4⟩ := hTR
  have hT : TB (tB c t) t := tB_TB h1
  have hB1 : Bd C (cSI c 353 0 0) b := hB.SI (by decide) _ _
  obtain ⟨w, L, c2, b2, e2, ws2, wch, rl2, len2, fr2, B2, l2, l2'⟩ := c_begin (n := n) (s := cSI c 353 0 0) (N := t) (ms := 5) (B := tB c t) hC hn hT ht (by decide) (fun k hk => by unfold tB; rw [if_pos hk]; rfl) (fun i hi => hK i hi) hB1
  have frC2 : cd_fr [160, 161, 162, 163, 260, 323, 324, 325, 326, 327, 328, 329, 330, 353, 363] [0, 1] c c2 := cd_fr_tr (cd_fr_SI (cd_fr_refl c [160, 161, 162, 163, 260, 323, 324, 325, 326, 327, 328, 329, 330, 353, 363] [0, 1]) (by decide) (by decide) 0 0) fr2 (fun _ z => ⟨z, fun y => z (by simp at y; simp; omega)⟩) (fun _ z => ⟨z, z⟩)
  have rc2 : ∀ x, cI c2 162 x = cI c 162 x ∧ cI c2 163 x = cI c 163 x ∧ cJ c2 160 x = cJ c 160 x ∧ ∀ i, cLr c2 161 x i = cLr c 161 x i := fun x => ⟨by rw [cd_frI fr2 (by decide) (by decide)]; rfl, by rw [cd_frI fr2 (by decide) (by decide)]; rfl, by rw [cd_frJ fr2 (by decide) (by decide)]; rfl, fun i => by rw [cd_frL fr2 (by decide) (by decide)]; rfl⟩
  have k353 : cI c2 353 0 = 0 := by rw [cd_frI fr2 (by decide) (by decide), cI_SIe]
  have k260 : cI c2 260 0 = cI c 260 0 := by rw [cd_frI fr2 (by decide) (by decide), cI_SIo (by decide)]
  have k363 : cI c2 363 0 = cI c 363 0 := by rw [cd_frI fr2 (by decide) (by decide), cI_SIo (by decide)]
  -- the model up to its first word
  obtain ⟨m3, g1, -, g3, g4⟩ := m_cpL (n := n) (mI m 6) (mI m 7) h1 t n 0 (mSI (mSI m 0 0) 4 (nI t)) (by omega) (by omega) mI_SIe
  obtain ⟨m4, hm4⟩ : ∃ m4, m4 = mSI (mSI (mSI (mSI m3 2 0) 6 0) 16 5) 10 0 := ⟨_, rfl⟩
  have fr4 : md_fr [0, 2, 3, 4, 6, 7, 8, 9, 10, 11, 12, 13, 14, 15, 16, 17, 18, 19, 81, 82] m m4 := by
    rw [hm4]
    refine md_fr_SI (md_fr_SI (md_fr_SI (md_fr_SI ?_ (by decide) _) (by decide) _) (by decide) _) (by decide) _
    exact md_fr_tr (md_fr_SI (md_fr_SI (md_fr_refl m [0, 2, 3, 4, 6, 7, 8, 9, 10, 11, 12, 13, 14, 15, 16, 17, 18, 19, 81, 82]) (by decide) _) (by decide) _) g4 (fun _ z => ⟨z, fun y => z (by simp at y; simp [y])⟩)
  have x3 : ∀ k, k ∉ [0, 2, 3, 4, 6, 10, 16] → mI m4 k = mI m k ∧ mJ m4 k = mJ m k ∧ (∀ i, mA m4 k i = mA m k i) ∧ ∀ i, mL m4 k i = mL m k i := fun k hk => by
    have hf : md_fr [0, 2, 3, 4, 6, 10, 16] m m4 := by
      rw [hm4]
      refine md_fr_SI (md_fr_SI (md_fr_SI (md_fr_SI ?_ (by decide) _) (by decide) _) (by decide) _) (by decide) _
      exact md_fr_tr (md_fr_SI (md_fr_SI (md_fr_refl m [0, 2, 3, 4, 6, 10, 16]) (by decide) _) (by decide) _) g4 (fun _ z => ⟨z, fun y => z (by simp at y; simp [y])⟩)
    exact ⟨md_frI hf hk, md_frJ hf hk, fun i => md_frA hf hk i, fun i => md_frL hf hk i⟩
  have hMT : MT m4 (tB c t) t := by
    rw [hm4]
    refine ⟨?_, fun k hk => ?_⟩
    · rw [mI_SIo (by decide), mI_SIo (by decide), mI_SIo (by decide), mI_SIo (by decide), md_frI g4 (by decide), mI_SIe]
    · rw [mA_SI, mA_SI, mA_SI, mA_SI, g3 k (Nat.zero_le _) hk, mA_SI, mA_SI, h4 k hk]
      unfold tB; rw [if_pos hk]
  have y6 : mI m4 6 = 0 := by rw [hm4, mI_SIo (by decide), mI_SIo (by decide), mI_SIe]
  have y10 : mI m4 10 = nI 0 := by rw [hm4, mI_SIe]; rfl
  have y16 : mI m4 16 = nI 5 := by rw [hm4, mI_SIo (by decide), mI_SIe]; rfl
  have y2 : mI m4 2 = 0 := by rw [hm4, mI_SIo (by decide), mI_SIo (by decide), mI_SIo (by decide), mI_SIe]
  have y0 : mI m4 0 = 0 := by rw [hm4, mI_SIo (by decide), mI_SIo (by decide), mI_SIo (by decide), mI_SIo (by decide), md_frI g4 (by decide), mI_SIo (by decide), mI_SIe]
  obtain ⟨tk, wrest⟩ := wch
  obtain ⟨m5, n1, n2, n3, n4⟩ := m_next (n := n) (m := m4) hT hn (by decide) (Nat.zero_le _) hMT y6 y10 y16 tk
  have hM0 : f_X12_asks n m = Option.bind (f_X12_isFine n m5) fun p22 => if p22.1 = 0 then (f_X12_asks_J94 n p22.2 (mI m 6) (mI m 7)) else (if (mI p22.2 8) = (1 : Int32) then (f_X12_asks_J95 n p22.2 (mI m 6) (mI m 7) 1) else (f_X12_asks_J94 n p22.2 (mI m 6) (mI m 7))) := by
    unfold f_X12_asks
    rw [bs_some, bs_some, mI_SIo (by decide), mI_SIo (by decide), mI_SIo (by decide), h3, show f_X12_asks_L25 n (mI m 6) (mI m 7) n (mSI (mSI m 0 0) 4 (nI t)) 0 = _ from g1, bs_some]
    dsimp only
    rw [bs_some, bs_some, bs_some, bs_some, ← hm4, n1, bs_some]
  have hJ206 : ∀ (σ : md_S) (l3 : Int32), (l3 = 0 ∨ l3 = 1) → f_X12_asks_J206 n σ (mI m 6) (mI m 7) l3 = some (l3, mSI (mSI σ 6 (mI m 6)) 7 (mI m 7)) := fun σ l3 hl => by
    unfold f_X12_asks_J206
    rw [bs_some, bs_some]
    rcases hl with rfl | rfl <;> rfl
  have hJ94 : ∀ σ : md_S, f_X12_asks_J94 n σ (mI m 6) (mI m 7) = some (0, mSI (mSI σ 6 (mI m 6)) 7 (mI m 7)) := fun σ => by
    unfold f_X12_asks_J94 f_X12_asks_J95 f_X12_asks_J138
    rw [if_pos rfl, if_pos rfl, hJ206 _ _ (Or.inl rfl)]
  have hC0 : ∀ R, (if (cI c2 328 0) = (2 : Int32) then (Option.bind (f_X10_advance n c2 ) fun p4 => if (cI p4.2 328 0) = (4 : Int32) then (Option.bind (f_X10_hasTail n p4.2 ) fun p5 => if p5.1 = 0 then (Option.bind (f_X10_copyPattern n p5.2 194) fun p6 => Option.bind (f_X10_advance n p6.2 ) fun p7 => if (cI p7.2 328 0) = 0 then (Option.bind (f_X5_take n p7.2 195 194) fun p8 => Option.bind (some (cSJ p8.2 160 195 ((cJ c2 330 0)))) fun σ9 => Option.bind (some (cSI σ9 363 0 1)) fun σ10 => Option.bind (f_X8_forget n σ10 ) fun p11 => some (((1 : Int32), p11.2, b2))) else (some (((0 : Int32), p7.2, b2)))) else (some (((0 : Int32), p5.2, b2)))) else (some (((0 : Int32), p4.2, b2)))) else (some (((0 : Int32), c2, b2)))) = some R → R.2.2 = b2 → f_X11_asks n c b = some R := by
    intro R hR hb
    unfold f_X11_asks
    refine c_ck ?_ (show R.2.2.1 ≤ b.1 by rw [hb]; exact l2) (show R.2.2.2 ≤ b.2 by rw [hb]; exact l2')
    rw [bs_some, h2, show (5 : Int32) = nI 5 from rfl, e2, bs_some]
    dsimp only
    refine c_ck ?_ (show R.2.2.1 ≤ b2.1 by rw [hb]; exact Nat.le_refl _) (show R.2.2.2 ≤ b2.2 by rw [hb]; exact Nat.le_refl _)
    exact hR
  -- where it is refused
  have fin0 : ∀ (cX : cd_S) (mX : md_S), cd_fr [160, 161, 162, 163, 327, 328, 329, 330] [] c2 cX → (∀ x, x ≠ 194 → cI cX 162 x = cI c 162 x ∧ cI cX 163 x = cI c 163 x ∧ cJ cX 160 x = cJ c 160 x ∧ ∀ i, cLr cX 161 x i = cLr c 161 x i) → md_fr [6, 7, 8, 9, 10, 11, 12, 13, 14, 15] m4 mX → f_X11_asks n c b = some (0, cX, b2) → f_X12_asks n m = some (0, mSI (mSI mX 6 (mI m 6)) 7 (mI m 7)) →
      ∃ r c' b' m', f_X11_asks n c b = some (r, c', b') ∧ f_X12_asks n m = some (r, m') ∧ TR c' m' 0 ∧ KWs c' ∧ Bd C c' b' ∧ b'.1 ≤ b.1 ∧ b'.2 ≤ b.2 ∧ AskR c' m' ∧ RK c c' ∧ PK m m' ∧ cd_fr [160, 161, 162, 163, 260, 323, 324, 325, 326, 327, 328, 329, 330, 353, 363] [0, 1] c c' ∧ md_fr [0, 2, 3, 4, 6, 7, 8, 9, 10, 11, 12, 13, 14, 15, 16, 17, 18, 19, 81, 82] m m' ∧ mI m' 6 = mI m 6 ∧ mI m' 7 = mI m 7 ∧ mI m' 0 = 0 ∧ ((cI c' 260 0 = cI c 260 0 ∧ r = 0 ∧ cI c' 363 0 = cI c 363 0 ∧ ∀ x, x ≠ 194 → cI c' 162 x = cI c 162 x ∧ cI c' 163 x = cI c 163 x ∧ cJ c' 160 x = cJ c 160 x ∧ ∀ i, cLr c' 161 x i = cLr c 161 x i) ∨ cI c' 260 0 = 0) := by
    intro cX mX fX rX gX eC eM
    have frX := cd_fr_tr (L3 := [160, 161, 162, 163, 260, 323, 324, 325, 326, 327, 328, 329, 330, 353, 363]) (R3 := [0, 1]) frC2 fX (fun _ z => ⟨z, fun y => z (by simp at y; simp; omega)⟩) (fun _ z => ⟨z, by simp⟩)
    have gm : ∀ k, k ∉ [6, 7, 8, 9, 10, 11, 12, 13, 14, 15] → mI (mSI (mSI mX 6 (mI m 6)) 7 (mI m 7)) k = mI m4 k ∧ mJ (mSI (mSI mX 6 (mI m 6)) 7 (mI m 7)) k = mJ m4 k ∧ (∀ i, mA (mSI (mSI mX 6 (mI m 6)) 7 (mI m 7)) k i = mA m4 k i) ∧ ∀ i, mL (mSI (mSI mX 6 (mI m 6)) 7 (mI m 7)) k i = mL m4 k i := fun k hk => by
      have hf : md_fr [6, 7, 8, 9, 10, 11, 12, 13, 14, 15] m4 (mSI (mSI mX 6 (mI m 6)) 7 (mI m 7)) := md_fr_SI (md_fr_SI gX (by decide) _) (by decide) _
      exact ⟨md_frI hf hk, md_frJ hf hk, fun i => md_frA hf hk i, fun i => md_frL hf hk i⟩
    have hpk : ∀ x, mA (mSI (mSI mX 6 (mI m 6)) 7 (mI m 7)) 18 x = mA m 18 x ∧ mA (mSI (mSI mX 6 (mI m 6)) 7 (mI m 7)) 19 x = mA m 19 x ∧ ∀ i, mL (mSI (mSI mX 6 (mI m 6)) 7 (mI m 7)) 17 i = mL m 17 i := fun x => ⟨((gm 18 (by decide)).2.2.1 x).trans ((x3 18 (by decide)).2.2.1 x), ((gm 19 (by decide)).2.2.1 x).trans ((x3 19 (by decide)).2.2.1 x), fun i => ((gm 17 (by decide)).2.2.2 i).trans ((x3 17 (by decide)).2.2.2 i)⟩
    refine ⟨0, cX, b2, _, eC, eM, ⟨Nat.zero_le _, ?_, ?_, fun i hi => absurd hi (by omega)⟩, fun i hi => ?_, B2.fr fX, l2, l2', ?_, fun x hx => rX x (by omega), fun x hx => ⟨(hpk x).1, (hpk x).2.1, fun i _ => (hpk x).2.2 _⟩, frX, ?_, ?_, ?_, ?_, Or.inl ⟨?_, rfl, by rw [cd_frI fX (by decide) (by decide), k363], rX⟩⟩
    · rw [cd_frI fX (by decide) (by decide), k353]; rfl
    · rw [(gm 2 (by decide)).1, y2]; rfl
    · rw [cd_frL frX (by decide) (by decide)]; exact hK i hi
    · have q81 : mI (mSI (mSI mX 6 (mI m 6)) 7 (mI m 7)) 81 = mI m 81 := (gm 81 (by decide)).1.trans (x3 81 (by decide)).1
      have q82 : mJ (mSI (mSI mX 6 (mI m 6)) 7 (mI m 7)) 82 = mJ m 82 := (gm 82 (by decide)).2.1.trans (x3 82 (by decide)).2.1
      have q363 : cI cX 363 0 = cI c 363 0 := by rw [cd_frI fX (by decide) (by decide), k363]
      rcases hA with ⟨a1, a2⟩ | ⟨a1, a2, a3, a4⟩
      · exact Or.inl ⟨q363.trans a1, q81.trans a2⟩
      · obtain ⟨r1, r2, r3, r4⟩ := rX 195 (by decide)
        refine Or.inr ⟨q363.trans a1, q81.trans a2, ?_, by rw [r3, q82]; exact a4⟩
        obtain ⟨a, tl, b1, b2', b3, b4, b5, b6, b7⟩ := a3
        exact ⟨a, tl, b1, b2', r1.trans b3, r2.trans b4, (hpk 264).1.trans b5, (hpk 264).2.1.trans b6, fun i hi => by rw [r4, (hpk 264).2.2]; exact b7 i hi⟩
    · exact md_fr_SI (md_fr_SI (md_fr_tr fr4 gX (fun _ z => ⟨z, fun y => z (by simp at y; simp; omega)⟩)) (by decide) _) (by decide) _
    · rw [mI_SIo (by decide), mI_SIe]
    · rw [mI_SIe]
    · rw [(gm 0 (by decide)).1, y0]
    · rw [cd_frI fX (by decide) (by decide), k260]
  have k328 : cI c2 328 0 = wK w := by obtain ⟨pre, q1, q2, q3, q4, q5, q6⟩ := ws2; exact q4
  have k330 : cJ c2 330 0 = wX w := by obtain ⟨pre, q1, q2, q3, q4, q5, q6⟩ := ws2; exact q6
  have hfi : ∀ σ : md_S, f_X12_isFine n σ = some (if mI σ 6 = 0 then 1 else 0, σ) := fun σ => by
    unfold f_X12_isFine; split <;> rfl
  by_cases hk2 : wK w = 2
  · have hk1 : wK w ≠ 1 := by rw [hk2]; decide
    obtain ⟨o6, o7, oW⟩ := n4 hk1
    have oW : MW m5 w := oW
    rcases wrest with ⟨-, z⟩ | ⟨hL, hnz, wch2⟩
    · exact absurd z (by rw [hk2]; decide)
    cases L with
    | nil => exact absurd rfl hL
    | cons w2 L2 =>
    obtain ⟨c3, d1, d2, d3⟩ := c_advance (n := n) (B2.1 0 (by decide)) ws2 (by omega)
    obtain ⟨tk2, wrest2⟩ := wch2
    obtain ⟨adv1, adv2, adv3, adv4, adv5⟩ := Tok_adv hT (Nat.zero_le _) tk
    have hMT5 : MT m5 (tB c t) t := hMT.of n2 (by decide) (by decide)
    obtain ⟨m6, p1, p2, p3, p4⟩ := m_next (n := n) (m := m5) hT hn (by decide) adv3 hMT5 o6 oW.2.2.2.2.1 (by rw [md_frI n2 (by decide)]; exact y16) tk2
    have q328 : cI c3 328 0 = wK w2 := by obtain ⟨pre, q1, q2, q3, q4, q5, q6⟩ := d2; exact q4
    have q330 : cJ c3 330 0 = wX w2 := by obtain ⟨pre, q1, q2, q3, q4, q5, q6⟩ := d2; exact q6
    have hNR : NR (wX w) (mJ m5 12) := oW.2.2.2.2.2.1 hk2
    have rc3 : ∀ x, cI c3 162 x = cI c 162 x ∧ cI c3 163 x = cI c 163 x ∧ cJ c3 160 x = cJ c 160 x ∧ ∀ i, cLr c3 161 x i = cLr c 161 x i := fun x => by
      obtain ⟨z1, z2, z3, z4⟩ := rc2 x
      exact ⟨(cd_frI d3 (by decide) (by decide) _).trans z1, (cd_frI d3 (by decide) (by decide) _).trans z2, (cd_frJ d3 (by decide) (by decide) _).trans z3, fun i => (cd_frL d3 (by decide) (by decide) _ _).trans (z4 i)⟩
    have fc3 : cd_fr [160, 161, 162, 163, 327, 328, 329, 330] [] c2 c3 := cd_fr_mono d3 (fun _ z => by simp at z; simp; omega) (fun _ z => z)
    have n2p2 : md_fr [6, 7, 8, 9, 10, 11, 12, 13, 14, 15] m4 m6 := md_fr_tr n2 p2 (fun _ z => ⟨z, z⟩)
    have hM1 : f_X12_asks n m = Option.bind (f_X12_isFine n m6) fun p11 => if p11.1 = 0 then (f_X12_asks_J136 n p11.2 (mI m 6) (mI m 7) ((mJ m5 12))) else (if (mI p11.2 8) = (4 : Int32) then (if (mI p11.2 15) = 0 then (f_X12_asks_J137 n p11.2 (mI m 6) (mI m 7) ((mJ m5 12)) 1) else (f_X12_asks_J136 n p11.2 (mI m 6) (mI m 7) ((mJ m5 12)))) else (f_X12_asks_J136 n p11.2 (mI m 6) (mI m 7) ((mJ m5 12)))) := by
      rw [hM0, hfi, bs_some, if_pos o6]
      dsimp only
      rw [if_neg (by decide), oW.2.1, hk2, show mWd 2 = 1 from rfl, if_pos rfl]
      unfold f_X12_asks_J95
      rw [if_neg (by decide), p1, bs_some]
    have hJ136 : ∀ (σ : md_S) (l4 : Int64), f_X12_asks_J136 n σ (mI m 6) (mI m 7) l4 = some (0, mSI (mSI σ 6 (mI m 6)) 7 (mI m 7)) := fun σ l4 => by
      unfold f_X12_asks_J136 f_X12_asks_J137 f_X12_asks_J138
      rw [if_pos rfl, hJ206 _ _ (Or.inl rfl)]
    have hC1 : ∀ R, (if (cI c3 328 0) = (4 : Int32) then (Option.bind (f_X10_hasTail n c3 ) fun p5 => if p5.1 = 0 then (Option.bind (f_X10_copyPattern n p5.2 194) fun p6 => Option.bind (f_X10_advance n p6.2 ) fun p7 => if (cI p7.2 328 0) = 0 then (Option.bind (f_X5_take n p7.2 195 194) fun p8 => Option.bind (some (cSJ p8.2 160 195 ((cJ c2 330 0)))) fun σ9 => Option.bind (some (cSI σ9 363 0 1)) fun σ10 => Option.bind (f_X8_forget n σ10 ) fun p11 => some (((1 : Int32), p11.2, b2))) else (some (((0 : Int32), p7.2, b2)))) else (some (((0 : Int32), p5.2, b2)))) else (some (((0 : Int32), c3, b2)))) = some R → R.2.2 = b2 → f_X11_asks n c b = some R := by
      intro R hR hb
      refine hC0 R ?_ hb
      rw [k328, if_pos hk2, d1, bs_some]
      exact hR
    by_cases hk4 : wK w2 = 4
    · have hk41 : wK w2 ≠ 1 := by rw [hk4]; decide
      obtain ⟨u6, u7, uW⟩ := p4 hk41
      have uW : MW m6 w2 := uW
      obtain ⟨cnt, tl, codes, v1, v2, v3, v4, v5, v6, v7⟩ := uW.2.2.2.2.2.2.2 hk4
      have hx : cJ c3 330 0 = lN (wP w).length := by rw [q330, (Tok_kind tk2).2 hk4, Nat.zero_add]
      have hrl3 : rL c3 1 = wP w ++ (lN cnt :: lN tl :: codes) ++ L2.flatMap wP := by
        rw [rL_fr d3 (by simp), rl2, List.flatMap_cons, List.flatMap_cons, v1, List.append_assoc]
      have hro3 : RowOk c3 1 := (B2.1 1 (by decide)).of (cd_frz d3 (by simp)) (cd_frC d3 (by simp))
      have htail : f_X10_hasTail n c3 = some (if tl = 0 then 0 else 1, c3) := by
        unfold f_X10_hasTail
        have gt : (rL c3 1).getD ((wP w).length + 1) 0 = lN tl := by
          rw [hrl3, List.append_assoc, List.getD_eq_getElem?_getD, List.getElem?_append_right (by omega), Nat.add_sub_cancel_left]; rfl
        have hwl : (wP w).length < 1000000 := by have := hro3.szlt; rw [← rL_len, hrl3] at this; simp at this; omega
        rw [q328, if_pos hk4, hx, lN_i, nI_1, c_atL hro3 (by omega), bs_some, gt, lN_i]
        dsimp only
        by_cases z : tl = 0
        · rw [if_pos (show nI tl = 0 by rw [z]; rfl), if_pos z]
        · rw [if_neg (show ¬ nI tl = 0 from fun y => z ((nI_eq (b := 0) (by omega) (by decide)).mp y)), if_neg z]
      by_cases htl : tl = 0
      · have hwl : (wP w).length < 1000000 := by have := hro3.szlt; rw [← rL_len, hrl3] at this; simp at this; omega
        obtain ⟨c4, s1, s2, s3, s4, s5, s6⟩ := c_copy (n := n) (r := 194) (by omega) hro3 hx hrl3 rfl hwl v2 v3 v4
        rcases wrest2 with ⟨-, z⟩ | ⟨hL2, hnz2, wch3⟩
        · exact absurd z (by rw [hk4]; decide)
        cases L2 with
        | nil => exact absurd rfl hL2
        | cons w3 L3 =>
        have ws4 : WS c4 w2 (w3 :: L3) := by
          obtain ⟨pre, q1, q2, q3, q4, q5, q6⟩ := d2
          exact ⟨pre, by rw [rL_fr s2.2 (by simp)]; exact q1, q2, by rw [cd_frI s2.2 (by decide) (by decide)]; exact q3, by rw [cd_frI s2.2 (by decide) (by decide)]; exact q4, by rw [cd_frI s2.2 (by decide) (by decide)]; exact q5, by rw [cd_frJ s2.2 (by decide) (by decide)]; exact q6⟩
        have hro40 : RowOk c4 0 := ((B2.1 0 (by decide)).of (cd_frz d3 (by simp)) (cd_frC d3 (by simp))).of (cd_frz s2.2 (by simp)) (cd_frC s2.2 (by simp))
        have len4 : (rL c4 0).length < 15000 := by rw [rL_fr s2.2 (by simp), rL_fr d3 (by simp)]; omega
        obtain ⟨c5, t1, t2, t3⟩ := c_advance (n := n) hro40 ws4 len4
        have t328 : cI c5 328 0 = wK w3 := by obtain ⟨pre, q1, q2, q3, q4, q5, q6⟩ := t2; exact q4
        obtain ⟨tk3, -⟩ := wch3
        obtain ⟨bdv1, bdv2, bdv3, bdv4, bdv5⟩ := Tok_adv hT adv3 tk2
        have hMT6 : MT m6 (tB c t) t := hMT5.of p2 (by decide) (by decide)
        have y166 : mI m6 16 = nI 5 := by rw [md_frI p2 (by decide), md_frI n2 (by decide)]; exact y16
        obtain ⟨m7, r1, r2, r3, r4⟩ := m_next (n := n) (m := m6) hT hn (by decide) bdv3 hMT6 u6 uW.2.2.2.2.1 y166 tk3
        have fr25 : cd_fr [160, 161, 162, 163, 327, 328, 329, 330] [] c2 c5 := cd_fr_tr (cd_fr_tr fc3 s2.2 (L3 := [160, 161, 162, 163, 327, 328, 329, 330]) (R3 := []) (fun _ z => ⟨z, fun y => z (by simp at y; simp; omega)⟩) (fun _ z => ⟨z, z⟩)) t3 (fun _ z => ⟨z, fun y => z (by simp at y; simp; omega)⟩) (fun _ z => ⟨z, z⟩)
        have rc5 : ∀ x, x ≠ 194 → cI c5 162 x = cI c 162 x ∧ cI c5 163 x = cI c 163 x ∧ cJ c5 160 x = cJ c 160 x ∧ ∀ i, cLr c5 161 x i = cLr c 161 x i := fun x hx => by
          obtain ⟨z1, z2, z3, z4⟩ := rc3 x
          obtain ⟨y1, y2, y3, y4⟩ := s2.1 x hx
          exact ⟨(cd_frI t3 (by decide) (by decide) _).trans (y1.trans z1), (cd_frI t3 (by decide) (by decide) _).trans (y2.trans z2), (cd_frJ t3 (by decide) (by decide) _).trans (y3.trans z3), fun i => (cd_frL t3 (by decide) (by decide) _ _).trans ((y4 i).trans (z4 i))⟩
        have n7 : md_fr [6, 7, 8, 9, 10, 11, 12, 13, 14, 15] m4 m7 := md_fr_tr n2p2 r2 (fun _ z => ⟨z, z⟩)
        have hM2 : f_X12_asks n m = Option.bind (f_X12_isFine n m7) fun p9 => if p9.1 = 0 then (f_X12_asks_J176 n p9.2 (mI m 6) (mI m 7) ((mJ m5 12)) ((mI m6 14))) else (if (mI p9.2 8) = 0 then (f_X12_asks_J177 n p9.2 (mI m 6) (mI m 7) ((mJ m5 12)) ((mI m6 14)) 1) else (f_X12_asks_J176 n p9.2 (mI m 6) (mI m 7) ((mJ m5 12)) ((mI m6 14)))) := by
          rw [hM1, hfi, bs_some, if_pos u6]
          dsimp only
          rw [if_neg (by decide), uW.2.1, hk4, show mWd 4 = 4 from rfl, if_pos rfl, v6, htl, if_pos (show nI 0 = 0 from rfl)]
          unfold f_X12_asks_J137 f_X12_asks_J138
          rw [if_neg (by decide), r1, bs_some]
        have hJ176 : ∀ (σ : md_S) (l4 : Int64) (l6 : Int32), f_X12_asks_J176 n σ (mI m 6) (mI m 7) l4 l6 = some (0, mSI (mSI σ 6 (mI m 6)) 7 (mI m 7)) := fun σ l4 l6 => by
          unfold f_X12_asks_J176 f_X12_asks_J177
          rw [if_pos rfl, hJ206 _ _ (Or.inl rfl)]
        have hC2 : ∀ R, (if (cI c5 328 0) = 0 then (Option.bind (f_X5_take n c5 195 194) fun p8 => Option.bind (some (cSJ p8.2 160 195 ((cJ c2 330 0)))) fun σ9 => Option.bind (some (cSI σ9 363 0 1)) fun σ10 => Option.bind (f_X8_forget n σ10 ) fun p11 => some (((1 : Int32), p11.2, b2))) else (some (((0 : Int32), c5, b2)))) = some R → R.2.2 = b2 → f_X11_asks n c b = some R := by
          intro R hR hb
          refine hC1 R ?_ hb
          rw [q328, if_pos hk4, htail, bs_some, if_pos htl]
          dsimp only
          rw [if_pos rfl, s1, bs_some]
          dsimp only
          rw [t1, bs_some]
          exact hR
        by_cases hk0 : wK w3 = 0
        · -- it is asked for
          obtain ⟨m7', r1', r2'⟩ := m_nextE (n := n) (m := m6) hT hn bdv3 hMT6 u6 uW.2.2.2.2.1 (by rw [← tk3.1]; exact (Tok_kind tk3).1 hk0)
          obtain rfl : m7 = m7' := by
            have := r1.symm.trans r1'
            exact (Prod.mk.inj (Option.some.inj this)).2
          obtain ⟨w6, w7, wW⟩ := r4 (by rw [hk0]; decide)
          have wW : MW m7 w3 := wW
          obtain ⟨c6, a1, a2, a3, a4, a5, a6⟩ := c_take (n := n) (c := c5) (r := 195) (r2 := 194) (by omega) (by decide)
          have e14 : mI (mSI m7 14 (nI cnt)) 14 = nI cnt := mI_SIe
          have e15 : mI (mSI m7 14 (nI cnt)) 15 = nI tl := by rw [mI_SIo (by decide), md_frI r2' (by decide)]; exact v6
          obtain ⟨m8, k1, k2, k3, k4, k5⟩ := m_keep (n := n) (p := 264) (by omega) (by decide) e14 v3 e15
          have hMfin : f_X12_asks n m = some (1, mSI (mSI (mSI (mSJ m8 82 (mJ m5 12)) 81 1) 6 (mI m 6)) 7 (mI m 7)) := by
            rw [hM2, hfi, bs_some, if_pos w6]
            dsimp only
            rw [if_neg (by decide), wW.2.1, hk0, show mWd 0 = 0 from rfl, if_pos rfl]
            unfold f_X12_asks_J177
            rw [if_neg (by decide), bs_some, v5, show (264 : Int32) = nI 264 from rfl, k1, bs_some]
            dsimp only
            rw [bs_some, bs_some, hJ206 _ _ (Or.inr rfl)]
          have hCfin : f_X11_asks n c b = some (1, cSI (cSI (cSJ c6 160 195 (wX w)) 363 0 1) 260 0 0, b2) := by
            refine hC2 _ ?_ rfl
            rw [t328, if_pos hk0, a1, bs_some]
            dsimp only
            rw [bs_some, bs_some, k330]
            unfold f_X8_forget
            rw [bs_some, bs_some]
          have frm : md_fr [0, 2, 3, 4, 6, 7, 8, 9, 10, 11, 12, 13, 14, 15, 16, 17, 18, 19, 81, 82] m m8 := md_fr_tr (md_fr_SI (md_fr_tr fr4 n7 (L3 := [0, 2, 3, 4, 6, 7, 8, 9, 10, 11, 12, 13, 14, 15, 16, 17, 18, 19, 81, 82]) (fun _ z => ⟨z, fun y => z (by simp at y; simp; omega)⟩)) (by decide) _) k2.2 (fun _ z => ⟨z, fun y => z (by simp at y; simp; omega)⟩)
          have fr26 : cd_fr [160, 161, 162, 163, 327, 328, 329, 330] [] c2 c6 := cd_fr_tr fr25 a2.2 (fun _ z => ⟨z, fun y => z (by simp at y; simp; omega)⟩) (fun _ z => ⟨z, z⟩)
          have frc : cd_fr [160, 161, 162, 163, 260, 323, 324, 325, 326, 327, 328, 329, 330, 353, 363] [0, 1] c (cSI (cSI (cSJ c6 160 195 (wX w)) 363 0 1) 260 0 0) := by
            refine cd_fr_SI (cd_fr_SI (cd_fr_SJ ?_ (by decide) _ _) (by decide) (by decide) _ _) (by decide) (by decide) _ _
            exact cd_fr_tr frC2 fr26 (fun _ z => ⟨z, fun y => z (by simp at y; simp; omega)⟩) (fun _ z => ⟨z, by simp⟩)
          have hpk : ∀ x, x ≠ 264 → mA m8 18 x = mA m 18 x ∧ mA m8 19 x = mA m 19 x ∧ ∀ i, i < 5 → mL m8 17 (5 * x + i) = mL m 17 (5 * x + i) := fun x hx => by
            obtain ⟨z1, z2, z3⟩ := k2.1 x hx
            refine ⟨z1.trans ?_, z2.trans ?_, fun i hi => (z3 i hi).trans ?_⟩
            · rw [mA_SI, md_frA n7 (by decide)]; exact (x3 18 (by decide)).2.2.1 x
            · rw [mA_SI, md_frA n7 (by decide)]; exact (x3 19 (by decide)).2.2.1 x
            · rw [mL_SI, md_frL n7 (by decide)]; exact (x3 17 (by decide)).2.2.2 _
          refine ⟨1, _, b2, _, hCfin, hMfin, ⟨Nat.zero_le _, ?_, ?_, fun i hi => absurd hi (by omega)⟩, fun i hi => ?_, ?_, l2, l2', Or.inr ⟨?_, ?_, ?_, ?_⟩, fun x hx => ?_, fun x hx => hpk x (by omega), frc, ?_, ?_, ?_, ?_, Or.inr ?_⟩
          · rw [cI_SIo (by decide), cI_SIo (by decide), cI_SJ, cd_frI fr26 (by decide) (by decide), k353]; rfl
          · rw [mI_SIo (by decide), mI_SIo (by decide), mI_SIo (by decide), mI_SJ, md_frI k2.2 (by decide), mI_SIo (by decide), md_frI n7 (by decide), y2]; rfl
          · rw [cd_frL frc (by decide) (by decide)]; exact hK i hi
          · exact ((((B2.fr fr26).SJ _ _ _).SI (by decide) _ _).SI (by decide) _ _)
          · rw [cI_SIo (by decide), cI_SIe]
          · rw [mI_SIo (by decide), mI_SIo (by decide), mI_SIe]
          · refine ⟨cnt, tl, v3, v4, ?_, ?_, ?_, ?_, fun i hi => ?_⟩
            · rw [cI_SIo (by decide), cI_SIo (by decide), cI_SJ, a3, cd_frI t3 (by decide) (by decide)]; exact s3
            · rw [cI_SIo (by decide), cI_SIo (by decide), cI_SJ, a4, cd_frI t3 (by decide) (by decide)]; exact s4
            · rw [mA_SI, mA_SI, mA_SI, mA_SJ]; exact k3
            · rw [mA_SI, mA_SI, mA_SI, mA_SJ]; exact k4
            · rw [cL_SI, cL_SI, cL_SJ, a6 i (by omega), cd_frL t3 (by decide) (by decide), s6 i hi, mL_SI, mL_SI, mL_SI, mL_SJ, k5 i hi, mL_SI, md_frL r2' (by decide)]
              exact v7 i hi
          · rw [cJ_SI, cJ_SI, cJ_SJe, mJ_SI, mJ_SI, mJ_SI, mJ_SJe]; exact hNR
          · obtain ⟨z1, z2, z3, z4⟩ := a2.1 x (by omega)
            obtain ⟨y1, y2, y3, y4⟩ := rc5 x (by omega)
            refine ⟨?_, ?_, ?_, fun i => ?_⟩
            · rw [cI_SIo (by decide), cI_SIo (by decide), cI_SJ]; exact z1.trans y1
            · rw [cI_SIo (by decide), cI_SIo (by decide), cI_SJ]; exact z2.trans y2
            · rw [cJ_SI, cJ_SI, cJ_SJi (by omega)]; exact z3.trans y3
            · rw [cL_SI, cL_SI, cL_SJ]; exact (z4 i).trans (y4 i)
          · exact md_fr_SI (md_fr_SI (md_fr_SI (md_fr_SJ frm (by decide) _) (by decide) _) (by decide) _) (by decide) _
          · rw [mI_SIo (by decide), mI_SIe]
          · rw [mI_SIe]
          · rw [mI_SIo (by decide), mI_SIo (by decide), mI_SIo (by decide), mI_SJ, md_frI k2.2 (by decide), mI_SIo (by decide), md_frI n7 (by decide), y0]
          · rw [cI_SIe]
        · refine fin0 c5 m7 fr25 rc5 n7 (hC2 _ (by rw [t328, if_neg hk0]) rfl) ?_
          rw [hM2, hfi, bs_some]
          dsimp only
          by_cases h1 : wK w3 = 1
          · rw [if_neg (show ¬ mI m7 6 = 0 by rw [(r3 h1).1]; decide), if_pos rfl, hJ176]
          · obtain ⟨w6, w7, wW⟩ := r4 h1
            have wW : MW m7 w3 := wW
            rw [if_pos w6, if_neg (by decide), wW.2.1, if_neg (fun z => hk0 ?_), hJ176]
            have hz : ∀ k ∈ vks, mWd k = 0 → k = 0 := by decide
            exact hz _ wW.1 z
      · refine fin0 c3 m6 fc3 (fun x _ => rc3 x) n2p2 (hC1 _ (by rw [q328, if_pos hk4, htail, bs_some, if_neg htl]; dsimp only; rw [if_neg (by decide)]) rfl) ?_
        rw [hM1, hfi, bs_some, if_pos u6]
        dsimp only
        rw [if_neg (by decide), uW.2.1, hk4, show mWd 4 = 4 from rfl, if_pos rfl, v6, if_neg (show ¬ nI tl = 0 from fun y => htl ((nI_eq (b := 0) (by omega) (by decide)).mp y)), hJ136]
    · refine fin0 c3 m6 fc3 (fun x _ => rc3 x) n2p2 (hC1 _ (by rw [q328, if_neg hk4]) rfl) ?_
      rw [hM1, hfi, bs_some]
      dsimp only
      by_cases h1 : wK w2 = 1
      · rw [if_neg (show ¬ mI m6 6 = 0 by rw [(p3 h1).1]; decide), if_pos rfl, hJ136]
      · obtain ⟨u6, u7, uW⟩ := p4 h1
        have uW : MW m6 w2 := uW
        rw [if_pos u6, if_neg (by decide), uW.2.1, if_neg (fun z => hk4 ?_), hJ136]
        have hz : ∀ k ∈ vks, mWd k = 4 → k = 4 := by decide
        exact hz _ uW.1 z
  · refine fin0 c2 m5 (cd_fr_refl _ _ _) (fun x _ => rc2 x) n2 (hC0 _ (by rw [k328, if_neg hk2]) rfl) ?_
    rw [hM0, hfi, bs_some]
    dsimp only
    by_cases h1 : wK w = 1
    · rw [if_neg (show ¬ mI m5 6 = 0 by rw [(n3 h1).1]; decide), if_pos rfl, hJ94]
    · obtain ⟨o6, o7, oW⟩ := n4 h1
      have oW : MW m5 w := oW
      rw [if_pos o6, if_neg (by decide), oW.2.1, if_neg (fun z => hk2 ?_), hJ94]
      have hz : ∀ k ∈ vks, mWd k = 1 → k = 2 := by decide
      exact hz _ oW.1 z
