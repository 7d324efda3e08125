/-! frames of the class; the tape: feed, end; what needs no program -/
def cd_fr (L : List Nat) (R : List Nat) (s t : cd_S) : Prop := (∀ f, f ∉ L → f ≠ 193 → s.1 f = t.1 f ∧ s.2.1 f = t.2.1 f ∧ s.2.2.1 f = t.2.2.1 f ∧ s.2.2.2.1 f = t.2.2.2.1 f ∧ s.2.2.2.2.1 f = t.2.2.2.2.1 f) ∧ ∀ r, r ∉ R → s.1 193 r = t.1 193 r ∧ s.2.2.2.2.2.1 r = t.2.2.2.2.2.1 r ∧ s.2.2.2.2.2.2 r = t.2.2.2.2.2.2 r
theorem cd_fr_refl (s : cd_S) (L R : List Nat) : cd_fr L R s s := ⟨fun _ _ _ => ⟨rfl, rfl, rfl, rfl, rfl⟩, fun _ _ => ⟨rfl, rfl, rfl⟩⟩
theorem cd_fr_tr {L1 L2 L3 R1 R2 R3 : List Nat} {s t u : cd_S} (h1 : cd_fr L1 R1 s t) (h2 : cd_fr L2 R2 t u) (h : ∀ k, k ∉ L3 → k ∉ L1 ∧ k ∉ L2) (hR : ∀ k, k ∉ R3 → k ∉ R1 ∧ k ∉ R2) : cd_fr L3 R3 s u := ⟨fun k hk h9 => by
  obtain ⟨a1, a2, a3, a4, a5⟩ := h1.1 k (h k hk).1 h9
  obtain ⟨b1, b2, b3, b4, b5⟩ := h2.1 k (h k hk).2 h9
  exact ⟨a1.trans b1, a2.trans b2, a3.trans b3, a4.trans b4, a5.trans b5⟩, fun r hr => by
  obtain ⟨a1, a2, a3⟩ := h1.2 r (hR r hr).1
  obtain ⟨b1, b2, b3⟩ := h2.2 r (hR r hr).2
  exact ⟨a1.trans b1, a2.trans b2, a3.trans b3⟩⟩
theorem cd_fr_mono {L1 L3 R1 R3 : List Nat} {s t : cd_S} (h1 : cd_fr L1 R1 s t) (h : ∀ k, k ∈ L1 → k ∈ L3) (hR : ∀ k, k ∈ R1 → k ∈ R3) : cd_fr L3 R3 s t := ⟨fun k hk h9 => h1.1 k (fun q => hk (h k q)) h9, fun r hr => h1.2 r (fun q => hr (hR r q))⟩
theorem cd_frI {L R : List Nat} {s t : cd_S} (h : cd_fr L R s t) {f : Nat} (hf : f ∉ L) (h9 : f ≠ 193) (i : Nat) : cI t f i = cI s f i := by rw [cI, cI, (h.1 f hf h9).1]
theorem cd_frJ {L R : List Nat} {s t : cd_S} (h : cd_fr L R s t) {f : Nat} (hf : f ∉ L) (h9 : f ≠ 193) (i : Nat) : cJ t f i = cJ s f i := by rw [cJ, cJ, (h.1 f hf h9).2.1]
theorem cd_frA {L R : List Nat} {s t : cd_S} (h : cd_fr L R s t) {f : Nat} (hf : f ∉ L) (h9 : f ≠ 193) (i j : Nat) : cAr t f i j = cAr s f i j := by rw [cAr, cAr, (h.1 f hf h9).2.2.1]
theorem cd_frL {L R : List Nat} {s t : cd_S} (h : cd_fr L R s t) {f : Nat} (hf : f ∉ L) (h9 : f ≠ 193) (i j : Nat) : cLr t f i j = cLr s f i j := by rw [cLr, cLr, (h.1 f hf h9).2.2.2.1]
theorem cd_frP {L R : List Nat} {s t : cd_S} (h : cd_fr L R s t) {f : Nat} (hf : f ∉ L) (h9 : f ≠ 193) (i : Nat) : cP t f i = cP s f i := by rw [cP, cP, (h.1 f hf h9).2.2.2.2]
theorem cd_frz {L R : List Nat} {s t : cd_S} (h : cd_fr L R s t) {r : Nat} (hr : r ∉ R) : cI t 193 r = cI s 193 r := (h.2 r hr).1.symm
theorem cd_frC {L R : List Nat} {s t : cd_S} (h : cd_fr L R s t) {r : Nat} (hr : r ∉ R) : cRC t r = cRC s r := (h.2 r hr).2.1.symm
theorem cd_frF {L R : List Nat} {s t : cd_S} (h : cd_fr L R s t) {r : Nat} (hr : r ∉ R) (j : Nat) : cRF t r j = cRF s r j := by rw [cRF, cRF, (h.2 r hr).2.2]
theorem cd_fr_SI {L R : List Nat} {s t : cd_S} (h : cd_fr L R s t) {f : Nat} (hf : f ∈ L) (h9 : f ≠ 193) (i : Nat) (v : Int32) : cd_fr L R s (cSI t f i v) := ⟨fun g hg h8 => by
  obtain ⟨a1, a2, a3, a4, a5⟩ := h.1 g hg h8
  refine ⟨?_, a2, a3, a4, a5⟩
  funext j
  show s.1 g j = if g = f ∧ j = i then v else t.1 g j
  rw [if_neg (fun e => hg (by rw [e.1]; exact hf)), a1], fun r hr => by
  obtain ⟨a1, a2, a3⟩ := h.2 r hr
  refine ⟨?_, a2, a3⟩
  show s.1 193 r = if 193 = f ∧ r = i then v else t.1 193 r
  rw [if_neg (fun e => h9 e.1.symm), a1]⟩
theorem cd_fr_SZ {L R : List Nat} {s t : cd_S} (h : cd_fr L R s t) {r : Nat} (hr : r ∈ R) (v : Int32) : cd_fr L R s (cSI t 193 r v) := ⟨fun g hg h8 => by
  obtain ⟨a1, a2, a3, a4, a5⟩ := h.1 g hg h8
  refine ⟨?_, a2, a3, a4, a5⟩
  funext j
  show s.1 g j = if g = 193 ∧ j = r then v else t.1 g j
  rw [if_neg (fun e => h8 e.1), a1], fun i hi => by
  obtain ⟨a1, a2, a3⟩ := h.2 i hi
  refine ⟨?_, a2, a3⟩
  show s.1 193 i = if 193 = 193 ∧ i = r then v else t.1 193 i
  rw [if_neg (fun e => hi (by rw [e.2]; exact hr)), a1]⟩
theorem cd_fr_SJ {L R : List Nat} {s t : cd_S} (h : cd_fr L R s t) {f : Nat} (hf : f ∈ L) (i : Nat) (v : Int64) : cd_fr L R s (cSJ t f i v) := ⟨fun g hg h8 => by
  obtain ⟨a1, a2, a3, a4, a5⟩ := h.1 g hg h8
  refine ⟨a1, ?_, a3, a4, a5⟩
  funext j
  show s.2.1 g j = if g = f ∧ j = i then v else t.2.1 g j
  rw [if_neg (fun e => hg (by rw [e.1]; exact hf)), a2], fun r hr => h.2 r hr⟩
theorem cd_fr_SA {L R : List Nat} {s t : cd_S} (h : cd_fr L R s t) {f : Nat} (hf : f ∈ L) (i x : Nat) (v : Int32) : cd_fr L R s (cSA t f i x v) := ⟨fun g hg h8 => by
  obtain ⟨a1, a2, a3, a4, a5⟩ := h.1 g hg h8
  refine ⟨a1, a2, ?_, a4, a5⟩
  funext j
  show s.2.2.1 g j = if g = f ∧ j = i then upd (t.2.2.1 f i) x v else t.2.2.1 g j
  rw [if_neg (fun e => hg (by rw [e.1]; exact hf)), a3], fun r hr => h.2 r hr⟩
theorem cd_fr_SL {L R : List Nat} {s t : cd_S} (h : cd_fr L R s t) {f : Nat} (hf : f ∈ L) (i x : Nat) (v : Int64) : cd_fr L R s (cSL t f i x v) := ⟨fun g hg h8 => by
  obtain ⟨a1, a2, a3, a4, a5⟩ := h.1 g hg h8
  refine ⟨a1, a2, a3, ?_, a5⟩
  funext j
  show s.2.2.2.1 g j = if g = f ∧ j = i then vp_updL (t.2.2.2.1 f i) x v else t.2.2.2.1 g j
  rw [if_neg (fun e => hg (by rw [e.1]; exact hf)), a4], fun r hr => h.2 r hr⟩
theorem cd_fr_SP {L R : List Nat} {s t : cd_S} (h : cd_fr L R s t) {f : Nat} (hf : f ∈ L) (i v : Nat) : cd_fr L R s (cSP t f i v) := ⟨fun g hg h8 => by
  obtain ⟨a1, a2, a3, a4, a5⟩ := h.1 g hg h8
  refine ⟨a1, a2, a3, a4, ?_⟩
  funext j
  show s.2.2.2.2.1 g j = if g = f ∧ j = i then v else t.2.2.2.2.1 g j
  rw [if_neg (fun e => hg (by rw [e.1]; exact hf)), a5], fun r hr => h.2 r hr⟩
theorem cd_fr_SF {L R : List Nat} {s t : cd_S} (h : cd_fr L R s t) {r : Nat} (hr : r ∈ R) (x : Nat) (v : Int64) : cd_fr L R s (cSF t r x v) := ⟨h.1, fun i hi => by
  obtain ⟨a1, a2, a3⟩ := h.2 i hi
  refine ⟨a1, a2, ?_⟩
  show s.2.2.2.2.2.2 i = if i = r then vp_updL (t.2.2.2.2.2.2 r) x v else t.2.2.2.2.2.2 i
  rw [if_neg (fun e => hi (by rw [e]; exact hr)), a3]⟩
theorem cd_fr_add {L R : List Nat} {s t : cd_S} (h : cd_fr L R s t) {r : Nat} (hr : r ∈ R) (v : Int64) : cd_fr L R s (rAdd t r v) := by
  unfold rAdd
  refine cd_fr_SZ (cd_fr_SF ?_ hr _ _) hr _
  split
  · exact h
  · refine ⟨h.1, fun i hi => ?_⟩
    obtain ⟨a1, a2, a3⟩ := h.2 i hi
    refine ⟨a1, ?_, ?_⟩
    · show s.2.2.2.2.2.1 i = if i = r then _ else t.2.2.2.2.2.1 i
      rw [if_neg (fun e => hi (by rw [e]; exact hr)), a2]
    · show s.2.2.2.2.2.2 i = if i = r then _ else t.2.2.2.2.2.2 i
      rw [if_neg (fun e => hi (by rw [e]; exact hr)), a3]
theorem Bd.fr {C : Nat × Nat} {L : List Nat} {s t : cd_S} {b : cd_B} (h : Bd C s b) (hf : cd_fr L [] s t) : Bd C t b :=
  h.of (fun r _ => cd_frz hf (by simp)) (fun r _ => cd_frC hf (by simp))
theorem m_inS (n : Nat) (s : md_S) (a lo hi : Int64) : f_X12_in n s a lo hi = some (if lo.toInt ≤ a.toInt ∧ a.toInt ≤ hi.toInt then 1 else 0, s) := by
  unfold f_X12_in
  simp only [lg_cmp_lt, lg_cmp_gt, Int64.lt_iff_toInt_lt]
  by_cases h1 : a.toInt < lo.toInt
  · rw [if_pos h1, if_neg (by omega)]
  · rw [if_neg h1]
    by_cases h2 : hi.toInt < a.toInt
    · rw [if_pos h2, if_neg (by omega)]
    · rw [if_neg h2, if_pos (by omega)]
/-- byte c / 8 of an int -/
def by8 (w : Int32) (c : Nat) : Int32 := (w >>> nI c) &&& 255
theorem by8_nar (x : Int32) : vp_nar .byte x = x.toInt8.toInt32 := rfl
theorem by8_cls (w : Int32) (c : Nat) (hc : c = 24 ∨ c = 16 ∨ c = 8 ∨ c = 0) : vp_nar .byte ((w.toUInt32 >>> ((nI c).toUInt32 &&& Int32.toUInt32 31)).toInt32.toInt8.toInt32) &&& 255 = by8 w c := by
  have h255 : ∀ i : Fin 32, (255#32)[i.val] = decide (i.val < 8) := by decide
  rw [by8_nar]
  unfold by8
  apply Int32.toBitVec_inj.mp
  rcases hc with rfl | rfl | rfl | rfl
  all_goals
    simp [nI]
    ext i hi
    simp
    rw [h255 ⟨i, hi⟩]
    by_cases h8 : i < 8
    · simp [h8, BitVec.getElem_signExtend, BitVec.getElem_sshiftRight, hi, show i < 32 by omega]
      all_goals
        split
        · rename_i h; exact BitVec.getLsbD_eq_getElem h
        · omega
    · simp [h8]
theorem c_pbS {n : Nat} {w : Int32} {j t c : Nat} {s : cd_S} (hc : c = 24 ∨ c = 16 ∨ c = 8 ∨ c = 0) (h : cI s 353 0 = nI t) (ht : t < 3000) : ∃ x, x &&& 255 = by8 w c ∧ f_X11_putBytes_L3 n w (j + 1) s (nI c) = f_X11_putBytes_L3 n w j (cSI (cSA s 352 0 t x) 353 0 (nI (t + 1))) (nI c + (-8)) := by
  refine ⟨_, by8_cls w c hc, ?_⟩
  rw [u_X11_putBytes_L3, if_neg (show ¬ nI c < 0 from nI_nn (by omega)), h, if_neg (show ¬ (3000 : Int32) ≤ nI t from fun z => absurd ((nI_leI (a := 3000) (by decide) (by omega)).mp z) (by omega)), c_st352 ht, bs_some, bs_some, cI_SA, h, nI_1]
/-- four bytes of an int, the highest first -/
theorem c_putBytes {n : Nat} {s : cd_S} {w : Int32} {t : Nat} (hn : 5 ≤ n) (h : cI s 353 0 = nI t) (ht : t + 4 ≤ 3000) : ∃ s', f_X11_putBytes n s w = some (0, s') ∧ cI s' 353 0 = nI (t + 4) ∧ (∀ i, cAr s' 352 0 i &&& 255 = if t ≤ i ∧ i < t + 4 then by8 w (24 - 8 * (i - t)) else cAr s 352 0 i &&& 255) ∧ cd_fr [352, 353] [] s s' := by
  obtain ⟨m, rfl⟩ : ∃ m, n = m + 5 := ⟨n - 5, by omega⟩
  obtain ⟨x1, q1, e1⟩ := c_pbS (n := m + 5) (w := w) (j := m + 4) (c := 24) (Or.inl rfl) h (by omega)
  obtain ⟨x2, q2, e2⟩ := c_pbS (n := m + 5) (w := w) (j := m + 3) (c := 16) (t := t + 1) (s := cSI (cSA s 352 0 t x1) 353 0 (nI (t + 1))) (Or.inr (Or.inl rfl)) rfl (by omega)
  obtain ⟨x3, q3, e3⟩ := c_pbS (n := m + 5) (w := w) (j := m + 2) (c := 8) (t := t + 2) (s := cSI (cSA (cSI (cSA s 352 0 t x1) 353 0 (nI (t + 1))) 352 0 (t + 1) x2) 353 0 (nI (t + 2))) (Or.inr (Or.inr (Or.inl rfl))) rfl (by omega)
  obtain ⟨x4, q4, e4⟩ := c_pbS (n := m + 5) (w := w) (j := m + 1) (c := 0) (t := t + 3) (s := cSI (cSA (cSI (cSA (cSI (cSA s 352 0 t x1) 353 0 (nI (t + 1))) 352 0 (t + 1) x2) 353 0 (nI (t + 2))) 352 0 (t + 2) x3) 353 0 (nI (t + 3))) (Or.inr (Or.inr (Or.inr rfl))) rfl (by omega)
  refine ⟨cSI (cSA (cSI (cSA (cSI (cSA (cSI (cSA s 352 0 t x1) 353 0 (nI (t + 1))) 352 0 (t + 1) x2) 353 0 (nI (t + 2))) 352 0 (t + 2) x3) 353 0 (nI (t + 3))) 352 0 (t + 3) x4) 353 0 (nI (t + 4)), ?_, rfl, fun i => ?_, ?_⟩
  · unfold f_X11_putBytes
    rw [show (24 : Int32) = nI 24 from rfl, e1, show nI 24 + (-8) = nI 16 by decide, e2, show nI 16 + (-8) = nI 8 by decide, e3, show nI 8 + (-8) = nI 0 by decide, e4, u_X11_putBytes_L3, if_pos (by decide), bs_some]
  · simp only [cA_SI, cA_SA, and_self, if_true]
    by_cases h0 : i = t
    · subst h0
      simp only [show ¬ i = i + 3 by omega, show ¬ i = i + 2 by omega, show ¬ i = i + 1 by omega, if_false, if_true]
      rw [q1, if_pos (by omega)]; congr 1; omega
    by_cases h1 : i = t + 1
    · subst h1
      simp only [show ¬ t + 1 = t + 3 by omega, show ¬ t + 1 = t + 2 by omega, if_false, if_true]
      rw [q2, if_pos (by omega)]; congr 1; omega
    by_cases h2 : i = t + 2
    · subst h2
      simp only [show ¬ t + 2 = t + 3 by omega, if_false, if_true]
      rw [q3, if_pos (by omega)]; congr 1; omega
    by_cases h3 : i = t + 3
    · subst h3
      simp only [if_true]
      rw [q4, if_pos (by omega)]; congr 1; omega
    · simp only [h0, h1, h2, h3, if_false]
      rw [if_neg (by omega)]
  · refine cd_fr_SI (cd_fr_SA (cd_fr_SI (cd_fr_SA (cd_fr_SI (cd_fr_SA (cd_fr_SI (cd_fr_SA (cd_fr_refl _ _ _) ?_ _ _ _) ?_ ?_ _ _) ?_ _ _ _) ?_ ?_ _ _) ?_ _ _ _) ?_ ?_ _ _) ?_ _ _ _) ?_ ?_ _ _
    all_goals decide
/-- the bytes that feed brings -/
def fdB (a b c d e : Int32) (k : Nat) : Int32 := by8 (if k < 4 then a else if k < 8 then b else if k < 12 then c else if k < 16 then d else e) (24 - 8 * (k % 4))
theorem m_fdL {n : Nat} {a b c d e : Int32} {t : Nat} (ht : t + 20 ≤ 3000) : ∀ (r j k : Nat) (s : md_S), k + r = 20 → r < j → mI s 2 = nI (t + k) → ∃ s', f_X12_feed_L23 n a b c d e j s (nI k) = some (s', nI 20) ∧ mI s' 2 = nI (t + 20) ∧ (∀ i, mA s' 1 i = if t + k ≤ i ∧ i < t + 20 then fdB a b c d e (i - t) else mA s 1 i) ∧ md_fr [1, 2] s s' := by
  have hsh : ∀ k : Fin 20, ((24 : Int32) - ((8 : Int32) * (nI k.val - nI k.val / ((4 : Int32)) * ((4 : Int32))))) &&& 31 = nI (24 - 8 * (k.val % 4)) := by decide
  intro r
  induction r with
  | zero =>
    intro j k s hk hj h
    obtain ⟨j, rfl⟩ : ∃ m, j = m + 1 := ⟨j - 1, by omega⟩
    obtain rfl : k = 20 := by omega
    refine ⟨s, ?_, h, fun i => by rw [if_neg (by omega)], md_fr_refl _ _⟩
    rw [u_X12_feed_L23, if_pos (by decide)]
  | succ r ih =>
    intro j k s hk hj h
    obtain ⟨j, rfl⟩ : ∃ m, j = m + 1 := ⟨j - 1, by omega⟩
    have hk20 : k < 20 := by omega
    have hstep : ∀ w, f_X12_feed_J76 n a b c d e (f_X12_feed_L23 n a b c d e j) s (nI k) w = f_X12_feed_L23 n a b c d e j (mSI (mSA s 1 (t + k) (by8 w (24 - 8 * (k % 4)))) 2 (nI (t + (k + 1)))) (nI (k + 1)) := fun w => by
      unfold f_X12_feed_J76
      rw [h, hsh ⟨k, hk20⟩, m_st1 (by omega), bs_some, bs_some, mI_SA, h, nI_1, nI_1]
      rfl
    obtain ⟨s', f1, f2, f3, f4⟩ := ih j (k + 1) (mSI (mSA s 1 (t + k) (fdB a b c d e k)) 2 (nI (t + (k + 1)))) (by omega) (by omega) rfl
    refine ⟨s', ?_, f2, fun i => ?_, ?_⟩
    · have hle : ∀ m, m < 2 ^ 31 → ((OfNat.ofNat m : Int32) ≤ nI k ↔ m ≤ k) := fun m hm => nI_leI hm (by omega)
      have h20 := (hle 20 (by decide)); have h4 := (hle 4 (by decide)); have h8 := (hle 8 (by decide)); have h12 := (hle 12 (by decide)); have h16 := (hle 16 (by decide))
      rw [u_X12_feed_L23, if_neg (fun z => absurd (h20.mp z) (by omega)), hstep, hstep, hstep, hstep, hstep]
      rw [← f1]
      unfold fdB
      by_cases q4 : 4 ≤ k
      · rw [if_pos (h4.mpr q4), if_neg (by omega : ¬ k < 4)]
        by_cases q8 : 8 ≤ k
        · rw [if_pos (h8.mpr q8), if_neg (by omega : ¬ k < 8)]
          by_cases q12 : 12 ≤ k
          · rw [if_pos (h12.mpr q12), if_neg (by omega : ¬ k < 12)]
            by_cases q16 : 16 ≤ k
            · rw [if_pos (h16.mpr q16), if_neg (by omega : ¬ k < 16)]
            · rw [if_neg (fun z => q16 (h16.mp z)), if_pos (by omega : k < 16)]
          · rw [if_neg (fun z => q12 (h12.mp z)), if_pos (by omega : k < 12)]
        · rw [if_neg (fun z => q8 (h8.mp z)), if_pos (by omega : k < 8)]
      · rw [if_neg (fun z => q4 (h4.mp z)), if_pos (by omega : k < 4)]
    · rw [f3 i, mA_SI, mA_SA, if_pos rfl]
      by_cases hi : i = t + k
      · rw [if_neg (by omega), if_pos hi, if_pos (by omega), hi, Nat.add_sub_cancel_left]
      · rw [if_neg hi]
        by_cases h1 : t + (k + 1) ≤ i ∧ i < t + 20
        · rw [if_pos h1, if_pos (by omega)]
        · rw [if_neg h1, if_neg (by omega)]
    · exact md_fr_tr (L1 := [1, 2]) (L2 := [1, 2]) (md_fr_SI (md_fr_SA (md_fr_refl _ _) (by decide) _ _) (by decide) _) f4 (fun k hk => ⟨hk, hk⟩)
/-- the tapes are the same: t bytes -/
def TR (c : cd_S) (m : md_S) (t : Nat) : Prop := t ≤ 3000 ∧ cI c 353 0 = nI t ∧ mI m 2 = nI t ∧ ∀ i, i < t → mA m 1 i = cAr c 352 0 i &&& 255
theorem feed_ok {n : Nat} {c : cd_S} {m : md_S} {t : Nat} (hn : 100 ≤ n) (h : TR c m t) (a b d e g : Int32) : ∃ r c' m', f_X11_feed n c a b d e g = some (r, c') ∧ f_X12_feed n m a b d e g = some (r, m') ∧ cd_fr [352, 353] [] c c' ∧ md_fr [0, 1, 2] m m' ∧ (TR c' m' (t + 20) ∨ TR c' m' t) ∧ mI m' 0 = 0 := by
  obtain ⟨h1, h2, h3, h4⟩ := h
  by_cases q : t ≤ 2980
  · obtain ⟨c1, e1, a1, b1, f1⟩ := c_putBytes (n := n) (w := a) (by omega) h2 (by omega)
    obtain ⟨c2, e2, a2, b2, f2⟩ := c_putBytes (n := n) (w := b) (by omega) a1 (by omega)
    obtain ⟨c3, e3, a3, b3, f3⟩ := c_putBytes (n := n) (w := d) (by omega) a2 (by omega)
    obtain ⟨c4, e4, a4, b4, f4⟩ := c_putBytes (n := n) (w := e) (by omega) a3 (by omega)
    obtain ⟨c5, e5, a5, b5, f5⟩ := c_putBytes (n := n) (w := g) (by omega) a4 (by omega)
    obtain ⟨m', g1, g2, g3, g4⟩ := m_fdL (n := n) (a := a) (b := b) (c := d) (d := e) (e := g) (t := t) (by omega) 20 n 0 (mSI m 0 0) rfl (by omega) h3
    refine ⟨1, c5, m', ?_, ?_, ?_, ?_, Or.inl ⟨by omega, by rw [a5], g2, fun i hi => ?_⟩, ?_⟩
    · unfold f_X11_feed
      rw [h2, if_pos (show nI t ≤ (2980 : Int32) from (nI_leI (b := 2980) (by omega) (by decide)).mpr q), e1, bs_some, e2, bs_some, e3, bs_some, e4, bs_some, e5, bs_some]
    · unfold f_X12_feed
      rw [bs_some, mI_SIo (by decide), h3, show (20 : Int32) = nI 20 from rfl, nI_add, if_pos (show nI (t + 20) ≤ (3000 : Int32) from (nI_leI (b := 3000) (by omega) (by decide)).mpr (by omega)), show f_X12_feed_L23 n a b d e g n (mSI m 0 0) 0 = some (m', nI 20) from g1, bs_some]
    · have tr : ∀ {x y z : cd_S}, cd_fr [352, 353] [] x y → cd_fr [352, 353] [] y z → cd_fr [352, 353] [] x z := fun u v => cd_fr_tr u v (fun k hk => ⟨hk, hk⟩) (fun k hk => ⟨hk, hk⟩)
      exact tr f1 (tr f2 (tr f3 (tr f4 f5)))
    · exact md_fr_tr (L1 := [0]) (L2 := [1, 2]) (md_fr_SI (md_fr_refl _ _) (by decide) _) g4 (fun k hk => ⟨fun z => hk (by simp at z; simp [z]), fun z => hk (by simp at z; simp; omega)⟩)
    · rw [g3 i, b5 i, b4 i, b3 i, b2 i, b1 i, mA_SI]
      unfold fdB
      have h4i := h4 i
      repeat' split
      all_goals first
        | (exfalso; omega)
        | (congr 1; omega)
        | (exact h4i (by omega))
    · rw [md_frI g4 (by decide), mI_SIe]
  · refine ⟨0, c, mSI m 0 0, ?_, ?_, cd_fr_refl _ _ _, md_fr_SI (md_fr_refl _ _) (by decide) _, Or.inr ⟨h1, h2, by rw [mI_SIo (by decide)]; exact h3, fun i hi => by rw [mA_SI]; exact h4 i hi⟩, rfl⟩
    · unfold f_X11_feed
      rw [h2, if_neg (show ¬ nI t ≤ (2980 : Int32) from fun z => q ((nI_leI (b := 2980) (by omega) (by decide)).mp z))]
    · unfold f_X12_feed
      rw [bs_some, mI_SIo (by decide), h3, show (20 : Int32) = nI 20 from rfl, nI_add, if_neg (show ¬ nI (t + 20) ≤ (3000 : Int32) from fun z => absurd ((nI_leI (b := 3000) (by omega) (by decide)).mp z) (by omega))]
theorem end_ok {n : Nat} {c : cd_S} {m : md_S} {t : Nat} (h : TR c m t) (a : Int32) : ∃ r c' m', f_X11_end n c a = some (r, c') ∧ f_X12_end n m a = some (r, m') ∧ cd_fr [353] [] c c' ∧ md_fr [0, 2] m m' ∧ (∃ t', t' ≤ t ∧ TR c' m' t') ∧ mI m' 0 = 0 := by
  obtain ⟨h1, h2, h3, h4⟩ := h
  have hin : f_X12_in n (mSI m 0 0) a.toInt64 0 (mI (mSI m 0 0) 2).toInt64 = some (if 0 ≤ a.toInt ∧ a.toInt ≤ (t : Int) then 1 else 0, mSI m 0 0) := by
    rw [m_inS, mI_SIo (by decide), h3, Int32.toInt_toInt64, Int32.toInt_toInt64, nI_toInt (by omega), show (0 : Int64).toInt = 0 by decide]
  have hlt : a < 0 ↔ a.toInt < 0 := by rw [Int32.lt_iff_toInt_lt, show (0 : Int32).toInt = 0 by decide]
  have hle : a ≤ nI t ↔ a.toInt ≤ (t : Int) := by rw [Int32.le_iff_toInt_le, nI_toInt (by omega)]
  by_cases q : 0 ≤ a.toInt ∧ a.toInt ≤ (t : Int)
  · have ha : a = nI a.toInt.toNat := Int32.toInt_inj.mp (by rw [nI_toInt (by omega)]; omega)
    refine ⟨1, cSI c 353 0 a, mSI (mSI m 0 0) 2 a, ?_, ?_, cd_fr_SI (cd_fr_refl _ _ _) (by decide) (by decide) _ _, md_fr_SI (md_fr_SI (md_fr_refl _ _) (by decide) _) (by decide) _, ⟨a.toInt.toNat, by omega, by omega, by rw [cI_SIe]; exact ha, by rw [mI_SIe]; exact ha, fun i hi => ?_⟩, rfl⟩
    · unfold f_X11_end
      rw [if_neg (fun z => absurd (hlt.mp z) (by omega)), h2, if_pos (hle.mpr q.2), bs_some]
    · unfold f_X12_end
      rw [bs_some, hin, bs_some]
      dsimp only
      rw [if_neg (by rw [if_pos q]; decide), bs_some]
    · rw [mA_SI, mA_SI, cA_SI]; exact h4 i (by omega)
  · refine ⟨0, c, mSI m 0 0, ?_, ?_, cd_fr_refl _ _ _, md_fr_SI (md_fr_refl _ _) (by decide) _, ⟨t, Nat.le_refl _, h1, h2, by rw [mI_SIo (by decide)]; exact h3, fun i hi => by rw [mA_SI]; exact h4 i hi⟩, rfl⟩
    · unfold f_X11_end
      by_cases q1 : a.toInt < 0
      · rw [if_pos (hlt.mpr q1)]
      · rw [if_neg (fun z => q1 (hlt.mp z)), h2, if_neg (fun z => q ⟨by omega, hle.mp z⟩)]
    · unfold f_X12_end
      rw [bs_some, hin, bs_some]
      dsimp only
      rw [if_pos (by rw [if_neg q])]
theorem fault_ok {n : Nat} {c : cd_S} {m : md_S} (h1 : cI c 139 0 = mI m 6) (h2 : cI c 140 0 = mI m 7) (a : Int32) : ∃ r, f_X11_fault n c a = some (r, c) ∧ f_X12_fault n m a = some (r, mSI m 0 0) := by
  unfold f_X11_fault f_X12_fault
  rw [bs_some, mI_SIo (by decide), mI_SIo (by decide), h1, h2]
  by_cases q : a = 0
  · rw [if_pos q, if_pos q]; exact ⟨_, rfl, rfl⟩
  · rw [if_neg q, if_neg q]
    by_cases q1 : a = 1
    · rw [if_pos q1, if_pos q1]; exact ⟨_, rfl, rfl⟩
    · rw [if_neg q1, if_neg q1]; exact ⟨_, rfl, rfl⟩
