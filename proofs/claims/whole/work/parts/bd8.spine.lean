/-! spines, and whole trees -/
def spK : List Int32 := [5, 6, 7, 8, 11, 12, 13, 14, 15]
theorem m_isSp (n : Nat) (σ : md_S) (k : Int32) : f_X12_isSpine n σ k = some (if k ∈ spK then 1 else 0, σ) := by
  have h15 : (11 ≤ k.toInt ∧ k.toInt ≤ 15) ↔ (k = 11 ∨ k = 12 ∨ k = 13 ∨ k = 14 ∨ k = 15) := by
    constructor
    · rintro ⟨a, b⟩
      have : k.toInt = 11 ∨ k.toInt = 12 ∨ k.toInt = 13 ∨ k.toInt = 14 ∨ k.toInt = 15 := by omega
      rcases this with h | h | h | h | h
      · exact Or.inl (Int32.toInt_inj.mp (h.trans (by decide)))
      · exact Or.inr (Or.inl (Int32.toInt_inj.mp (h.trans (by decide))))
      · exact Or.inr (Or.inr (Or.inl (Int32.toInt_inj.mp (h.trans (by decide)))))
      · exact Or.inr (Or.inr (Or.inr (Or.inl (Int32.toInt_inj.mp (h.trans (by decide))))))
      · exact Or.inr (Or.inr (Or.inr (Or.inr (Int32.toInt_inj.mp (h.trans (by decide))))))
    · rintro (h | h | h | h | h) <;> rw [h] <;> decide
  unfold f_X12_isSpine f_X12_isSpine_J37
  by_cases h5 : k = 5
  · rw [if_pos h5, if_pos (by rw [h5]; decide)]
  rw [if_neg h5]
  by_cases h6 : k = 6
  · rw [if_pos h6, if_pos (by rw [h6]; decide)]
  rw [if_neg h6]
  by_cases h7 : k = 7
  · rw [if_pos h7, if_pos (by rw [h7]; decide)]
  rw [if_neg h7]
  by_cases h8 : k = 8
  · rw [if_pos h8, if_pos (by rw [h8]; decide)]
  rw [if_neg h8, m_in, bs_some]
  have e : k.toInt64.toInt = k.toInt := Int32.toInt_toInt64 k
  have e11 : (11 : Int64).toInt = 11 := by decide
  have e15 : (15 : Int64).toInt = 15 := by decide
  rw [e, e11, e15]
  by_cases hk : 11 ≤ k.toInt ∧ k.toInt ≤ 15
  · rw [if_pos hk]
    dsimp only
    have := h15.mp hk
    rw [if_neg (by decide), if_pos (by rcases this with h | h | h | h | h <;> rw [h] <;> decide)]
  · rw [if_neg hk]
    dsimp only
    rw [if_pos rfl, if_neg]
    intro y
    simp only [spK, List.mem_cons, List.mem_nil_iff, or_false] at y
    rcases y with h | h | h | h | h
    · exact h5 h
    · exact h6 h
    · exact h7 h
    · exact h8 h
    · exact hk (h15.mpr h)
theorem Gen.ns1 {m : md_S} {u f i l0 l1 : Nat} {es : List EN} {ns : List Nat} (h : Gen m u f i l0 l1 es ns) : 1 ≤ ns.length := by
  have := h.root.1
  cases ns with
  | nil => exact absurd this (by simp)
  | cons a l => simp
theorem GL.nsl {m : md_S} {u f : Nat} : ∀ {ch : List Nat} {l0 l1 : Nat} {ess : List (List EN)} {ns : List Nat}, GL (Gen m u f) ch l0 l1 ess ns → ch.length ≤ ns.length
  | [], _, _, _, _, _ => by simp
  | x :: xs, l0, l1, ess, ns, ⟨la, es, rest, n1, n2, h1, h2, h3, h4⟩ => by
      have := h1.ns1
      have := GL.nsl h2
      rw [h4, List.length_append, List.length_cons]; omega
theorem GL.cw {m : md_S} {u f : Nat} {W : Nat → List EN → Prop} : ∀ {ch : List Nat} {l0 l1 : Nat} {ess : List (List EN)} {ns : List Nat}, GL (Gen m u f) ch l0 l1 ess ns → (∀ x la lb e nx, Gen m u f x la lb e nx → (∀ j, j ∈ nx → j ∈ ns) → (ns.Nodup → nx.Nodup) → nx.length + (ch.length - 1) ≤ ns.length → W x e) → CW W ch ess
  | [], _, _, _, _, ⟨_, h, _⟩, _ => by rw [h]; trivial
  | x :: xs, l0, l1, ess, ns, ⟨la, es, rest, n1, n2, h1, h2, h3, h4⟩, hg => by
      rw [h3]
      have a1 := h1.ns1
      have a2 := h2.nsl
      refine ⟨hg x l0 la es n1 h1 (fun j hj => by rw [h4]; simp [hj]) (fun hn => by rw [h4] at hn; exact (List.nodup_append.mp hn).1) (by rw [h4, List.length_append, List.length_cons]; omega), GL.cw h2 (fun y lc ld e nx g1 g2 g3 g4 => hg y lc ld e nx g1 (fun j hj => by rw [h4]; simp [g2 j hj]) (fun hn => g3 (by rw [h4] at hn; exact (List.nodup_append.mp hn).2.1)) ?_)⟩
      have := g1.ns1
      rw [h4, List.length_append, List.length_cons]
      omega
theorem m_sibs {n : Nat} {rec : md_R} {m : md_S} {L bg : Nat} {S : Nat → Prop} {R : Bool} {lo P : Int32 → Nat} {x1 x2 : Int32} : ∀ (xs : List Nat) (ess : List (List EN)) (j : Nat) (σ : md_S) (p : Nat) (v : Int32), SB m v xs → CW (WR rec m bg (hdF m S R) L lo P) xs ess → xs.length < j → md_fr [74, 75] m σ → mI σ 75 = nI p → p + (ebs (hdF m S R) L lo P ess.flatten).length ≤ 79000 → bg ≤ p → LR (ebs (hdF m S R) L lo P) P (p - bg) ess.flatten → ∃ σ', f_X12_write_L53 n rec x1 x2 j σ v = some (σ', -1) ∧ PUTS σ σ' p (ebs (hdF m S R) L lo P ess.flatten)
  | [], ess, j, σ, p, v, hv, hW, hj, hf, h75, hp, hbg, hL => by
      obtain ⟨-, rfl⟩ := hW.n0 rfl
      obtain ⟨j, rfl⟩ : ∃ r, j = r + 1 := ⟨j - 1, by omega⟩
      have hv : v = -1 := hv
      refine ⟨σ, ?_, PUTS.nil h75⟩
      rw [u_X12_write_L53, if_pos hv, hv]
  | x :: xs, ess, j, σ, p, v, hv, hW, hj, hf, h75, hp, hbg, hL => by
      obtain ⟨x', xs', e, es, hh, rfl, w1, w2, -⟩ := hW.n1 (k := xs.length) rfl
      obtain ⟨rfl, rfl⟩ := List.cons.inj hh
      obtain ⟨v1, v2, v3⟩ := hv
      obtain ⟨j, rfl⟩ : ∃ r, j = r + 1 := ⟨j - 1, by omega⟩
      rw [List.flatten_cons] at hp hL ⊢
      have L1 := LR.sub (A := []) (es := e) (B := es.flatten) (by simpa using hL)
      have L2 := LR.sub (A := e) (es := es.flatten) (B := []) (by simpa using hL)
      rw [ebs_app, List.length_append] at hp
      obtain ⟨s2, b1, b2⟩ := w1 σ p hf h75 (by omega) hbg L1
      have f2 : md_fr [74, 75] m s2 := md_fr_tr hf b2.1 (fun k hk => ⟨hk, hk⟩)
      obtain ⟨s3, d1, d2⟩ := m_sibs xs es j s2 (p + (ebs (hdF m S R) L lo P e).length) _ v3 w2 (by simp at hj; omega) f2 b2.2.1 (by omega) (by omega) (by rw [show p + (ebs (hdF m S R) L lo P e).length - bg = p - bg + (ebs (hdF m S R) L lo P e).length by omega]; exact L2)
      refine ⟨s3, ?_, ?_⟩
      · rw [u_X12_write_L53, v1, if_neg (show ¬ nI x = -1 from nI_m1 (by omega)), b1, bs_some]
        dsimp only
        rw [m_ld71 v2, bs_some, md_frA f2 (by decide)]
        exact d1
      · rw [ebs_app]
        exact b2.tr d2
/-- from node i down its spine to y, and up again -/
def CHN (n : Nat) (rec : md_R) (m : md_S) (bg : Nat) (hd : EN → Bool) (L : Nat) (lo P : Int32 → Nat) (i : Nat) (es : List EN) (ns : List Nat) : Prop :=
  ∃ y d, d < ns.length ∧ (∀ (σ : md_S) (l1 : Int32) (j : Nat), md_fr [74, 75] m σ → f_X12_write_L2 n rec l1 (j + d + 1) σ (nI i) = some (σ, nI y)) ∧ ∀ (σ : md_S) (p : Nat), md_fr [74, 75] m σ → mI σ 75 = nI p → p + (ebs hd L lo P es).length ≤ 79000 → bg ≤ p → LR (ebs hd L lo P) P (p - bg) es → ∃ s1 σ', rec 1 (nI y) 0 0 σ = some (0, s1) ∧ PUTS σ σ' p (ebs hd L lo P es) ∧ ∀ (x : Int32) (j : Nat), (∀ z, z ∈ ns → z ≠ i → nI z ≠ x) → f_X12_write_L29 n rec x (j + d) s1 (nI y) = f_X12_write_L29 n rec x j σ' (nI i)
theorem Gw_0 (n g : Nat) (a b c : Int32) (σ : md_S) : md_Gw n (g + 1) 0 a b c σ = f_X12_write n (md_Gw n g) σ a := rfl
theorem Gw_1 (n g : Nat) (a b c : Int32) (σ : md_S) : md_Gw n (g + 1) 1 a b c σ = f_X12_writeOne n (md_Gw n g) σ a := rfl
theorem Gw_2 (n g : Nat) (a b c : Int32) (σ : md_S) : md_Gw n (g + 1) 2 a b c σ = f_X12_writeIf n (md_Gw n g) σ a := rfl
theorem Gw_3 (n g : Nat) (a b c : Int32) (σ : md_S) : md_Gw n (g + 1) 3 a b c σ = f_X12_writeTry n (md_Gw n g) σ a b := rfl
theorem CHN.wr {n g : Nat} {m : md_S} {bg L i : Nat} {S : Nat → Prop} {R : Bool} {lo P : Int32 → Nat} {es : List EN} {ns : List Nat} (h : CHN n (md_Gw n g) m bg (hdF m S R) L lo P i es ns) (hn : 5000 ≤ n) (hl : ns.length ≤ 2000) (hz : ∀ z, z ∈ ns → z < 2000) (hi : i < 2000) : WR (md_Gw n (g + 1)) m bg (hdF m S R) L lo P i es := by
  intro σ p hf h75 hp hbg hL
  obtain ⟨y, d, h1, h2, h3⟩ := h
  obtain ⟨s1, σ', a1, a2, a3⟩ := h3 σ p hf h75 hp hbg hL
  refine ⟨σ', ?_, a2⟩
  rw [Gw_0]
  unfold f_X12_write
  have e1 := h2 σ (nI i) (n - d - 1) hf
  rw [show n - d - 1 + d + 1 = n by omega] at e1
  rw [e1, bs_some]
  dsimp only
  rw [a1, bs_some]
  dsimp only
  have e2 := a3 (nI i) (n - d) (fun z hz1 hz2 y => hz2 ((nI_eq (by have := hz z hz1; omega) (by omega)).mp y))
  rw [show n - d + d = n by omega] at e2
  rw [e2]
  obtain ⟨k, hk⟩ : ∃ k, n - d = k + 1 := ⟨n - d - 1, by omega⟩
  rw [hk, u_X12_write_L29, if_pos rfl, bs_some]
theorem Gen.chn {n : Nat} {m : md_S} {u U L bg : Nat} {S : Nat → Prop} {R : Bool} {lo P : Int32 → Nat} (hn : 5000 ≤ n) (hw : WX n m u U L bg S R lo) : ∀ (f i l0 l1 : Nat) (es : List EN) (ns : List Nat), Gen m u f i l0 l1 es ns → ns.Nodup → (∀ j, j ∈ ns → j < 2000 ∧ (j < 900 → j < mN m 65)) → ns.length ≤ 2000 → ∀ g, 2 * ns.length ≤ g → CHN n (md_Gw n g) m bg (hdF m S R) L lo P i es ns := by
  have hU := hw.1.2.1
  have hu := hw.2.1
  intro f
  induction f with
  | zero => intro i l0 l1 es ns h; exact h.elim
  | succ f ih =>
    rintro i l0 l1 es ns ⟨g1, g2, ch, ess, n1, g3, g4, g5, g6, g7⟩ hnd hb hl g hg
    have hlen : ns.length = (um m i).length + n1.length + 1 := by rw [g6]; simp
    have hin : i ∈ ns := by rw [g6]; simp
    have hi65 := (hb i hin).2 g2
    have hn1 : ∀ j, j ∈ n1 → j ∈ ns := fun j hj => by rw [g6]; simp [hj]
    have hnd1 : n1.Nodup := by
      rw [g6] at hnd
      exact (List.nodup_append.mp (List.nodup_cons.mp hnd).2).2.1
    have hi1 : i ∉ n1 := by
      rw [g6] at hnd
      exact fun y => (List.nodup_cons.mp hnd).1 (List.mem_append_right _ y)
    have T : ∀ g', (∀ x la lb e nx, Gen m u f x la lb e nx → (∀ j, j ∈ nx → j ∈ n1) → (n1.Nodup → nx.Nodup) → nx.length + (ch.length - 1) ≤ n1.length → 2 * nx.length + 1 ≤ g') → CW (WR (md_Gw n g') m bg (hdF m S R) L lo P) ch ess := by
      intro g' hg'
      refine g4.cw (fun x la lb e nx q1 q2 q3 q4 => ?_)
      have hq := hg' x la lb e nx q1 q2 q3 q4
      obtain ⟨k, rfl⟩ : ∃ k, g' = k + 1 := ⟨g' - 1, by omega⟩
      have hbx : ∀ j, j ∈ nx → j < 2000 ∧ (j < 900 → j < mN m 65) := fun j hj => hb j (hn1 j (q2 j hj))
      have hroot := q1.root
      exact (ih x la lb e nx q1 (q3 hnd1) hbx (by omega) k (by omega)).wr hn (by omega) (fun z hz => (hbx z hz).1) (by omega)
    have h67 : aN m 67 i = u := aN_of g1 (by omega)
    by_cases hs : mA m 66 i ∈ spK
    · -- a spine
      have hc1 : 1 ≤ ch.length := by
        have wf := g7
        unfold WFN at wf
        simp only [spK, List.mem_cons, List.mem_nil_iff, or_false] at hs
        rcases hs with h | h | h | h | h | h | h | h | h <;> rw [h] at wf <;> simp (decide := true) at wf
        · omega
        · omega
        · obtain ⟨-, k, -, -, k3⟩ := wf; omega
        · obtain ⟨-, k, -, -, k3⟩ := wf; omega
        · omega
        · omega
        · omega
        · omega
        · omega
      have hcm : cmb m i l0 ess = ess.flatten ++ [nE m i] := cmb_d (by
        have : ∀ w : Int32, w ∈ spK → w ∉ [40, 41, 19, 42, 2, 9, 10] := by decide
        exact this _ hs)
      have hlb : lb (mA m 66 i) = 0 := by
        have : ∀ w : Int32, w ∈ spK → lb w = 0 := by decide
        exact this _ hs
      rw [hlb, Nat.add_zero] at g4
      have hsib := T g (fun x la lb e nx q1 q2 q3 q4 => by omega)
      cases ch with
      | nil => exact absurd hc1 (by simp)
      | cons c0 cs =>
        obtain ⟨la, e0, es', na, nb, k1, k2, k3, k4⟩ := g4
        have hna : ∀ j, j ∈ na → j ∈ ns := fun j hj => hn1 j (by rw [k4]; simp [hj])
        have hnla : na.length + cs.length ≤ n1.length := by
          have := k2.nsl
          rw [k4, List.length_append]; omega
        obtain ⟨y, d, d1, d2, d3⟩ := ih c0 l0 la e0 na k1 (by rw [k4] at hnd1; exact (List.nodup_append.mp hnd1).1) (fun j hj => hb j (hna j hj)) (by omega) g (by omega)
        obtain ⟨⟨r1, r2, r3⟩, c2, c3⟩ := g3
        have h72 := c3 c0 (by simp)
        rw [k3] at hsib hcm g5
        have hcs : CW (WR (md_Gw n g) m bg (hdF m S R) L lo P) cs es' := hsib.2
        have hroot0 := k1.root
        have hcsl : cs.length < 2000 := by omega
        refine ⟨y, d + 1, by omega, fun σ l1' j hf => ?_, fun σ p hf h75 hp hbg hL => ?_⟩
        · rw [show j + (d + 1) + 1 = (j + d + 1) + 1 by omega, u_X12_write_L2, m_ld66 g2, bs_some, md_frA hf (by decide), m_isSp, bs_some, if_pos hs]
          dsimp only
          rw [if_neg (by decide), m_ld70 g2, bs_some, md_frA hf (by decide), r1]
          exact d2 σ l1' j hf
        · rw [g5, hcm, List.flatten_cons] at hp hL ⊢
          have L1 := LR.sub (A := []) (es := e0) (B := es'.flatten ++ [nE m i]) (by simpa using hL)
          have L2 := LR.sub (A := e0) (es := es'.flatten) (B := [nE m i]) hL
          rw [ebs_app, ebs_app, List.length_append, List.length_append, ebs_one] at hp
          obtain ⟨s1, σ0, a1, a2, a3⟩ := d3 σ p hf h75 (by omega) hbg L1
          have f0 : md_fr [74, 75] m σ0 := md_fr_tr hf a2.1 (fun k hk => ⟨hk, hk⟩)
          obtain ⟨σ1, b1, b2⟩ := m_sibs (n := n) (x1 := 0) (x2 := 0) cs es' n σ0 _ _ r3 hcs (by omega) f0 a2.2.1 (by omega) (by omega) (by rw [show p + (ebs (hdF m S R) L lo P e0).length - bg = p - bg + (ebs (hdF m S R) L lo P e0).length by omega]; exact L2)
          have f1 : md_fr [74, 75] m σ1 := md_fr_tr f0 b2.1 (fun k hk => ⟨hk, hk⟩)
          obtain ⟨σ2, e1, e2⟩ := m_spine (P := P) hw f1 b2.2.1 (by omega) hi65 g7 hs
          refine ⟨s1, σ2, a1, ?_, fun x j hx => ?_⟩
          · rw [ebs_app, ebs_app, ebs_one]
            exact (a2.tr b2).go e2 (by rw [List.length_append]; omega)
          · rw [show j + (d + 1) = (j + 1) + d by omega, a3 x (j + 1) (fun z hz1 hz2 => hx z (hna z hz1) (fun y => hi1 (by rw [← y, k4]; simp [hz1])))]
            have hne : nI c0 ≠ x := hx c0 (hna c0 hroot0.1) (fun y => hi1 (by rw [← y, k4]; simp [hroot0.1]))
            have b1' : f_X12_write_L53 n (md_Gw n g) x (nI i) n σ0 (mA m 71 c0) = some (σ1, -1) := b1
            rw [u_X12_write_L29, if_neg hne, m_ld72 r2, bs_some, md_frA f0 (by decide), h72, m_ld70 g2, bs_some, md_frA f0 (by decide), r1, m_ld71 r2, bs_some, md_frA f0 (by decide), b1', bs_some]
            dsimp only
            rw [e1, bs_some]
    · -- no spine
      obtain ⟨k, rfl⟩ : ∃ k, g = k + 2 := ⟨g - 2, by omega⟩
      refine ⟨i, 0, by omega, fun σ l1' j hf => ?_, fun σ p hf h75 hp hbg hL => ?_⟩
      · rw [Nat.add_zero, u_X12_write_L2, m_ld66 g2, bs_some, md_frA hf (by decide), m_isSp, bs_some, if_neg hs]
        dsimp only
        rw [if_pos rfl]
      · rw [g5] at hp hL ⊢
        obtain ⟨s1, a1, a2⟩ := m_one (n := n) (rec := md_Gw n (k + 1)) (rec2 := md_Gw n k) hn hw (fun s a => Gw_2 n k a 0 0 s) (fun s a b => Gw_3 n k a b 0 s) (T (k + 1) (fun x la lb e nx q1 q2 q3 q4 => by omega)) (fun hk => T k (fun x la lb e nx q1 q2 q3 q4 => by
          have hj := g7.kj
          rcases hk with hk | hk
          · have := hj.2.2.1 hk; omega
          · have := hj.2.1 hk; omega)) g2 hi65 h67 g3 g7 hs hf h75 hp hbg hL
        exact ⟨s1, s1, by rw [Gw_1]; exact a1, a2, fun x j _ => rfl⟩
theorem Gen.wr {n : Nat} {m : md_S} {u U L bg : Nat} {S : Nat → Prop} {R : Bool} {lo P : Int32 → Nat} (hn : 5000 ≤ n) (hw : WX n m u U L bg S R lo) {f i l0 l1 g : Nat} {es : List EN} {ns : List Nat} (h : Gen m u f i l0 l1 es ns) (hnd : ns.Nodup) (hb : ∀ j, j ∈ ns → j < 2000 ∧ (j < 900 → j < mN m 65)) (hl : ns.length ≤ 2000) (hg : 2 * ns.length ≤ g) : WR (md_Gw n (g + 1)) m bg (hdF m S R) L lo P i es :=
  (Gen.chn hn hw f i l0 l1 es ns h hnd hb hl g hg).wr hn hl (fun z hz => (hb z hz).1) (by have := h.root.2.1; omega)
