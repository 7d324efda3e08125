/-! a unit that is got, as the model writes it -/
theorem eb_get {m : md_S} {S : Nat → Prop} {R : Bool} {L : Nat} {lo P : Int32 → Nat} {k b : Int32} : eb (hdF m S R) L lo P (2, k, b) = 2 :: pr (lo k) := by
  rw [eb_nd (e := (2, k, b)) (k := 2) rfl (by decide) (by decide), hd_no (e := (2, k, b)) (show (2 : Int32) ∉ [25, 26, 27, 10, 7, 8, 23] by decide), ops_v (Or.inl rfl)]
  rfl
theorem eb_pt {m : md_S} {S : Nat → Prop} {R : Bool} {L : Nat} {lo P : Int32 → Nat} {k b : Int32} : eb (hdF m S R) L lo P (3, k, b) = 3 :: pr (lo k) := by
  rw [eb_nd (e := (3, k, b)) (k := 3) rfl (by decide) (by decide), hd_no (e := (3, k, b)) (show (3 : Int32) ∉ [25, 26, 27, 10, 7, 8, 23] by decide), ops_v (Or.inr rfl)]
  rfl
theorem m_wuL {n : Nat} {m : md_S} {u U L bg q K : Nat} {S : Nat → Prop} {R : Bool} {lo P : Int32 → Nat} {l1 : Int32} (hw : WX n m u U L bg S R lo) (hq : q < U) (hK : aN m 44 q = K) (hK13 : K ≤ 13) (hv : ∀ x, x < K → aN m 45 (16 * q + x) < mN m 50 ∧ OC m u (aN m 45 (16 * q + x))) : ∀ (d j x : Nat) (σ : md_S) (p : Nat), x + d = K → d < j → md_fr [74, 75] m σ → mI σ 75 = nI p → p + 3 * d < 79990 → ∃ σ', f_X12_writeUnit_L2 n l1 (nI q) j σ (nI x) = some (σ', nI K) ∧ PUTS σ σ' p (ebs (hdF m S R) L lo P (((List.range K).drop x).map (fun y => ((2 : Int32), kv m (aN m 45 (16 * q + y)), (0 : Int32))))) := by
  obtain ⟨h1, h2, h3, h4, h5, h6, h7, h8, h9, h10, h11, h12, h13, h14⟩ := hw
  have hU := h1.2.1
  obtain ⟨c1, c2⟩ := h14 q hq
  rw [hK] at c1 c2
  intro d
  induction d with
  | zero =>
    intro j x σ p hx hj hf h75 hp
    obtain ⟨j, rfl⟩ : ∃ r, j = r + 1 := ⟨j - 1, by omega⟩
    obtain rfl : x = K := by omega
    refine ⟨σ, ?_, ?_⟩
    · rw [u_X12_writeUnit_L2, m_ld44 (by omega), bs_some, md_frA hf (by decide), c1, if_pos ((nI_leI (by omega) (by omega)).mpr (Nat.le_refl _))]
    · rw [List.drop_eq_nil_of_le (by simp)]
      exact PUTS.nil h75
  | succ d ih =>
    intro j x σ p hx hj hf h75 hp
    obtain ⟨j, rfl⟩ : ∃ r, j = r + 1 := ⟨j - 1, by omega⟩
    obtain ⟨v1, v2⟩ := hv x (by omega)
    obtain ⟨o1, o2⟩ := h9 _ v1 v2
    obtain ⟨s1, q1, q2⟩ := m_put2 (n := n) (b := 2) (x := lo (kv m (aN m 45 (16 * q + x)))) h75 (by omega) (by omega)
    have f1 : md_fr [74, 75] m s1 := md_fr_tr hf q2.1 (fun k hk => ⟨hk, hk⟩)
    obtain ⟨s2, r1, r2⟩ := ih j (x + 1) s1 (p + 3) (by omega) (by omega) f1 q2.2.1 (by omega)
    refine ⟨s2, ?_, ?_⟩
    · rw [u_X12_writeUnit_L2, m_ld44 (by omega), bs_some, md_frA hf (by decide), c1, if_neg (fun y => absurd ((nI_leI (by omega) (by omega)).mp y) (by omega)), show (16 : Int32) = nI 16 from rfl, nI_mul, nI_add, m_ld45 (by omega), bs_some, md_frA hf (by decide), c2 x (by omega), md_frI hf (by decide), h3, o2 σ hf, bs_some]
      dsimp only
      rw [show (2 : Int32) = nI 2 from rfl, q1, bs_some, nI_1]
      exact r1
    · have e : (List.range K).drop x = x :: (List.range K).drop (x + 1) := by
        rw [List.drop_eq_getElem_cons (by simp; omega), List.getElem_range]
      rw [e, List.map_cons, ebs_cons, eb_get]
      exact q2.tr r2
theorem HE_10 {m : md_S} {S : Nat → Prop} {e : EN} (h : e.1 = 10) : HE m S e ↔ mA m 36 (oN e.2.1) = 3 ∧ S (oN e.2.1) := by
  constructor
  · rintro (y | y | y | ⟨-, y⟩ | ⟨v, -, (⟨y, -⟩ | ⟨y, -⟩ | ⟨y, -⟩), -⟩)
    · rw [y] at h; exact absurd h (by decide)
    · rw [y] at h; exact absurd h (by decide)
    · rw [y] at h; exact absurd h (by decide)
    · exact y
    · rw [y] at h; exact absurd h (by decide)
    · rw [y] at h; exact absurd h (by decide)
    · rw [y] at h; exact absurd h (by decide)
  · exact fun y => Or.inr (Or.inr (Or.inr (Or.inl ⟨h, y⟩)))
theorem ebs_gts_len {m : md_S} {S : Nat → Prop} {R : Bool} {L q : Nat} {lo P : Int32 → Nat} : (ebs (hdF m S R) L lo P (gts m q)).length = 3 * aN m 44 q := by
  unfold gts
  generalize aN m 44 q = K
  have : ∀ l : List Nat, (ebs (hdF m S R) L lo P (l.map (fun x => ((2 : Int32), kv m (aN m 45 (16 * q + x)), (0 : Int32))))).length = 3 * l.length := by
    intro l
    induction l with
    | nil => rfl
    | cons a l ih =>
      rw [List.map_cons, ebs_cons, List.length_append, ih, eb_get, List.length_cons, List.length_cons, pr_len]
      omega
  rw [this, List.length_range]
theorem m_wunit {n : Nat} {m σ : md_S} {u U L bg i p t q : Nat} {S : Nat → Prop} {R : Bool} {lo P : Int32 → Nat} (hw : WX n m u U L bg S R lo) (hf : md_fr [74, 75] m σ) (h75 : mI σ 75 = nI p) (hp : p + 100 < 79990) (ht : t = 9 ∨ t = 10) (h66 : mA m 66 i = nI t) (h68 : mA m 68 i = nI q) (hq : q < U) (hK : aN m 44 q ≤ 13) (hv : ∀ x, x < aN m 44 q → aN m 45 (16 * q + x) < mN m 50 ∧ OC m u (aN m 45 (16 * q + x))) : ∃ σ', f_X12_writeUnit n σ (nI t) (nI q) = some (0, σ') ∧ PUTS σ σ' p (ebs (hdF m S R) L lo P (gts m q) ++ eb (hdF m S R) L lo P (nE m i)) := by
  have hU := hw.1.2.1
  have hn := hw.2.2.2.2.2.2.2.2.2.2.2.2.1
  have hS := hw.2.2.2.2.2.1
  obtain ⟨s1, a1, a2⟩ := m_wuL (P := P) (l1 := nI t) hw hq rfl hK hv (aN m 44 q) n 0 σ p (by omega) (by omega) hf h75 (by omega)
  rw [List.drop_zero] at a2
  have a2 : PUTS σ s1 p (ebs (hdF m S R) L lo P (gts m q)) := a2
  have hl := ebs_gts_len (m := m) (S := S) (R := R) (L := L) (q := q) (lo := lo) (P := P)
  have f1 : md_fr [74, 75] m s1 := md_fr_tr hf a2.1 (fun k hk => ⟨hk, hk⟩)
  have hops : ops lo P (nE m i) = pr q := by
    unfold nE
    rw [h66, h68, ops_n (by omega) (by rcases ht with rfl | rfl <;> decide)]
  have heb : eb (hdF m S R) L lo P (nE m i) = hB (hdF m S R (nE m i)) L t ++ pr q := by
    rw [eb_nd (e := nE m i) (k := t) h66 (by omega) (by omega), hops]
  have fin : ∀ (x : Int32) (Pp : Prop), bI Pp x → (hdF m S R (nE m i) = true ↔ R = true ∧ Pp) → ∃ σ', f_X12_writeUnit_J74 n s1 (nI q) x (nI t) = some (0, σ') ∧ PUTS σ σ' p (ebs (hdF m S R) L lo P (gts m q) ++ eb (hdF m S R) L lo P (nE m i)) := by
    intro x Pp hx hh
    obtain ⟨s2, b1, b2⟩ := m_begins (n := n) (k := t) hw f1 a2.2.1 (by omega) hx hh
    have hl1 : (hB (hdF m S R (nE m i)) L t).length ≤ 4 := by unfold hB; split <;> simp [pr]
    obtain ⟨s3, d1, d2⟩ := m_pn (n := n) (x := q) b2.2.1 (by omega) (by omega)
    refine ⟨s3, ?_, ?_⟩
    · unfold f_X12_writeUnit_J74
      rw [b1, bs_some]
      dsimp only
      rw [d1, bs_some]
    · rw [heb]
      exact a2.tr (b2.tr d2)
  unfold f_X12_writeUnit f_X12_writeUnit_J73
  rw [show f_X12_writeUnit_L2 n (nI t) (nI q) n σ 0 = _ from a1, bs_some]
  dsimp only
  have bf : bI False 0 := Or.inr ⟨rfl, fun y => y⟩
  rcases ht with rfl | rfl
  · rw [if_neg (show ¬ nI 9 = (10 : Int32) by decide)]
    refine fin 0 False bf ?_
    rw [hd_no (e := nE m i) (by show mA m 66 i ∉ _; rw [h66]; decide)]
    exact ⟨fun y => absurd y (by decide), fun y => y.2.elim⟩
  · rw [if_pos (show nI 10 = (10 : Int32) from rfl), m_ld36 (by omega), bs_some, md_frA f1 (by decide)]
    have hHE : HE m S (nE m i) ↔ mA m 36 q = 3 ∧ S q := by
      rw [HE_10 (e := nE m i) h66]
      show mA m 36 (oN (mA m 68 i)) = 3 ∧ S (oN (mA m 68 i)) ↔ _
      rw [h68, oN_nI (by omega)]
    by_cases h3 : mA m 36 q = 3
    · rw [if_pos h3, m_ld47 (by omega), bs_some, md_frA f1 (by decide)]
      by_cases h4 : mA m 47 q = 0
      · rw [if_pos h4]
        refine fin 0 False bf ?_
        rw [hdF_iff, hHE]
        exact ⟨fun y => absurd h4 ((hS q hq).mpr y.2.2), fun y => y.2.elim⟩
      · rw [if_neg h4]
        refine fin 1 True (Or.inl ⟨rfl, trivial⟩) ?_
        rw [hdF_iff, hHE]
        exact ⟨fun y => ⟨y.1, trivial⟩, fun y => ⟨y.1, h3, (hS q hq).mp h4⟩⟩
    · rw [if_neg h3]
      refine fin 0 False bf ?_
      rw [hdF_iff, hHE]
      exact ⟨fun y => absurd y.2.1 h3, fun y => y.2.elim⟩
