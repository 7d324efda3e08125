/-! what begins an expression; depth -/
def bpL : List Int32 := [2, 3, 123, 40, 220, 221, 222, 223, 224, 225, 226, 227, 228, 229, 230, 231, 232]
def beL : List Int32 := [213, 215, 218] ++ bpL
def cbp (k : Int32) : Int32 := if k = 2 then 1 else if k = 3 then 1 else if k = 123 then 1 else if k = 40 then 1 else if k < 220 then 0 else if 232 < k then 0 else 1
theorem c_bp {n : Nat} {c : cd_S} {k : Int32} (h : cI c 328 0 = k) : f_X10_beginsPrefix n c = some (cbp k, c) := by
  unfold f_X10_beginsPrefix cbp
  rw [h]
  repeat' split
  all_goals rfl
theorem cbp_v : ∀ k, k ∈ vks → cbp k = if k ∈ bpL then 1 else 0 := by decide
theorem c_be {n : Nat} {c : cd_S} {k : Int32} (h : cI c 328 0 = k) : f_X10_beginsExpression n c = some (if k = 213 ∨ k = 215 ∨ k = 218 then 1 else if cbp k = 0 then 0 else 1, c) := by
  unfold f_X10_beginsExpression f_X10_beginsExpression_J37
  rw [h, c_bp h]
  by_cases h1 : k = 213
  · rw [if_pos h1, if_pos (Or.inl h1)]
  · rw [if_neg h1]
    by_cases h2 : k = 215
    · rw [if_pos h2, if_pos (Or.inr (Or.inl h2))]
    · rw [if_neg h2]
      by_cases h3 : k = 218
      · rw [if_pos h3, if_pos (Or.inr (Or.inr h3))]
      · rw [if_neg h3, if_neg (fun q => q.elim h1 (fun q => q.elim h2 h3)), bs_some]
        dsimp only
        split <;> rfl
theorem cbe_v : ∀ k, k ∈ vks → (if k = 213 ∨ k = 215 ∨ k = 218 then (1 : Int32) else if cbp k = 0 then 0 else 1) = if k ∈ beL then 1 else 0 := by decide
def mbp (wd vl : Int32) : Int32 := if wd = 1 then 1 else if wd = 3 then 1 else if wd = 5 then (if vl = 123 then 1 else if vl = 40 then 1 else 0) else if wd = 2 then (if vl = 10 then 1 else if vl = 11 then 1 else if vl = 12 then 1 else if vl = 13 then 1 else if vl = 14 then 1 else if vl = 15 then 1 else if vl = 16 then 1 else if vl = 17 then 1 else if vl = 18 then 1 else if vl = 19 then 1 else if vl = 20 then 1 else if vl = 21 then 1 else if vl = 22 then 1 else 0) else 0
theorem ite_some2 {p : Prop} [Decidable p] {a b : Int32} {m : md_S} : (if p then some (a, m) else some (b, m)) = some (if p then a else b, m) := by
  split <;> rfl
theorem m_bp0 {n : Nat} {m : md_S} : f_X12_beginsPrefix n m = some (mbp (mI m 8) (mI m 11), m) := by
  unfold f_X12_beginsPrefix f_X12_beginsPrefix_J44 f_X12_beginsPrefix_J175 mbp
  by_cases h1 : mI m 8 = 1
  · rw [if_pos h1, if_pos h1]
  · rw [if_neg h1, if_neg h1]
    by_cases h3 : mI m 8 = 3
    · rw [if_pos h3, if_pos h3]
    · rw [if_neg h3, if_neg h3]
      by_cases h5 : mI m 8 = 5
      · rw [if_pos h5, if_pos h5]
        split
        · rfl
        · split <;> rfl
      · rw [if_neg h5, if_neg h5]
        by_cases h2 : mI m 8 = 2
        · rw [if_pos h2, if_pos h2]
          simp only [ite_some2]
        · rw [if_neg h2, if_neg h2]
theorem mbp_v : ∀ k, k ∈ vks → mbp (mWd k) (mVl k) = if k ∈ bpL then 1 else 0 := by decide
theorem m_bp {n : Nat} {m : md_S} {w : WD} (h : MW m w) : f_X12_beginsPrefix n m = some (if wK w ∈ bpL then 1 else 0, m) := by
  rw [m_bp0, h.2.1]
  have hv := mbp_v _ h.1
  by_cases h2 : mWd (wK w) = 2 ∨ mWd (wK w) = 5
  · rw [h.2.2.1 h2, hv]
  · have e : mbp (mWd (wK w)) (mI m 11) = mbp (mWd (wK w)) (mVl (wK w)) := by
      unfold mbp
      have q2 : ¬ mWd (wK w) = 2 := fun y => h2 (Or.inl y)
      have q5 : ¬ mWd (wK w) = 5 := fun y => h2 (Or.inr y)
      rw [if_neg q5, if_neg q2, if_neg q5, if_neg q2]
    rw [e, hv]
theorem m_be {n : Nat} {m : md_S} {w : WD} (h : MW m w) : f_X12_beginsE n m = some (if wK w ∈ beL then 1 else 0, m) := by
  unfold f_X12_beginsE f_X12_beginsE_J40
  rw [m_bp h, bs_some]
  have a1 : ∀ k, k ∈ vks → k ∈ bpL → k ∈ beL := by decide
  have a2 : ∀ k, k ∈ vks → k ∉ bpL → (k ∈ beL ↔ mWd k = 2 ∧ (mVl k = 3 ∨ mVl k = 5 ∨ mVl k = 8)) := by decide
  by_cases hb : wK w ∈ bpL
  · rw [if_pos hb, if_pos (a1 _ h.1 hb)]
    dsimp only
    rw [if_neg ne10]
  · have a2 := a2 _ h.1 hb
    rw [if_neg hb]
    dsimp only
    rw [if_pos rfl, h.2.1]
    by_cases h2 : mWd (wK w) = 2
    · rw [if_pos h2, h.2.2.1 (Or.inl h2)]
      by_cases h3 : mVl (wK w) = 3
      · rw [if_pos h3, if_pos (a2.mpr ⟨h2, Or.inl h3⟩)]
      · rw [if_neg h3]
        by_cases h5 : mVl (wK w) = 5
        · rw [if_pos h5, if_pos (a2.mpr ⟨h2, Or.inr (Or.inl h5)⟩)]
        · rw [if_neg h5]
          by_cases h8 : mVl (wK w) = 8
          · rw [if_pos h8, if_pos (a2.mpr ⟨h2, Or.inr (Or.inr h8)⟩)]
          · rw [if_neg h8, if_neg (fun q => by rcases (a2.mp q).2 with y | y | y <;> contradiction)]
    · rw [if_neg h2, if_neg (fun q => h2 (a2.mp q).1)]
/-- deeper, in step with the class's need and room -/
theorem m_deep1 {n : Nat} {m : md_S} {d : Nat} (h6 : mI m 6 = 0) (hd : mI m 63 = nI d) (hd24 : d < 24) : f_X12_deeper n m 1 = some (1, mSI m 63 (nI (d + 1))) := by
  unfold f_X12_deeper
  rw [m_fine, bs_some, if_pos h6]
  dsimp only
  rw [if_neg ne10, if_neg ne10, hd, if_neg (show ¬ nI d = 24 from fun y => absurd ((nI_eq (b := 24) (by omega) (by decide)).mp y) (by omega)), bs_some, nI_1]
theorem m_deep24 {n : Nat} {B : Nat → Int32} {N : Nat} {c : cd_S} {m : md_S} {w : WD} {L : List WD} (h : LX B N c m w L) (hd : mI m 63 = nI 24) : ∃ m', f_X12_deeper n m 1 = some (0, m') ∧ md_fr [6, 7, 8] m m' ∧ NF m' 4 (wF w) := by
  obtain ⟨m', f1, f2, f3⟩ := m_failsW (n := n) (k := 4) h (by decide) (by decide)
  refine ⟨m', ?_, f2, f3⟩
  unfold f_X12_deeper
  rw [m_fine, bs_some, if_pos h.fine]
  dsimp only
  rw [if_neg ne10, if_neg ne10, hd, if_pos (show nI 24 = 24 from rfl), show f_X12_fails n m 4 = _ from f1, bs_some]
theorem m_deep0 {n : Nat} {B : Nat → Int32} {N : Nat} {c : cd_S} {m : md_S} {w : WD} {L : List WD} (h : LX B N c m w L) : ∃ m', f_X12_deeper n m 0 = some (0, m') ∧ md_fr [6, 7, 8] m m' ∧ NF m' 1 (wF w) := by
  obtain ⟨m', f1, f2, f3⟩ := m_misfit (n := n) h
  refine ⟨m', ?_, f2, f3⟩
  unfold f_X12_deeper
  rw [m_fine, bs_some, if_pos h.fine]
  dsimp only
  rw [if_neg ne10, if_pos rfl, f1, bs_some]
theorem nf_deeper {n : Nat} {m : md_S} {k pl : Nat} (h : NF m k pl) (x : Int32) : f_X12_deeper n m x = some (0, m) := by
  unfold f_X12_deeper; rw [nf_isFine h, bs_some]; rfl
theorem nf_bp {n : Nat} {m : md_S} : ∃ x, f_X12_beginsPrefix n m = some (x, m) := ⟨_, m_bp0⟩
theorem nf_be {n : Nat} {m : md_S} : ∃ x, f_X12_beginsE n m = some (x, m) := by
  unfold f_X12_beginsE f_X12_beginsE_J40
  rw [m_bp0, bs_some]
  dsimp only
  repeat' split
  all_goals exact ⟨_, rfl⟩
theorem mN63 {m : md_S} {v : Int32} {k : Nat} (h : k ≠ 63) : mN (mSI m 63 v) k = mN m k := by rw [mN, mN, mI_SIo h]
/-- one deeper, and back -/
theorem GR.dep {c c' : cd_S} {m m1 : md_S} {v : Int32} (h : GR c c' (mSI m 63 v) m1) : GR c c' m (mSI m1 63 (mI m 63)) := by
  obtain ⟨⟨a1, a2⟩, ⟨b0, b1, b2, b3, b4, b5⟩, d, e, f, g, i, j, l, o, p, q, r⟩ := h
  rw [mN63 (by decide)] at a1 a2 b1 b2 b3 b4 b5 r
  rw [mN63 (by decide)] at d e g q
  rw [mI_SIo (by decide)] at f i l
  have b0' : ∀ v, v < mN m 50 → kv (mSI m1 63 (mI m 63)) v = kv m v := fun v hv => b0 v (by rw [mN63 (by decide)]; exact hv)
  refine ⟨⟨by rw [mN63 (by decide)]; exact a1, a2⟩, ⟨b0', by rw [mN63 (by decide)]; exact b1, by rw [mN63 (by decide)]; exact b2, by rw [mN63 (by decide)]; exact b3, by rw [mN63 (by decide)]; exact b4, by rw [mN63 (by decide)]; exact b5⟩, fun x hx => ?_, e, by rw [mI_SIo (by decide)]; exact f, g, by rw [mI_SIo (by decide)]; exact i, mI_SIe, by rw [mI_SIo (by decide)]; exact l, o, p, fun x h1 h2 => q x h1 (by rw [mN63 (by decide)] at h2; exact h2), by rw [mN63 (by decide)]; exact r⟩
  obtain ⟨x1, x2, x3⟩ := d x hx
  rw [mN63 (by decide)] at x2 x3
  refine ⟨x1, x2, fun hna => x3 (fun hy => hna ?_)⟩
  exact (AN_ME (ME.of (md_fr_SI (md_fr_refl m [63]) (by decide) v) (by decide)) _ _).mp hy
theorem EOk.dep {pw d : Nat} {B : Nat → Int32} {N : Nat} {c c' : cd_S} {m m1 : md_S} {O : List Nat} {mc k kl : Nat} {L : List WD} {v x : Int32} {b' : cd_B} (h63 : mI m 63 = nI d) (hd : d < 24) (h : EOk pw B N c (mSI m 63 (nI (d + 1))) O mc k kl L v c' b' x m1) : EOk 6 B N c m O mc k kl L v c' b' x (mSI m1 63 (mI m 63)) := by
  obtain ⟨⟨w', L', hX, hl⟩, hs, hg, hp, f, r, es, l0, l1, ns, e, y0, y1, yb0, yb1, ⟨hG, hW⟩, hb, h71, hL, hcv⟩ := h
  rw [mN63 (by decide)] at hp y0 y1 hG hL hcv
  rw [mN63 (by decide), mN63 (by decide)] at hcv
  have ff : md_fr [63] m1 (mSI m1 63 (mI m 63)) := md_fr_SI (md_fr_refl _ _) (by decide) _
  have n63 : mN m 63 = d := mN_of h63 (by omega)
  have n63' : mN (mSI m 63 (nI (d + 1))) 63 = d + 1 := mN_of mI_SIe (by omega)
  obtain ⟨-, q35, q50, -⟩ := hs.nv
  refine ⟨⟨w', L', hX.fr (cd_fr_refl _ [] []) ff (by decide) (by decide) (by decide), hl⟩, hs.fr (cd_fr_refl _ [] []) ff (by decide) (by decide), hg.dep, by rw [mN63 (by decide)]; exact hp, f, r, es, l0, l1, ns, e, y0, y1, yb0, yb1, ⟨hG.nd hb q35 (by omega) ff (by decide) (fun j _ => ⟨rfl, rfl, rfl, rfl, rfl, fun _ => ⟨rfl, rfl⟩⟩), fun _ => by rw [n63]; exact hd, fun _ => ?_⟩, ?_, h71, hL, hcv.fr ff (by decide) (by decide) (by decide)⟩
  · obtain ⟨g, hg2⟩ := hW.2 (by rw [n63']; omega)
    rw [n63'] at hg2
    rw [n63]
    exact ⟨g, hG.ndw hb ff (by decide) (fun j _ => ⟨rfl, rfl, rfl, rfl, rfl, fun _ => ⟨rfl, rfl⟩⟩) (hg2.le (by unfold wB; omega) (by omega))⟩
  have : NB m1 O (mN m 65) (mN m 35) ns := by rw [mN63 (by decide), mN63 (by decide)] at hb; exact hb
  exact this.gr (by rw [mN63 (by decide)]; exact Nat.le_refl _) (by rw [mN63 (by decide)]; exact Nat.le_refl _)
