/-! a pattern into any slot -/
def QP (m : md_S) (p : Nat) (m' : md_S) : Prop := md_fr [6, 7, 8, 9, 10, 11, 12, 13, 14, 15, 17, 18, 19] m m' ∧ PX m m' p
theorem QP.of {m m' : md_S} {p : Nat} (h : md_fr [6, 7, 8] m m') : QP m p m' := ⟨md_fr_mono h (by decide), fun x _ => ⟨md_frA h (by decide) x, md_frA h (by decide) x, fun _ _ => md_frL h (by decide) _⟩⟩
/-- what the class has when behind a pattern there is no word -/
def PatPn (c : cd_S) (m : md_S) (b : cd_B) (p : Nat) (c' : cd_S) (b' : cd_B) : Prop := b' = b ∧ cd_fr [160, 161, 162, 163, 327, 328, 329, 330] [] c c' ∧ RX c c' 193 ∧ ∃ m', RP c' m' 193 p ∧ PX m m' p ∧ md_fr [6, 7, 8, 9, 10, 11, 12, 13, 14, 15, 17, 18, 19] m m'
theorem pat_okw {n : Nat} {C : Nat × Nat} {B : Nat → Int32} {N : Nat} {c0 c : cd_S} {m : md_S} {b : cd_B} {w : WD} {L : List WD} {p : Nat} {pl : Int32} (hC : BC C) (hn : 5000 ≤ n) (hc : CI C c0 b c b) (h : LX B N c m w L) (hp : p < 264) (hpl : pl = 0 ∨ pl = 1) :
    OUTG (QP m p) C c0 b (f_X4_takePattern n c b pl) (f_X12_pattern n m (nI p) pl) (PatOk B N c m b L p pl) (PatPn c m b p) := by
  have hfine := h.fine
  have hw := h.mw
  have hz : ∀ k ∈ vks, (mWd k = 4 ↔ k = 4) := by decide
  have hz := hz _ hw.1
  unfold f_X4_takePattern
  refine outg_ck ?_
  rw [h.k.1]
  by_cases hk : wK w = 4
  · rw [if_pos hk]
    obtain ⟨kept, cnt, tl, A, Z, codes, hx, hL, hA, hk6, hcl, hc4, ht, h14, h15, hNR⟩ := lx_pat h hk
    have hc5 : cnt ≤ 5 := by omega
    have good : (pl = 1 → mI m 15 = 0) → OUTG (QP m p) C c0 b (f_X4_takePattern_J46 n c b) (f_X12_pattern_J42 n m (nI p)) (PatOk B N c m b L p pl) (PatPn c m b p) := by
      intro hpt
      obtain ⟨c1, s1, s2, s3, s4, s5, s6⟩ := c_copy (n := n) (r := 193) (by omega) h.2.2.2.1 hx hL hA hk6 hcl hc5 ht
      obtain ⟨m1, k1, k2, k3, k4, k5⟩ := m_keep (n := n) (p := p) (by omega) (by omega) h14 hc5 h15
      have h1 : LX B N c1 m1 w L := h.fr s2.2 k2.2 (by decide) (by decide) (by decide)
      obtain ⟨c2, m2, e1, e2, e3, e4, e5, e6⟩ := adv_ok (n := n) hn h1 (by rw [hk]; decide)
      have frc : cd_fr [160, 161, 162, 163, 327, 328, 329, 330] [] c c2 := cd_fr_tr s2.2 e3 (fun _ z => ⟨fun y => z (by simp at y; simp; omega), fun y => z (by simp at y; simp; omega)⟩) (fun _ z => ⟨z, z⟩)
      have frm : md_fr [6, 7, 8, 9, 10, 11, 12, 13, 14, 15, 17, 18, 19] m m2 := md_fr_tr k2.2 e4 (fun _ z => ⟨fun y => z (by simp at y; simp; omega), fun y => z (by simp at y; simp; omega)⟩)
      have hfc : f_X4_takePattern_J46 n c b = some (Sum.inl (0, c2, b)) := by
        unfold f_X4_takePattern_J46
        rw [s1, bs_some]
        dsimp only
        rw [e1, bs_some]
      have hfm : f_X12_pattern_J42 n m (nI p) = some (0, m2) := by
        unfold f_X12_pattern_J42
        rw [k1, bs_some]
        dsimp only
        rw [e2, bs_some]
      have hMI : QP m p m2 := ⟨frm, fun x hx => by
        obtain ⟨y1, y2, y3⟩ := k2.1 x hx
        exact ⟨(md_frA e4 (by decide) _).trans y1, (md_frA e4 (by decide) _).trans y2, fun i hi => (md_frL e4 (by decide) _).trans (y3 i hi)⟩⟩
      have hCI : CI C c0 b c2 b := hc.rx frc (by decide) (fun x hx => by
        obtain ⟨y1, y2, y3, y4⟩ := s2.1 x (by omega)
        exact ⟨(cd_frI e3 (by decide) (by decide) _).trans y1, (cd_frI e3 (by decide) (by decide) _).trans y2, (cd_frJ e3 (by decide) (by decide) _).trans y3, fun i => (cd_frL e3 (by decide) (by decide) _ _).trans (y4 i)⟩)
      have hRP : RP c2 m2 193 p := by
        refine ⟨cnt, tl, hc5, ht, ?_, ?_, ?_, ?_, fun i hi => ?_⟩
        · rw [cd_frI e3 (by decide) (by decide)]; exact s3
        · rw [cd_frI e3 (by decide) (by decide)]; exact s4
        · rw [md_frA e4 (by decide)]; exact k3
        · rw [md_frA e4 (by decide)]; exact k4
        · rw [cd_frL e3 (by decide) (by decide), md_frL e4 (by decide), s6 i hi, k5 i hi]; exact hNR i hi
      have hRX : RX c c2 193 := by
        refine ⟨fun x hx => ?_, ?_⟩
        · obtain ⟨y1, y2, y3, y4⟩ := s2.1 x hx
          exact ⟨(cd_frI e3 (by decide) (by decide) _).trans y1, (cd_frI e3 (by decide) (by decide) _).trans y2, (cd_frJ e3 (by decide) (by decide) _).trans y3, fun i => (cd_frL e3 (by decide) (by decide) _ _).trans (y4 i)⟩
        · rw [cd_frJ e3 (by decide) (by decide), s5]
      refine ⟨0, m2, hfm, hMI, ?_⟩
      obtain ⟨w', L', hLe, hAD | ⟨hbw, hnf⟩⟩ := e5
      · left
        refine ⟨0, c2, b, hfc, hCI, rfl, ⟨w', L', hLe, hAD⟩, hRP, ⟨fun z => ?_, cnt, hc4, by rw [cd_frI e3 (by decide) (by decide)]; exact s3⟩, hRX, hMI.2, frc, frm, ?_⟩
        · rw [cd_frI e3 (by decide) (by decide), s4, ← h15]; exact hpt z
        · rw [e6 hAD.fine, md_frI k2.2 (by decide)]
      · right; left
        exact ⟨wF w', Or.inl ⟨0, c2, b, hfc, hCI, hbw, rfl, frc, hRX, m2, hRP, hMI.2, frm⟩, hnf⟩
    have hmf : f_X12_pattern n m (nI p) pl = if pl = 0 then f_X12_pattern_J42 n m (nI p) else if mI m 15 = 0 then f_X12_pattern_J42 n m (nI p) else (Option.bind (f_X12_fails n m (5 : Int32)) fun p4 => some ((0 : Int32), p4.2)) := by
      unfold f_X12_pattern
      rw [m_fine, bs_some, if_pos hfine]
      dsimp only
      rw [if_neg (by decide), hw.2.1, if_pos (hz.mpr hk)]
    rw [hmf]
    unfold f_X4_takePattern_J17
    refine outg_c c_need1 ?_
    dsimp only
    rcases hpl with rfl | rfl
    · rw [if_pos rfl, if_pos rfl]
      exact good (fun z => absurd z (by decide))
    · rw [if_neg (by decide), if_neg (by decide), c_hasTail h hk, bs_some]
      dsimp only
      by_cases htl : mI m 15 = 0
      · rw [if_pos htl, if_pos rfl, if_pos htl]
        exact good (fun _ => htl)
      · rw [if_neg htl, if_neg (by decide), if_neg htl]
        obtain ⟨c', b', e1, e2⟩ := c_refuse (n := n) (k := 5) (pl := wF w) hC hc.1
        obtain ⟨m', f1, f2, f3⟩ := m_failsW (n := n) (k := 5) h (by decide) (by decide)
        rw [h.k.2.1]
        refine outg_thr (show f_X4_refuse n c b 5 (nI (wF w)) = _ from e1) e2 hc (ble.refl _) (x := 0) (m' := m') ?_ (QP.of f2) f3
        rw [show f_X12_fails n m 5 = _ from f1, bs_some]
  · rw [if_neg hk]
    unfold f_X4_takePattern_J17
    obtain ⟨c', b', e1, e2⟩ := c_need0 (n := n) hC hc.1 h.k.2.1
    obtain ⟨m', f1, f2, f3⟩ := m_misfit (n := n) h
    refine outg_thr e1 e2 hc (ble.refl _) (x := 0) (m' := m') ?_ (QP.of f2) f3
    unfold f_X12_pattern
    rw [m_fine, bs_some, if_pos hfine]
    dsimp only
    rw [if_neg (by decide), hw.2.1, if_neg (fun z => hk (hz.mp z)), f1, bs_some]
