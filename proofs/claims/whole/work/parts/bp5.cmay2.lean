/-! may, in the class: what a unit leads to -/
theorem BG.of_sg {m : md_S} {w a b : Int32} {u v : Nat} (h : BG m w a b u) (h2 : SG m u v) : BG m w a b v := by
  obtain ⟨s1, s2, s3⟩ := h2
  rcases h with ⟨w1, x1, x2, x3⟩ | ⟨w1, x1, x2⟩ | ⟨w1, x1, x2⟩
  · refine Or.inl ⟨w1, s1.symm.trans x1, ?_, s2.symm.trans x3⟩
    rcases s3 with z | ⟨-, z⟩
    · exact absurd (x1.symm.trans z) (by decide)
    · exact z.symm.trans x2
  · exact Or.inr (Or.inl ⟨w1, s1.symm.trans x1, s2.symm.trans x2⟩)
  · exact Or.inr (Or.inr ⟨w1, s1.symm.trans x1, s2.symm.trans x2⟩)
theorem begun_grp {c : cd_S} {m : md_S} {w a b : Int32} {g : Nat} (h : NS c m (mN m 35)) (hg : g < mN m 35) (hb : BG m w a b g) (hmin : ∀ y, y < g → ¬ BG m w a b y) : ∀ v, v < mN m 35 → (cI c 297 v = nI g ↔ BG m w a b v) := by
  obtain ⟨a1, a2, a3, a4, a5, a6, a7, a8, a9⟩ := h
  obtain ⟨gg, g1, g2, g3⟩ := a9 g hg
  have e01 : cI c 289 g = 0 ∨ cI c 289 g = 1 := by
    rw [(a4 g hg).1]
    rcases hb with ⟨-, x1, -⟩ | ⟨-, x1, -⟩ | ⟨-, x1, -⟩
    · exact Or.inl x1
    · exact Or.inr x1
    · exact Or.inr x1
  have hgg : gg = g := by
    rcases g3 with ⟨-, ⟨y1, y2, y3⟩, y4⟩ | ⟨y1, -⟩
    · have hle : ¬ g < gg := fun z => y4 g z ⟨rfl, rfl, Or.inr rfl⟩
      have hself : GN c gg gg := by
        refine Or.inl ⟨by rw [y1]; exact e01, ⟨rfl, rfl, Or.inr rfl⟩, fun y hy hG => y4 y hy ?_⟩
        obtain ⟨z1, z2, z3⟩ := hG
        refine ⟨z1.trans y1, z2.trans y2, ?_⟩
        rcases y3 with y3 | y3
        · exact Or.inl y3
        · rcases z3 with z3 | z3
          · exact Or.inl (y1.symm.trans z3)
          · exact Or.inr (z3.trans y3)
      have hg3 : GN c g gg := Or.inl ⟨e01, ⟨y1, y2, y3⟩, y4⟩
      rcases (sg_iff a4 hg g1 g1 g1 hg3 hself).mp rfl with z | z
      · exact z.symm
      · by_cases q : gg < g
        · exact absurd (hb.of_sg z) (hmin gg q)
        · omega
    · exact absurd e01 y1
  rw [hgg] at g2 g3
  intro v hv
  obtain ⟨gv, v1, v2, v3⟩ := a9 v hv
  have key := sg_iff a4 hg hv hg v1 g3 v3
  constructor
  · intro e
    have : gv = g := (nI_eq (by omega) (by omega)).mp (v2.symm.trans e)
    rcases key.mp this.symm with z | z
    · rw [← z]; exact hb
    · exact hb.of_sg z
  · intro e
    rw [v2, ← key.mpr (Or.inr (hb.sg e))]
/-- entries, as spread needs them -/
def EOm (m : md_S) (e : EN) : Prop := (e.1 = 7 → ∃ a, e.2.1 = nI a ∧ a < mN m 60) ∧ (e.1 = 10 → ∃ a, e.2.1 = nI a ∧ a < mN m 35 ∧ SP m a)
theorem c_sprE {n u i k : Nat} {c : cd_S} {m : md_S} {x y : Int32} {M : Nat → Int32 → Prop} {E : List EN} (hn : 100 ≤ n) (hc : CYC c m) (hm : MYC m) (hE : SCP c u E) (hi : i < E.length) (he : EOm m (E.getD i (0, 0, 0))) (hy : y ∈ q4) (hy0 : ¬ y = 0) (hS : SV M (VC m c)) (hf1 : cI c 259 0 = 0 ∨ cI c 259 0 = 1) (hM : ∀ b, b = 1 ∨ b = 2 → hb y b → RULe m x M (E.getD i (0, 0, 0)) b) :
    ∃ c', f_X8_spread_L12 n u x y (k + 1) c (nI i) = f_X8_spread_L12 n u x y k c' (nI (i + 1)) ∧ FC c c' ∧ (cI c' 259 0 = 0 ∨ cI c' 259 0 = 1) ∧ MVs M (VC m c) (cI c 259 0) (VC m c') (cI c' 259 0) (∀ b, b = 1 ∨ b = 2 → hb y b → RULe m x (SVs (VC m c)) (E.getD i (0, 0, 0)) b) := by
  have h60 := hm.1.2.1
  obtain ⟨l1, l2⟩ := hE.len
  obtain ⟨t1, t2, t3⟩ := c_ent (n := n) hE hi
  obtain ⟨e, ee⟩ : ∃ e, e = E.getD i (0, 0, 0) := ⟨_, rfl⟩
  rw [← ee] at he hM t1 t2 t3 ⊢
  rw [u_X8_spread_L12, c_len hE, bs_some]
  dsimp only
  rw [if_neg (fun z => absurd ((nI_leI (by omega) (by omega)).mp z) (by omega)), t1, bs_some]
  dsimp only
  unfold f_X8_spread_J57 f_X8_spread_J62 f_X8_spread_J134
  rw [nI_1]
  have nobg : ¬ (e.1 = 7 ∨ e.1 = 8 ∨ e.1 = 23) → ∀ (S : Nat → Int32 → Prop) (b : Int32) (v : Nat), v < mN m 35 → BG m e.1 e.2.1 e.2.2 v → S v (ow m x v b) := fun h S b v _ hb' => absurd (bg_no hb') h
  by_cases h27 : e.1 = 27
  · rw [if_pos h27]
    have eV : VC m c 60 = cI c 258 0 := VV_z h60
    have hq := hS.1 60 (Nat.le_refl _)
    have nb : ¬ (e.1 = 7 ∨ e.1 = 8 ∨ e.1 = 23) := by rw [h27]; decide
    obtain ⟨t, et⟩ : ∃ t : Int32, t = if cI c 259 0 = 0 ∧ (cI c 258 0 ||| y) = cI c 258 0 then 0 else 1 := ⟨_, rfl⟩
    have t01 : t = 0 ∨ t = 1 := by rw [et]; split <;> simp
    refine ⟨cSI (cSI c 259 0 t) 258 0 (cI c 258 0 ||| y), ?_, cd_fr_SI (cd_fr_SI (cd_fr_refl _ _ _) (by simp) (by decide) _ _) (by simp) (by decide) _ _, by rw [cI_SIo (by decide), cI_SIe]; exact t01, ?_⟩
    · have z0 : md_zb 0 = some 0 := rfl
      have z1 : md_zb 1 = some 1 := rfl
      by_cases q1 : cI c 259 0 = 0
      · rw [if_pos q1]
        by_cases q2 : (cI c 258 0 ||| y) = cI c 258 0
        · rw [if_pos q2, z0, bs_some, bs_some, bs_some, cI_SIo (by decide), et, if_pos ⟨q1, q2⟩]
        · rw [if_neg q2, z1, bs_some, bs_some, bs_some, cI_SIo (by decide), et, if_neg (fun z => q2 z.2)]
      · rw [if_neg q1, z1, bs_some, bs_some, bs_some, cI_SIo (by decide), et, if_neg (fun z => q1 z.1)]
    · refine (MVs.add hS hy (Nat.le_refl 60) (fun b h1 h2 => (hM b h1 h2).2.1 h27) (fun w hw => ?_) ?_ (fun q => ?_) (fun q => ?_)).imp (fun z b h1 h2 => ⟨nobg nb _ b, fun _ => ⟨Nat.le_refl _, or_hb hq hy z h1 h2⟩, fun q => absurd (h27.symm.trans q) (by decide)⟩)
      · unfold VC VV
        by_cases q : w < mN m 35
        · rw [if_pos q, if_pos q]; rfl
        · rw [if_neg q, if_neg q, if_neg hw, if_neg hw]
      · rw [eV]
        exact (VV_z h60).trans cI_SIe
      · rw [eV] at q
        rw [cI_SIo (by decide), cI_SIe, et]
        rcases hf1 with z | z
        · rw [if_pos ⟨z, q⟩, z]
        · rw [if_neg (fun w => absurd (z.symm.trans w.1) (by decide)), z]
      · rw [eV] at q
        rw [cI_SIo (by decide), cI_SIe, et, if_neg (fun w => q w.2)]
  rw [if_neg h27]
  by_cases h10 : e.1 = 10
  · obtain ⟨v, v1, v2, v3⟩ := he.2 h10
    have eo : oN e.2.1 = v := by rw [v1, oN_nI (by omega)]
    have nb : ¬ (e.1 = 7 ∨ e.1 = 8 ∨ e.1 = 23) := by rw [h10]; decide
    rw [if_pos h10, t2, bs_some]
    dsimp only
    rw [v1, c_unitAt (by omega), bs_some]
    dsimp only
    obtain ⟨c', k1, k2, k3, k4⟩ := c_part (n := n) (x := x) (y := y) hc hm v2 v3 hy hy0 hS hf1 (fun b h1 h2 => by
      have := (hM b h1 h2).2.2 h10
      rw [eo] at this
      exact this)
    rw [k1, bs_some]
    refine ⟨c', rfl, k2, k3, k4.imp (fun z b h1 h2 => ⟨nobg nb _ b, fun q => absurd q h27, fun _ => ?_⟩)⟩
    rw [eo]
    exact z b h1 h2
  rw [if_neg h10, t2, bs_some]
  dsimp only
  rw [t3, bs_some]
  dsimp only
  obtain ⟨a1, a2, a3, a4, a5, a6, a7, a8, a9⟩ := hc.1
  unfold f_X8_spreadGroup
  rcases c_begun (n := n) (w := e.1) (a := e.2.1) (b := e.2.2) hn a1 a2 a3 a4 a5 a6 he.1 with ⟨g, g1, g2, g3, g4⟩ | ⟨g1, g2⟩
  · rw [g4, bs_some]
    dsimp only
    obtain ⟨c', k1, k2, k3, k4⟩ := c_sgL (n := n) (g := g) (x := x) (y := y) (B := fun v => BG m e.1 e.2.1 e.2.2 v) hm g1 hy (fun v h1 h2 b h3 h4 => (hM b h3 h4).1 v h1 h2) (mN m 35) n 0 c (by omega) (by omega) hc (begun_grp hc.1 g1 g2 g3) hS hf1
    rw [show f_X8_spreadGroup_L3 n (nI g) y x n c 0 = _ from k1, bs_some, bs_some]
    exact ⟨c', rfl, k2, k3, k4.imp (fun z b h1 h2 => ⟨fun v q1 q2 => z v (by omega) q1 q2 b h1 h2, fun q => absurd q h27, fun q => absurd q h10⟩)⟩
  · rw [g2, bs_some]
    dsimp only
    obtain ⟨n', rfl⟩ : ∃ n', n = n' + 1 := ⟨n - 1, by omega⟩
    rw [u_X8_spreadGroup_L3, if_pos rfl, bs_some, bs_some]
    exact ⟨c, rfl, FC.refl c, hf1, MVs.refl hS (fun b h1 h2 => ⟨fun v q1 q2 => absurd q2 (g1 v q1), fun q => absurd q h27, fun q => absurd q h10⟩)⟩
theorem c_sprL {n u : Nat} {m : md_S} {x y : Int32} {M : Nat → Int32 → Prop} {E : List EN} (hn : 100 ≤ n) (hm : MYC m) (he : ∀ i, i < E.length → EOm m (E.getD i (0, 0, 0))) (hy : y ∈ q4) (hy0 : ¬ y = 0) (hM : ∀ i, i < E.length → ∀ b, b = 1 ∨ b = 2 → hb y b → RULe m x M (E.getD i (0, 0, 0)) b) : ∀ (d j i : Nat) (c : cd_S), i + d = E.length → d < j → CYC c m → SCP c u E → SV M (VC m c) → cI c 259 0 = 0 ∨ cI c 259 0 = 1 →
    ∃ c', f_X8_spread_L12 n u x y j c (nI i) = some (c', nI E.length) ∧ FC c c' ∧ (cI c' 259 0 = 0 ∨ cI c' 259 0 = 1) ∧ MVs M (VC m c) (cI c 259 0) (VC m c') (cI c' 259 0) (∀ i', i ≤ i' → i' < E.length → ∀ b, b = 1 ∨ b = 2 → hb y b → RULe m x (SVs (VC m c)) (E.getD i' (0, 0, 0)) b) := by
  intro d
  induction d with
  | zero =>
    intro j i c hi hjd hc hE hS hf1
    obtain ⟨l1, l2⟩ := hE.len
    obtain ⟨j, rfl⟩ : ∃ q, j = q + 1 := ⟨j - 1, by omega⟩
    refine ⟨c, ?_, FC.refl c, hf1, MVs.refl hS (fun w h1 h2 => by omega)⟩
    rw [u_X8_spread_L12, c_len hE, bs_some]
    dsimp only
    rw [show i = E.length by omega, if_pos ((nI_leI (by omega) (by omega)).mpr (Nat.le_refl _))]
  | succ d ih =>
    intro j i c hi hjd hc hE hS hf1
    obtain ⟨j, rfl⟩ : ∃ q, j = q + 1 := ⟨j - 1, by omega⟩
    obtain ⟨c1, k1, k2, k3, k4⟩ := c_sprE (n := n) (k := j) (x := x) hn hc hm hE (show i < E.length by omega) (he i (by omega)) hy hy0 hS hf1 (hM i (by omega))
    obtain ⟨c', b1, b2, b3, b4⟩ := ih j (i + 1) c1 (by omega) (by omega) (hc.fr k2) (hE.fr k2 (by simp)) k4.1 k3
    refine ⟨c', k1.trans b1, k2.tr b2, b3, (MVs.tr (K2 := fun V => ∀ i', i + 1 ≤ i' → i' < E.length → ∀ b, b = 1 ∨ b = 2 → hb y b → RULe m x (SVs V) (E.getD i' (0, 0, 0)) b) k4 b4).imp (fun z i' h1 h2 => ?_)⟩
    by_cases q : i' = i
    · rw [q]; exact z.1
    · exact z.2 i' (by omega) h2
