/-! inner prefixes, prefixes, expressions: heads in step -/
def EXw (C : Nat × Nat) (B : Nat → Int32) (N : Nat) (P : Int32 → Prop) (fc : cd_S → cd_B → Option Th) (fm : md_S → Option (Int32 × md_S)) (dm kd pw : Nat) : Prop :=
  ∀ (c0 : cd_S) (m0 : md_S) (c : cd_S) (m : md_S) (b : cd_B) (w : WD) (L : List WD) (O : List Nat) (mc k kl : Nat), CI C c0 b c b → MI m0 m → LX B N c m w L → P (wK w) → ST c m O mc k (kl + 1) → mI m 63 = nI dm → kl ≤ kd → OUT C c0 m0 b (fc c b) (fm m) (EOk pw B N c m O mc k kl L) (fun c' _ => CS c' k ∧ cN c 66 ≤ cN c' 66)
theorem EX.w {C : Nat × Nat} {B : Nat → Int32} {N : Nat} {P : Int32 → Prop} {fc : cd_S → cd_B → Option Th} {fm : md_S → Option (Int32 × md_S)} {dm kd pw : Nat} (h : EX C B N fc fm dm kd pw) : EXw C B N P fc fm dm kd pw := fun c0 m0 c m b w L O mc k kl h1 h2 h3 _ h5 h6 h7 => h c0 m0 c m b w L O mc k kl h1 h2 h3 h5 h6 h7
theorem out_idp {C : Nat × Nat} {c0 : cd_S} {m0 : md_S} {b : cd_B} {fc : Option Th} {fm : Option (Int32 × md_S)} {Ok : Int32 → cd_S → cd_B → Int32 → md_S → Prop} {Pn : cd_S → cd_B → Prop} (h : OUT C c0 m0 b fc fm Ok Pn) (h0 : ∀ v c' b' x m', Ok v c' b' x m' → Ok 0 c' b' x m') : OUT C c0 m0 b (Option.bind fc fun q => cd_ck sF (Sum.elim (fun (p : Int32 × cd_S × cd_B) => p.2.2) (fun (t : cd_S × cd_B) => t.2) q) <| Sum.elim (fun p => some (Sum.inl ((0 : Int32), p.2.1, p.2.2))) (fun t => some (Sum.inr t)) q) fm Ok Pn := by
  have e : fm = Option.bind fm fun p => some (p.1, p.2) := by cases fm <;> rfl
  rw [e]
  refine out_seq h (fun v c' b' x m' h1 h2 h3 => ?_) (fun v c' b' pl h1 h2 h3 => ?_) (fun x m' k pl h1 h2 => ?_)
  · exact ⟨x, m', rfl, h2, Or.inl ⟨0, c', b', rfl, h1.here, h0 _ _ _ _ _ h3⟩⟩
  · exact Or.inl ⟨0, c', b', rfl, h1.here, h2, h3⟩
  · exact ⟨x, m', rfl, h1, h2⟩
theorem out_idm {C : Nat × Nat} {c0 : cd_S} {m0 : md_S} {b : cd_B} {fc : Option Th} {fm : Option (Int32 × md_S)} {Ok : Int32 → cd_S → cd_B → Int32 → md_S → Prop} {Pn : cd_S → cd_B → Prop} (h : OUT C c0 m0 b fc fm Ok Pn) : OUT C c0 m0 b fc (Option.bind fm fun p => some (p.1, p.2)) Ok Pn := by
  have e : (Option.bind fm fun p => some (p.1, p.2)) = fm := by cases fm <;> rfl
  rw [e]; exact h
theorem nI_back {d : Nat} : nI (d + 1) - 1 = nI d := by rw [show (1 : Int32) = nI 1 from rfl, nI_sub (by omega)]; rfl
theorem inner_ok {n : Nat} {C : Nat × Nat} {B : Nat → Int32} {N : Nat} {rc : cd_R} {rm : md_R} {d kd pw : Nat} (hC : BC C) (hd : d ≤ 24) (hP : d < 24 → EXw C B N (fun k => k ∈ bpL) (fun c b => rc 9 0 (nI (d + 1)) 0 c b) (fun m => rm 10 0 0 0 m) (d + 1) kd pw) : EX C B N (fun c b => f_X4_readInnerPrefix n rc c b (nI (d + 1))) (fun m => f_X12_innerPrefix n rm m) d kd 6 := by
  intro c0 m0 c m b w L O mc k kl hc hm h hs h63 hkl
  dsimp only
  unfold f_X4_readInnerPrefix f_X12_innerPrefix f_X4_readInnerPrefix_J23
  refine out_ck ?_
  rw [c_bp h.k.1, cbp_v _ h.v, bs_some, m_bp h.mw, bs_some]
  dsimp only
  by_cases hb : wK w ∈ bpL
  · rw [if_pos hb]
    refine out_c c_need1 ?_
    dsimp only
    by_cases hd4 : d < 24
    · rw [if_neg (show ¬ (24 : Int32) < nI (d + 1) from fun y => absurd ((nI_ltI (a := 24) (by decide) (by omega)).mp y) (by omega)), m_deep1 h.fine h63 hd4, bs_some]
      dsimp only
      rw [if_neg ne10]
      refine out_c c_room1 ?_
      dsimp only
      have ff : md_fr [63] m (mSI m 63 (nI (d + 1))) := md_fr_SI (md_fr_refl _ _) (by decide) _
      refine out_seq (hP hd4 c0 m0 c (mSI m 63 (nI (d + 1))) b w L O mc k kl hc (hm.fr ff (by decide)) (h.fr (cd_fr_refl _ [] []) ff (by decide) (by decide) (by decide)) hb (hs.fr (cd_fr_refl _ [] []) ff (by decide) (by decide)) mI_SIe hkl) ?_ ?_ ?_
      · intro v c1 b1 x m1 hc1 hm1 hE
        dsimp only
        have e63 : mI m1 63 = nI (d + 1) := hE.2.2.1.n63.trans mI_SIe
        rw [bs_some, e63, nI_back, ← h63]
        have ff1 : md_fr [63] m1 (mSI m1 63 (mI m 63)) := md_fr_SI (md_fr_refl _ _) (by decide) _
        exact ⟨x, _, rfl, hm1.fr ff1 (by decide), Or.inl ⟨0, c1, b1, rfl, hc1.here, EOk.dep h63 hd4 hE⟩⟩
      · intro v c1 b1 pl h1 h2 h3
        exact Or.inl ⟨0, c1, b1, rfl, h1.here, h2, h3⟩
      · intro x m1 k2 pl h1 h2
        dsimp only
        have ff1 : md_fr [63] m1 (mSI m1 63 (mI m1 63 - 1)) := md_fr_SI (md_fr_refl _ _) (by decide) _
        exact ⟨x, _, rfl, h1.fr ff1 (by decide), h2.fr ff1 (by decide) (by decide)⟩
    · obtain rfl : d = 24 := by omega
      rw [if_pos (show (24 : Int32) < nI (24 + 1) by decide)]
      obtain ⟨c', b', e1, e2⟩ := c_room0 (n := n) hC hc.1 h.k.2.1
      obtain ⟨m', f1, f2, f3⟩ := m_deep24 (n := n) h h63
      refine out_thr e1 e2 hc (ble.refl _) (x := 0) (m' := m') ?_ (hm.fr f2 (by decide)) f3
      rw [f1, bs_some]
      rfl
  · rw [if_neg hb]
    obtain ⟨c', b', e1, e2⟩ := c_need0 (n := n) hC hc.1 h.k.2.1
    obtain ⟨m', f1, f2, f3⟩ := m_deep0 (n := n) h
    refine out_thr e1 e2 hc (ble.refl _) (x := 0) (m' := m') ?_ (hm.fr f2 (by decide)) f3
    rw [f1, bs_some]
    rfl
theorem nf_inner {n : Nat} {rm : md_R} : NFX (fun m => f_X12_innerPrefix n rm m) := by
  intro m0 m k pl hm h
  dsimp only
  unfold f_X12_innerPrefix
  rw [m_bp0, bs_some]
  dsimp only
  rw [nf_deeper h, bs_some]
  exact ⟨0, m, rfl, hm, h⟩
theorem bw_bp {n : Nat} {c : cd_S} {pl : Nat} (h : BW c pl) : f_X10_beginsPrefix n c = some (0, c) := by
  rw [c_bp h.1]; rfl
theorem bw_inner {n : Nat} {C : Nat × Nat} {rc : cd_R} {a : Int32} (hC : BC C) : BWX C (fun c b => f_X4_readInnerPrefix n rc c b a) := by
  intro c0 c b pl hc h
  dsimp only
  unfold f_X4_readInnerPrefix
  refine op_ck ?_
  rw [bw_bp h, bs_some]
  obtain ⟨c', b', e1, e2⟩ := c_need0 (n := n) hC hc.1 h.2
  exact op_thr e1 e2 hc (ble.refl _)
theorem bw_prefix {n : Nat} {C : Nat × Nat} {rc : cd_R} {a : Int32} (hC : BC C) : BWX C (fun c b => f_X4_readPrefix n rc c b a) := by
  intro c0 c b pl hc h
  dsimp only
  unfold f_X4_readPrefix
  refine op_ck ?_
  rw [bw_bp h, bs_some]
  obtain ⟨c', b', e1, e2⟩ := c_need0 (n := n) hC hc.1 h.2
  exact op_thr e1 e2 hc (ble.refl _)
theorem bw_expr {n : Nat} {C : Nat × Nat} {rc : cd_R} {a : Int32} (hC : BC C) : BWX C (fun c b => f_X4_readExpression n rc c b a) := by
  intro c0 c b pl hc h
  dsimp only
  unfold f_X4_readExpression
  refine op_ck ?_
  rw [c_be h.1, bs_some]
  obtain ⟨c', b', e1, e2⟩ := c_need0 (n := n) hC hc.1 h.2
  exact op_thr e1 e2 hc (ble.refl _)
theorem bw_prod {n : Nat} {C : Nat × Nat} {rc : cd_R} {a : Int32} (hx : BWX C (fun c b => rc 9 0 a 0 c b)) : BWX C (fun c b => f_X4_readProduct n rc c b a) := by
  intro c0 c b pl hc h
  dsimp only
  unfold f_X4_readProduct
  exact op_ck (op_seq (Pn1 := fun _ _ => False) (hx c0 c b pl hc h) (fun _ _ _ _ _ y => y.elim))
theorem bw_sum {n : Nat} {C : Nat × Nat} {rc : cd_R} {a : Int32} (hx : BWX C (fun c b => rc 7 0 a 0 c b)) : BWX C (fun c b => f_X4_readSum n rc c b a) := by
  intro c0 c b pl hc h
  dsimp only
  unfold f_X4_readSum
  exact op_ck (op_seq (Pn1 := fun _ _ => False) (hx c0 c b pl hc h) (fun _ _ _ _ _ y => y.elim))
theorem nf_e {n : Nat} {rm : md_R} : NFX (fun m => f_X12_e n rm m) := by
  intro m0 m k pl hm h
  dsimp only
  unfold f_X12_e
  obtain ⟨x, hx⟩ := nf_be (n := n) (m := m)
  rw [hx, bs_some]
  dsimp only
  rw [nf_deeper h, bs_some]
  exact ⟨0, m, rfl, hm, h⟩
theorem nf_any {n : Nat} {rm : md_R} : NFX (fun m => f_X12_anyPrefix n rm m) := by
  intro m0 m k pl hm h
  dsimp only
  unfold f_X12_anyPrefix f_X12_anyPrefix_J18
  rw [nf_isFine h, bs_some]
  dsimp only
  rw [if_pos rfl, nf_isFine h, bs_some]
  exact ⟨0, m, rfl, hm, h⟩
theorem nf_prod {n : Nat} {rm : md_R} (hn : 1 ≤ n) (hx : NFX (fun m => rm 5 0 0 0 m)) : NFX (fun m => f_X12_product n rm m) := by
  intro m0 m k pl hm h
  dsimp only
  obtain ⟨x, m2, g1, g2, g3⟩ := hx m0 m k pl hm h
  obtain ⟨q, rfl⟩ : ∃ q, n = q + 1 := ⟨n - 1, by omega⟩
  unfold f_X12_product
  rw [show rm 5 0 0 0 m = _ from g1, bs_some]
  dsimp only
  rw [nf_prodL g3, bs_some]
  exact ⟨x, m2, rfl, g2, g3⟩
theorem nf_sum {n : Nat} {rm : md_R} (hn : 1 ≤ n) (hx : NFX (fun m => rm 4 0 0 0 m)) : NFX (fun m => f_X12_sum n rm m) := by
  intro m0 m k pl hm h
  dsimp only
  obtain ⟨x, m2, g1, g2, g3⟩ := hx m0 m k pl hm h
  obtain ⟨q, rfl⟩ : ∃ q, n = q + 1 := ⟨n - 1, by omega⟩
  unfold f_X12_sum
  rw [show rm 4 0 0 0 m = _ from g1, bs_some]
  dsimp only
  rw [nf_sumL g3, bs_some]
  exact ⟨x, m2, rfl, g2, g3⟩
/-- the class's readPrefix behind its need -/
theorem any_pre {n : Nat} {C : Nat × Nat} {B : Nat → Int32} {N : Nat} {rm : md_R} {fc : cd_S → cd_B → Option Th} {RC : Int32 × cd_S × cd_B → Option Th} {dm kd pw : Nat} (hC : BC C) (hfc : ∀ c b, fc c b = cd_ck sF b (Option.bind (f_X10_beginsPrefix n c) fun p3 => Option.bind (f_X4_need n p3.2 b (p3.1)) fun q4 => cd_ck sF ((Sum.elim (fun (p : Int32 × cd_S × cd_B) => p.2.2) (fun (t : cd_S × cd_B) => t.2) q4)) <| Sum.elim RC (fun t => some (Sum.inr t)) q4)) (hP : EXw C B N (fun k => k ∈ bpL) fc (fun m => rm 10 0 0 0 m) dm kd pw) : EX C B N fc (fun m => f_X12_anyPrefix n rm m) dm kd pw := by
  intro c0 m0 c m b w L O mc k kl hc hm h hs h63 hkl
  dsimp only
  unfold f_X12_anyPrefix f_X12_anyPrefix_J18
  rw [m_fine, bs_some, if_pos h.fine]
  dsimp only
  rw [if_neg ne10, m_bp h.mw, bs_some]
  dsimp only
  by_cases hb : wK w ∈ bpL
  · rw [if_pos hb, if_neg ne10, m_fine, bs_some, if_pos h.fine]
    dsimp only
    rw [if_neg ne10]
    exact out_idm (hP c0 m0 c m b w L O mc k kl hc hm h hb hs h63 hkl)
  · rw [if_neg hb, if_pos rfl, hfc]
    refine out_ck ?_
    rw [c_bp h.k.1, cbp_v _ h.v, if_neg hb, bs_some]
    obtain ⟨c', b', e1, e2⟩ := c_need0 (n := n) hC hc.1 h.k.2.1
    obtain ⟨m', f1, f2, f3⟩ := m_misfit (n := n) h
    refine out_thr e1 e2 hc (ble.refl _) (x := 0) (m' := m') ?_ (hm.fr f2 (by decide)) f3
    rw [f1, bs_some]
    dsimp only
    rw [nf_isFine f3, bs_some]
    rfl
theorem EXw.wk {C : Nat × Nat} {B : Nat → Int32} {N : Nat} {P : Int32 → Prop} {fc : cd_S → cd_B → Option Th} {fm : md_S → Option (Int32 × md_S)} {dm kd pw pw2 : Nat} (h : EXw C B N P fc fm dm kd pw) (hp : pw2 ≤ pw) : EXw C B N P fc fm dm kd pw2 := fun c0 m0 c m b w L O mc k kl h1 h2 h3 h4 h5 h6 h7 => (h c0 m0 c m b w L O mc k kl h1 h2 h3 h4 h5 h6 h7).imp (fun _ _ _ _ _ q => EOk.wk q hp) (fun _ _ q => q)
theorem EX.wk {C : Nat × Nat} {B : Nat → Int32} {N : Nat} {fc : cd_S → cd_B → Option Th} {fm : md_S → Option (Int32 × md_S)} {dm kd pw pw2 : Nat} (h : EX C B N fc fm dm kd pw) (hp : pw2 ≤ pw) : EX C B N fc fm dm kd pw2 := fun c0 m0 c m b w L O mc k kl h1 h2 h3 h5 h6 h7 => (h c0 m0 c m b w L O mc k kl h1 h2 h3 h5 h6 h7).imp (fun _ _ _ _ _ q => EOk.wk q hp) (fun _ _ q => q)
