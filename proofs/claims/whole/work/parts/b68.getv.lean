/-! a variable is got -/
theorem nI_div {o r : Nat} (ho : o < 60) (hr : r < 1024) : nI (o * 1024 + r) / 1024 = nI o := by
  apply Int32.toInt_inj.mp
  have e1 : (nI (o * 1024 + r)).toInt = ((o * 1024 + r : Nat) : Int) := Int32.toInt_ofNat_of_lt (by omega)
  have e2 : (nI o).toInt = (o : Int) := Int32.toInt_ofNat_of_lt (by omega)
  rw [Int32.toInt_div, e1, e2, show (1024 : Int32).toInt = 1024 from rfl]
  have e3 : (((o * 1024 + r : Nat) : Int)).tdiv 1024 = (o : Int) := by
    rw [show (1024 : Int) = ((1024 : Nat) : Int) from rfl, ← Int.ofNat_tdiv]
    congr 1
    omega
  rw [e3]
  exact Int.bmod_eq_of_le (by omega) (by omega)
theorem ST.kvv {c : cd_S} {m : md_S} {O : List Nat} {mc k kl v : Nat} (h : ST c m O mc k kl) (hv : v < mN m 50) : mA m 51 v = nI (aN m 51 v) ∧ aN m 51 v < mN m 35 ∧ kv m v / 1024 = nI (aN m 51 v) ∧ vI m v < 1024 := by
  obtain ⟨q62, q35, q50, -⟩ := h.nv
  obtain ⟨⟨u, u1, u2⟩, -, r, -⟩ := h.vr v hv
  have ea : aN m 51 v = u := aN_of u2 (by omega)
  rw [ea] at r ⊢
  obtain ⟨-, -, -, -, -, -, ⟨p, p1, p2⟩, -, ⟨q0, z1, z2, z3⟩, -⟩ := h.ur u u1
  have hu4 : ub m u ≤ 4 := by
    unfold ub
    rw [aN_of p2 (by omega)]
    split <;> omega
  rw [aN_of z1 (by omega)] at r
  refine ⟨u2, u1, ?_, by omega⟩
  unfold kv
  rw [ea]
  exact nI_div (by omega) (by omega)
/-- as PC, but p may want v -/
def PCx (m : md_S) (p v : Nat) : Prop := ∀ q, q < mN m 35 → mA m 36 q ≠ 0 → ∀ x, x < aN m 44 q → OC m (aN m 40 q) (aN m 45 (16 * q + x)) ∨ (aN m 40 q = p ∧ aN m 45 (16 * q + x) = v)
theorem ST.parl {c : cd_S} {m : md_S} {O : List Nat} {mc k kl u : Nat} (h : ST c m O mc k kl) (hu : u < mN m 35) (h0 : mA m 36 u ≠ 0) : aN m 40 u < u := by
  have h35 := h.nv.2.1
  obtain ⟨-, -, -, -, -, -, -, -, -, -, z, -⟩ := h.ur u hu
  rcases z with ⟨z, -⟩ | ⟨-, j, j1, j2, -⟩
  · exact absurd z h0
  · rw [aN_of j2 (by omega)]; exact j1
theorem cap_loop {n : Nat} {O : List Nat} {mc k kl v o : Nat} (hn : 5000 ≤ n) : ∀ (s : Nat) (c : cd_S) (m : md_S) (u i jc jm : Nat), ST c m O mc k kl → AN m u (mN m 64) → v < mN m 50 → aN m 51 v = o → upn m s u = o → (∀ j, j < s → mA m 36 (upn m j u) ≠ 0) → ((∃ r, AN m r (mN m 64) ∧ mA m 36 r = 0 ∧ mA m 55 r = nI v) ∨ ∃ i, i < mN m 56 ∧ mA m 57 i = nI v) → i + u < 60 → s < jc → s < jm → PCx m u v → ∃ c' m' i', (∀ b : cd_B, f_X4_getVariable_L13 n (kv m v) (nI o) jc c b u (nI i) = some (c', b, o, nI i')) ∧ f_X12_captures_L5 n (nI v) jm m (nI u) = some (m', nI o) ∧ ST c' m' O mc k kl ∧ GR c c' m m' ∧ cd_fr [299, 300] [] c c' ∧ md_fr [44, 45] m m' ∧ PC m' ∧ OC m' u v := by
  intro s
  induction s with
  | zero =>
    intro c m u i jc jm h hu hv ho hs hch hsc hi hjc hjm hpc
    obtain ⟨jc, rfl⟩ : ∃ r, jc = r + 1 := ⟨jc - 1, by omega⟩
    obtain ⟨jm, rfl⟩ : ∃ r, jm = r + 1 := ⟨jm - 1, by omega⟩
    obtain ⟨q62, q35, q50, -, -, c66, -⟩ := h.nv
    have hul := h.anle u hu
    have hnow := h.now
    have h288 : cI c 288 u = nI u := by
      obtain ⟨⟨x1, x2, x3, x4, x5, x6, x7, x8, x9⟩, -⟩ := h
      exact (x9 u (by omega)).2.2.2
    have hs : u = o := hs
    subst hs
    obtain ⟨k1, k2, k3, k4⟩ := h.kvv hv
    refine ⟨c, m, i, ?_, ?_, h, GR.refl c m, cd_fr_refl _ _ _, md_fr_refl _ _, fun q hq h0 x hx => ?_, Or.inl ho⟩
    rotate_left 2
    · rcases hpc q hq h0 x hx with z | ⟨z1, z2⟩
      · exact z
      · rw [z1, z2]; exact Or.inl ho
    · intro b
      rw [u_X4_getVariable_L13, if_neg (show ¬ (60 : Int32) ≤ nI i from fun y => absurd ((nI_leI (a := 60) (by decide) (by omega)).mp y) (by omega)), h288, if_pos rfl]
    · rw [u_X12_captures_L5, m_ld51 (by omega), bs_some, k1, ho, if_pos rfl]
  | succ s ih =>
    intro c m u i jc jm h hu hv ho hs hch hsc hi hjc hjm hpc
    obtain ⟨jc, rfl⟩ : ∃ r, jc = r + 1 := ⟨jc - 1, by omega⟩
    obtain ⟨jm, rfl⟩ : ∃ r, jm = r + 1 := ⟨jm - 1, by omega⟩
    obtain ⟨q62, q35, q50, -, -, c66, -⟩ := h.nv
    have hul := h.anle u hu
    have hnow := h.now
    have h288 : cI c 288 u = nI u := by
      obtain ⟨⟨x1, x2, x3, x4, x5, x6, x7, x8, x9⟩, -⟩ := h
      exact (x9 u (by omega)).2.2.2
    have h36 : mA m 36 u ≠ 0 := hch 0 (by omega)
    obtain ⟨p, p1, p2, p3⟩ : ∃ j, j < u ∧ mA m 40 u = nI j ∧ cI c 295 u = nI j := by
      obtain ⟨-, -, -, -, -, -, -, -, -, -, z, -⟩ := h.ur u (by omega)
      rcases z with ⟨z, -⟩ | ⟨-, z⟩
      · exact absurd z h36
      · exact z
    have hpar : par m u = p := aN_of p2 (by omega)
    have hup : upn m s p = o := by
      have : upn m s (par m u) = o := hs
      rw [hpar] at this; exact this
    have hch2 : ∀ j, j < s → mA m 36 (upn m j p) ≠ 0 := fun j hj => by
      have := hch (j + 1) (by omega)
      have e : upn m (j + 1) u = upn m j p := by show upn m j (par m u) = _; rw [hpar]
      rw [e] at this; exact this
    have hop : o ≤ p := by
      rw [← hup]
      refine upn_le (un := mN m 35) (fun x hx h0 => ?_) s _ (by omega) hch2
      obtain ⟨-, -, -, -, -, -, -, -, -, -, z, -⟩ := h.ur x hx
      rcases z with ⟨z, -⟩ | ⟨-, j, j1, j2, -⟩
      · exact absurd z h0
      · show aN m 40 x < x
        rw [aN_of j2 (by omega)]; exact j1
    obtain ⟨k1, k2, k3, k4⟩ := h.kvv hv
    obtain ⟨c1, m1, e1, e2, e3, e4, e5, e6, e7, e8⟩ := cap_one (n := n) hn h hu hv (by omega) hsc
    have n64 : mN m1 64 = mN m 64 := e4.n64
    have hn1 : ∀ a u, AN m1 a u ↔ AN m a u := AN_ME (ME.of e6 (by decide))
    have hup1 : ∀ k u, upn m1 k u = upn m k u := upn_ME (ME.of e6 (by decide))
    have A : ∀ f, f ∉ [44, 45] → ∀ i, mA m1 f i = mA m f i := fun f hf i => md_frA e6 hf i
    have o35 : mN m1 35 = mN m 35 := mN_fr e6 (by decide)
    have hcg : CG m m1 := e4.2.1.2.2.2.2.2.2.2.1
    have hpc1 : PCx m1 p v := by
      intro q hq h0 x hx
      rw [o35] at hq
      rw [A 36 (by decide)] at h0
      have e40 : aN m1 40 q = aN m 40 q := by rw [aN, aN, A 40 (by decide)]
      rcases e8 q hq x hx with hxl | ⟨hqu, hx2⟩
      · have e45 := (hcg.1 q hq).2 x hxl
        left
        rw [e40, e45]
        rcases hpc q hq h0 x hxl with z | ⟨z1, z2⟩
        · exact z.to hcg (by have := h.parl hq h0; omega) (h.cv q hq x hxl)
        · rw [z1, z2]; exact Or.inr e7
      · right
        refine ⟨?_, hx2⟩
        rw [e40, hqu, aN_of p2 (by omega)]
    obtain ⟨c2, m2, i2, g1, g2, g3, g4, g5, g6, g7, g8⟩ := ih c1 m1 p (i + 1) jc jm e3 (by rw [n64, hn1, ← hpar]; exact AN_par hu h36) (by rw [mN_fr e6 (by decide)]; exact hv) (by rw [aN, A 51 (by decide)]; exact ho) (by rw [hup1]; exact hup) (fun j hj => by rw [hup1, A 36 (by decide)]; exact hch2 j hj) (by
      rcases hsc with ⟨r, r1, r2, r3⟩ | ⟨x, j1, j2⟩
      · exact Or.inl ⟨r, by rw [n64, hn1]; exact r1, by rw [A 36 (by decide)]; exact r2, by rw [A 55 (by decide)]; exact r3⟩
      · exact Or.inr ⟨x, by rw [mN_fr e6 (by decide)]; exact j1, by rw [A 57 (by decide)]; exact j2⟩) (by omega) (by omega) (by omega) hpc1
    refine ⟨c2, m2, i2, ?_, ?_, g3, GR.tr h e4 g4, cd_fr_tr e5 g5 (fun k hk => ⟨hk, hk⟩) (fun k hk => ⟨hk, hk⟩), md_fr_tr e6 g6 (fun k hk => ⟨hk, hk⟩), g7, OC.to (Or.inr e7) g4.2.1.2.2.2.2.2.2.2.1 (by omega) (by rw [mN_fr e6 (by decide)]; exact hv)⟩
    · intro b
      rw [u_X4_getVariable_L13, if_neg (show ¬ (60 : Int32) ≤ nI i from fun y => absurd ((nI_leI (a := 60) (by decide) (by omega)).mp y) (by omega)), h288, if_neg (fun y => absurd ((nI_eq (by omega) (by omega)).mp y) (by omega)), e1, bs_some]
      dsimp only
      rw [cd_frI e5 (by decide) (by decide), p3, c_unitAt (by omega), bs_some, nI_1]
      dsimp only
      rw [← kv_ME (ME.of e6 (by decide)) v]
      exact g1 b
    · rw [u_X12_captures_L5, m_ld51 (by omega), bs_some, k1, ho, if_neg (fun y => absurd ((nI_eq (by omega) (by omega)).mp y) (by omega)), e2]
      unfold f_X12_captures_J94
      rw [m_ld40 (by omega), bs_some, A 40 (by decide), p2]
      exact g2
/-- both get variable v: c', m' before the class emits -/
theorem cap_ok {n : Nat} {c : cd_S} {m : md_S} {O : List Nat} {mc k kl v : Nat} (hn : 5000 ≤ n) (h : ST c m O mc k kl) (hpc : PC m) (hv : v < mN m 50) (ho : AN m (aN m 51 v) (mN m 64)) (hsc : (∃ r, AN m r (mN m 64) ∧ mA m 36 r = 0 ∧ mA m 55 r = nI v) ∨ ∃ i, i < mN m 56 ∧ mA m 57 i = nI v) : ∃ c' m', f_X12_captures n m (nI v) = some (0, m') ∧ ST c' m' O mc k kl ∧ GR c c' m m' ∧ cd_fr [299, 300] [] c c' ∧ md_fr [44, 45] m m' ∧ (PC m' ∧ OC m' (mN m 64) v) ∧ ∀ b : cd_B, f_X4_getVariable n c b (kv m v) = cd_ck (fun (q : (Int32 × cd_S × cd_B)) => q.2.2) b (cd_ck (fun (q : (Int32 × cd_S × cd_B)) => q.2.2) b (Option.bind (f_X9_emit n c' b (mN m 64) 2 (kv m v) 0) fun p8 => cd_ck (fun (q : (Int32 × cd_S × cd_B)) => q.2.2) (p8.2.2) <| some (((0 : Int32), p8.2.1, p8.2.2)))) := by
  obtain ⟨s, s1, s2⟩ := ho
  have hnow := h.now
  obtain ⟨k1, k2, k3, k4⟩ := h.kvv hv
  obtain ⟨q62, q35, q50, -⟩ := h.nv
  have hs60 : s < 60 := by
    have key : ∀ (s u : Nat), u < mN m 35 → (∀ j, j < s → mA m 36 (upn m j u) ≠ 0) → s ≤ u := by
      intro s
      induction s with
      | zero => intro u _ _; omega
      | succ s ih =>
        intro u hu hch
        obtain ⟨-, -, -, -, -, -, -, -, -, -, z, -⟩ := h.ur u hu
        rcases z with ⟨z, -⟩ | ⟨-, j, j1, j2, -⟩
        · exact absurd z (hch 0 (by omega))
        · have hp : par m u = j := aN_of j2 (by omega)
          have := ih j (by omega) (fun x hx => by
            have := hch (x + 1) (by omega)
            have e : upn m (x + 1) u = upn m x j := by show upn m x (par m u) = _; rw [hp]
            rw [e] at this; exact this)
          omega
    have := key s _ hnow.1 s2
    omega
  obtain ⟨c', m', i', e1, e2, e3, e4, e5, e6, e7⟩ := cap_loop (n := n) hn s c m (mN m 64) 0 n n h ⟨0, rfl, fun j hj => absurd hj (by omega)⟩ hv rfl s1 s2 hsc (by omega) (by omega) (by omega) (fun q hq h0 x hx => Or.inl (hpc q hq h0 x hx))
  refine ⟨c', m', ?_, e3, e4, e5, e6, e7, fun b => ?_⟩
  · unfold f_X12_captures
    rw [hnow.2.2.2.2.1, e2, bs_some]
  · unfold f_X4_getVariable f_X9_ownerOf
    have h2 := e3.now
    rw [e4.n64] at h2
    rw [hnow.2.2.2.1, bs_some, bs_some]
    dsimp only
    rw [k3, show (0 : Int32) = nI 0 from rfl, e1 b, bs_some]
    dsimp only
    rw [h2.2.2.2.1, bs_some]
