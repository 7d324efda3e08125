/-! nodes in the making -/
def NB (m : md_S) (O : List Nat) (nn0 un0 : Nat) (ns : List Nat) : Prop := (∀ j, j ∈ ns → j < 900 → nn0 ≤ j ∧ j < mN m 65) ∧ (∀ q, 1000 + q ∈ ns → un0 ≤ q ∧ q < mN m 35 ∧ q ∉ O) ∧ ns.Nodup ∧ ∀ j, j ∈ ns → j < 900 ∨ 1000 ≤ j
theorem NB.gr {m m' : md_S} {O : List Nat} {nn0 un0 : Nat} {ns : List Nat} (h : NB m O nn0 un0 ns) (h65 : mN m 65 ≤ mN m' 65) (h35 : mN m 35 ≤ mN m' 35) : NB m' O nn0 un0 ns :=
  ⟨fun j hj h9 => ⟨(h.1 j hj h9).1, Nat.lt_of_lt_of_le (h.1 j hj h9).2 h65⟩, fun q hq => ⟨(h.2.1 q hq).1, Nat.lt_of_lt_of_le (h.2.1 q hq).2.1 h35, (h.2.1 q hq).2.2⟩, h.2.2⟩
theorem NB.low {m : md_S} {O : List Nat} {nn0 un0 nn1 un1 : Nat} {ns : List Nat} (h : NB m O nn0 un0 ns) (h1 : nn1 ≤ nn0) (h2 : un1 ≤ un0) : NB m O nn1 un1 ns :=
  ⟨fun j hj h9 => ⟨Nat.le_trans h1 (h.1 j hj h9).1, (h.1 j hj h9).2⟩, fun q hq => ⟨Nat.le_trans h2 (h.2.1 q hq).1, (h.2.1 q hq).2⟩, h.2.2⟩
/-- old and new -/
theorem NB.app {m : md_S} {O : List Nat} {nn0 un0 nn1 un1 : Nat} {n1 n2 : List Nat} (h1 : NB m O nn0 un0 n1) (h2 : NB m O nn1 un1 n2) (hn : nn0 ≤ nn1) (hu : un0 ≤ un1) (ho : ∀ j, j ∈ n1 → j < 900 → j < nn1) (hq : ∀ q, 1000 + q ∈ n1 → q < un1) : NB m O nn0 un0 (n1 ++ n2) := by
  refine ⟨fun j hj h9 => ?_, fun q hj => ?_, ?_, fun j hj => ?_⟩
  · rcases List.mem_append.mp hj with hj | hj
    · exact h1.1 j hj h9
    · exact ⟨Nat.le_trans hn (h2.1 j hj h9).1, (h2.1 j hj h9).2⟩
  · rcases List.mem_append.mp hj with hj | hj
    · exact h1.2.1 q hj
    · exact ⟨Nat.le_trans hu (h2.2.1 q hj).1, (h2.2.1 q hj).2⟩
  · rw [List.nodup_append]
    refine ⟨h1.2.2.1, h2.2.2.1, fun a ha b hb e => ?_⟩
    subst e
    rcases h1.2.2.2 a ha with h9 | h9
    · have := ho a ha h9
      have := (h2.1 a hb h9).1
      omega
    · obtain ⟨q, rfl⟩ : ∃ q, a = 1000 + q := ⟨a - 1000, by omega⟩
      have := hq q ha
      have := (h2.2.1 q hb).1
      omega
  · rcases List.mem_append.mp hj with hj | hj
    · exact h1.2.2.2 j hj
    · exact h2.2.2.2 j hj
theorem NB.one {m : md_S} {O : List Nat} {i : Nat} (hi : i < mN m 65) (h9 : i < 900) (un0 : Nat) : NB m O i un0 [i] :=
  ⟨fun j hj _ => by rw [List.mem_singleton.mp hj]; exact ⟨Nat.le_refl _, hi⟩, fun q hq => by have := List.mem_singleton.mp hq; omega, by simp, fun j hj => by rw [List.mem_singleton.mp hj]; exact Or.inl h9⟩
/-- the nodes made since nn0: of unit u and in ns, or of a unit begun since un0 and done -/
def CV (m : md_S) (O : List Nat) (u nn0 un0 : Nat) (ns : List Nat) : Prop := ∀ j, nn0 ≤ j → j < mN m 65 → (mA m 67 j = nI u ∧ j ∈ ns) ∨ ∃ q, un0 ≤ q ∧ q < mN m 35 ∧ q ∉ O ∧ mA m 67 j = nI q
theorem CV.nil {m : md_S} {O : List Nat} {u nn0 un0 : Nat} {ns : List Nat} (h : mN m 65 ≤ nn0) : CV m O u nn0 un0 ns := fun j h1 h2 => by omega
theorem CV.mem {m : md_S} {O : List Nat} {u nn0 un0 : Nat} {ns ns' : List Nat} (h : CV m O u nn0 un0 ns) (hs : ∀ j, j ∈ ns → j ∈ ns') : CV m O u nn0 un0 ns' := fun j h1 h2 => (h j h1 h2).imp (fun y => ⟨y.1, hs j y.2⟩) (fun y => y)
theorem CV.less {m : md_S} {O : List Nat} {v u nn0 un0 : Nat} {ns : List Nat} (h : CV m (v :: O) u nn0 un0 ns) : CV m O u nn0 un0 ns := fun j h1 h2 => (h j h1 h2).imp (fun y => y) (fun ⟨q, q1, q2, q3, q4⟩ => ⟨q, q1, q2, fun y => q3 (by simp [y]), q4⟩)
theorem CV.same {m m' : md_S} {O : List Nat} {u nn0 un0 : Nat} {ns : List Nat} (h : CV m O u nn0 un0 ns) (h65 : mN m' 65 = mN m 65) (h67 : ∀ j, j < mN m 65 → mA m' 67 j = mA m 67 j) (h35 : mN m 35 ≤ mN m' 35) : CV m' O u nn0 un0 ns := fun j h1 h2 => by
  rw [h67 j (by omega)]
  exact (h j h1 (by omega)).imp (fun y => y) (fun ⟨q, q1, q2, q3, q4⟩ => ⟨q, q1, by omega, q3, q4⟩)
theorem CV.fr {m m' : md_S} {O F : List Nat} {u nn0 un0 : Nat} {ns : List Nat} (h : CV m O u nn0 un0 ns) (hf : md_fr F m m') (h1 : 65 ∉ F) (h2 : 67 ∉ F) (h3 : 35 ∉ F) : CV m' O u nn0 un0 ns := h.same (mN_fr hf h1) (fun j _ => md_frA hf h2 j) (by rw [mN_fr hf h3]; exact Nat.le_refl _)
theorem CV.gr {c c' : cd_S} {m m' : md_S} {O : List Nat} {u nn0 un0 : Nat} {ns : List Nat} (h : CV m O u nn0 un0 ns) (hg : GR c c' m m') (h65 : mN m' 65 = mN m 65) : CV m' O u nn0 un0 ns := h.same h65 (fun j hj => (hg.1.2 j hj).2.1) hg.2.1.2.2.2.2.1
/-- a node more -/
theorem CV.add {m m' : md_S} {O : List Nat} {u nn0 un0 i : Nat} {ns : List Nat} (h : CV m O u nn0 un0 ns) (hi : mN m 65 = i) (h65 : mN m' 65 = i + 1) (h67 : mA m' 67 i = nI u) (ho : ∀ j, j < i → mA m' 67 j = mA m 67 j) (h35 : mN m 35 ≤ mN m' 35) : CV m' O u nn0 un0 (i :: ns) := fun j h1 h2 => by
  by_cases hj : j = i
  · rw [hj]; exact Or.inl ⟨h67, by simp⟩
  · rw [ho j (by omega)]
    exact (h j h1 (by omega)).imp (fun y => ⟨y.1, by simp [y.2]⟩) (fun ⟨q, q1, q2, q3, q4⟩ => ⟨q, q1, by omega, q3, q4⟩)
/-- old and new -/
theorem CV.app {c c' : cd_S} {m m' : md_S} {O : List Nat} {u nn0 un0 : Nat} {n1 n2 : List Nat} (h : CV m O u nn0 un0 n1) (h2 : CV m' O u (mN m 65) (mN m 35) n2) (hg : GR c c' m m') (hu : un0 ≤ mN m 35) : CV m' O u nn0 un0 (n1 ++ n2) := fun j a1 a2 => by
  by_cases hj : j < mN m 65
  · rw [(hg.1.2 j hj).2.1]
    exact (h j a1 hj).imp (fun y => ⟨y.1, by simp [y.2]⟩) (fun ⟨q, q1, q2, q3, q4⟩ => ⟨q, q1, Nat.lt_of_lt_of_le q2 hg.2.1.2.2.2.2.1, q3, q4⟩)
  · exact (h2 j (by omega) a2).imp (fun y => ⟨y.1, by simp [y.2]⟩) (fun ⟨q, q1, q2, q3, q4⟩ => ⟨q, by omega, q2, q3, q4⟩)
/-- trees stay, as all grows -/
theorem TK.gr {c c' : cd_S} {m m' : md_S} {O : List Nat} {mc k kl nn0 un0 i : Nat} {ns : List Nat} (h : GR c c' m m') (hs : ST c m O mc k kl) (hb : NB m O nn0 un0 ns) : TK m m' i ns := by
  have hch : ∀ u, AN m u (mN m 64) → u ∈ O := by
    obtain ⟨-, -, -, -, -, -, -, -, -, -, -, -, -, -, z⟩ := hs
    exact z
  have hcap : ∀ q, q < mN m 35 → aN m 44 q ≤ 13 := by
    intro q hq
    obtain ⟨-, -, -, e, -⟩ := hs
    obtain ⟨-, -, -, -, -, -, -, -, -, ⟨x, x1, x2, x3, x4⟩, -⟩ := e q hq
    rw [aN_of x3 (by omega)]; exact x1
  refine ⟨fun j hj h9 => ?_, fun q hq => ?_⟩
  · obtain ⟨x1, x2, x3, x4, x5, x6⟩ := h.1.2 j (hb.1 j hj h9).2
    exact ⟨x1, x2, x3, x4, x5, fun _ => x6⟩
  · obtain ⟨y1, y2, y3⟩ := hb.2.1 q hq
    obtain ⟨z1, z2⟩ := (h.2.2.1 q y2).2.2 (fun y => y3 (hch q y))
    have := hcap q y2
    exact ⟨by rw [aN, aN, z1], fun x hx => by rw [aN, aN, z2 x (by omega)]⟩
theorem GL.to {m m' : md_S} {u f : Nat} (hk : KP m m') (h35 : mN m 35 ≤ 60) (h50 : mN m 50 ≤ 500) : ∀ {ch : List Nat} {l0 l1 : Nat} {ess : List (List EN)} {ns : List Nat}, GL (Gen m u f) ch l0 l1 ess ns → ns.Nodup → (∀ x n1, x ∈ ch → (∀ j, j ∈ n1 → j ∈ ns) → TK m m' x n1) → GL (Gen m' u f) ch l0 l1 ess ns
  | [], _, _, _, _, h, _, _ => h
  | x :: xs, l0, l1, ess, ns, ⟨la, es, rest, n1, n2, h1, h2, h3, h4⟩, hnd, ht => by
      rw [h4] at hnd
      refine ⟨la, es, rest, n1, n2, h1.to hk h35 h50 (List.nodup_append.mp hnd).1 (ht x n1 (by simp) (fun j hj => by rw [h4]; simp [hj])), GL.to hk h35 h50 h2 (List.nodup_append.mp hnd).2.1 (fun y n hy hn => ht y n (by simp [hy]) (fun j hj => by rw [h4]; simp [hn j hj])), h3, h4⟩
theorem GL.up {m : md_S} {u f g : Nat} {ch : List Nat} {l0 l1 : Nat} {ess : List (List EN)} {ns : List Nat} (h : GL (Gen m u f) ch l0 l1 ess ns) (hg : f ≤ g) : GL (Gen m u g) ch l0 l1 ess ns := h.imp (fun _ _ _ _ _ _ _ q => q.le hg)
/-- node p of unit u, with some children -/
def PT (ω : Nat → Nat × Nat) (m : md_S) (O : List Nat) (u p l0 l1 nn0 un0 : Nat) (ch : List Nat) (ess : List (List EN)) (ns : List Nat) : Prop := p < 900 ∧ mA m 67 p = nI u ∧ mA m 71 p = -1 ∧ CH m p ch ∧ (∃ f, GL (Gen m u f) ch l0 l1 ess ns ∧ ∀ k x, ch[k]? = some x → 0 < (ω k).1 → GW m f x (ω k).1 (ω k).2) ∧ NB m O nn0 un0 (p :: ns)
theorem PT.gr {c c' : cd_S} {ω : Nat → Nat × Nat} {m m' : md_S} {O : List Nat} {mc k kl u p l0 l1 nn0 un0 : Nat} {ch : List Nat} {ess : List (List EN)} {ns : List Nat} (h : PT ω m O u p l0 l1 nn0 un0 ch ess ns) (hg : GR c c' m m') (hs : ST c m O mc k kl) : PT ω m' O u p l0 l1 nn0 un0 ch ess ns := by
  obtain ⟨-, n35, n50, -⟩ := hs.nv
  obtain ⟨a1, a2, a3, a4, ⟨f, a5, aw⟩, a6⟩ := h
  have hp : p < mN m 65 := (a6.1 p (by simp) a1).2
  have hx := fun x (hx : x ∈ ch) => GL.mem a5 x hx
  obtain ⟨x1, x2, x3, x4, x5, x6⟩ := hg.1.2 p hp
  have nd : ns.Nodup := (List.nodup_cons.mp a6.2.2.1).2
  have hS : ∀ x, x ∈ ch → S7 m m' x := fun x hx' => by
    have hx9 : x < 900 := by
      have : ∀ (l : List Nat) (v : Int32), SB m v l → x ∈ l → x < 900 := by
        intro l
        induction l with
        | nil => intro v _ hv; exact absurd hv (by simp)
        | cons y l ih =>
          intro v hv hx
          rcases List.mem_cons.mp hx with rfl | hx
          · exact hv.2.1
          · exact ih _ hv.2.2 hx
      exact this _ _ a4.1 hx'
    exact (hg.1.2 x (a6.1 x (List.mem_cons_of_mem _ (hx x hx')) hx9).2).2.2.2.2.2
  refine ⟨a1, x2.trans a2, x6.1.trans a3, ⟨?_, a4.2.1, fun x hx' => (hS x hx').2.trans (a4.2.2 x hx')⟩, ⟨f, a5.to hg.2.1 n35 (by omega) nd (fun x n1 _ hn => ?_), fun k x hx h0 => ?_⟩, a6.gr hg.1.1 hg.2.1.2.2.2.2.1⟩
  · rw [x5]
    exact a4.1.to (fun x hx' => (hS x hx').1)
  · have hb : NB m O nn0 un0 (p :: ns) := a6
    have := TK.gr (i := x) hg hs hb
    exact ⟨fun j hj h9 => this.1 j (by simp [hn j hj]) h9, fun q hq => this.2 q (by simp [hn _ hq])⟩
  · have hb : NB m O nn0 un0 (p :: ns) := a6
    obtain ⟨a, b, e, n3, g1, g2, g3⟩ := GL.at_ a5 (List.mem_of_getElem? hx)
    have := TK.gr (i := x) hg hs hb
    exact Gen.gw g1 (g3 nd) ⟨fun j hj h9 => this.1 j (by simp [g2 j hj]) h9, fun q hq => this.2 q (by simp [g2 _ hq])⟩ (aw k x hx h0)
/-- a child is put behind the others -/
theorem GL.at2 {m : md_S} {u f x : Nat} : ∀ {ch : List Nat} {l0 l1 : Nat} {ess : List (List EN)} {ns : List Nat}, GL (Gen m u f) ch l0 l1 ess ns → ns.Nodup → x ∈ ch → ∃ a b e n1, Gen m u f x a b e n1 ∧ (∀ j, j ∈ n1 → j ∈ ns) ∧ n1.Nodup ∧ ∀ j, j ∈ n1 → j ∈ ch → j = x
  | [], _, _, _, _, _, _, hx => absurd hx (by simp)
  | y :: xs, l0, l1, ess, ns, ⟨la, es, rest, n1, n2, h1, h2, h3, h4⟩, hnd, hx => by
      rw [h4] at hnd
      have hnd2 := List.nodup_append.mp hnd
      rcases List.mem_cons.mp hx with hx | hx
      · rw [hx]
        refine ⟨_, _, _, n1, h1, fun j hj => by rw [h4]; simp [hj], hnd2.1, fun j hj hc => ?_⟩
        rcases List.mem_cons.mp hc with hc | hc
        · exact hc
        · exact absurd rfl (hnd2.2.2 j hj j (GL.mem h2 j hc))
      · obtain ⟨a, b, e, n3, g1, g2, g3, g4⟩ := GL.at2 h2 hnd2.2.1 hx
        refine ⟨a, b, e, n3, g1, fun j hj => by rw [h4]; simp [g2 j hj], g3, fun j hj hc => ?_⟩
        rcases List.mem_cons.mp hc with hc | hc
        · exact absurd hc (fun e2 => hnd2.2.2 y h1.root.1 j (g2 j hj) e2.symm)
        · exact g4 j hj hc
theorem PT.add {n : Nat} {ω : Nat → Nat × Nat} {m : md_S} {O : List Nat} {u p l0 l1 l2 nn0 un0 nn1 un1 x f : Nat} {ch : List Nat} {ess : List (List EN)} {ns n1 : List Nat} {es : List EN} (h6 : mI m 6 = 0) (hn : 1000 ≤ n) (h35 : mN m 35 ≤ 60) (h50 : mN m 50 ≤ 500) (h65 : mN m 65 ≤ 900) (h : PT ω m O u p l0 l1 nn0 un0 ch ess ns) (hx : Gen m u f x l1 l2 es n1) (h71 : mA m 71 x = -1) (hb : NB m O nn1 un1 n1) (hbb : NB m O nn0 un0 (p :: (ns ++ n1))) (hu : u < 60) {gx : Nat} (hgx : 0 < (ω ch.length).1 → GW m gx x (ω ch.length).1 (ω ch.length).2) : ∃ m', f_X12_gets n m (nI p) (nI x) = some (0, m') ∧ PT ω m' O u p l0 l2 nn0 un0 (ch ++ [x]) (ess ++ [es]) (ns ++ n1) ∧ md_fr [70, 71, 72] m m' ∧ (∀ j, j ≠ p → mA m' 70 j = mA m 70 j) ∧ ∀ j, j ∉ ch → j ≠ x → S7 m m' j := by
  obtain ⟨a1, a2, a3, a4, ⟨g, a5, aw⟩, a6⟩ := h
  obtain ⟨hxn, hx9, hx67⟩ := hx.root
  have nd := hbb.2.2.1
  have hpn : p ∉ ns ++ n1 := (List.nodup_cons.mp nd).1
  have nda := List.nodup_append.mp (List.nodup_cons.mp nd).2
  have hmem := fun y (hy : y ∈ ch) => GL.mem a5 y hy
  have hxc : x ∉ ch := fun hc => nda.2.2 x (hmem x hc) x hxn rfl
  have hlen : ch.length < n := by
    have : ch.length ≤ 900 := by
      have hsub : ∀ y, y ∈ ch → y < 900 := by
        intro y hy
        have : ∀ (l : List Nat) (v : Int32), SB m v l → y ∈ l → y < 900 := by
          intro l
          induction l with
          | nil => intro v _ hv; exact absurd hv (by simp)
          | cons z l ih =>
            intro v hv hx
            rcases List.mem_cons.mp hx with rfl | hx
            · exact hv.2.1
            · exact ih _ hv.2.2 hx
        exact this _ _ a4.1 hy
      have key : ∀ (N : Nat) (l : List Nat), l.Nodup → (∀ y, y ∈ l → y < N) → l.length ≤ N := by
        intro N
        induction N with
        | zero =>
          intro l _ h
          cases l with
          | nil => simp
          | cons y l => exact absurd (h y (by simp)) (by omega)
        | succ N ih =>
          intro l hl h
          have h1 : (l.erase N).length ≤ N := ih _ (hl.erase N) (fun y hy => by
            have hy2 := (hl.mem_erase_iff).mp hy
            have := h y hy2.2
            have := hy2.1
            omega)
          by_cases hm : N ∈ l
          · rw [List.length_erase_of_mem hm] at h1; omega
          · rw [List.erase_of_not_mem hm] at h1; omega
      exact key 900 ch a4.2.1 hsub
    omega
  obtain ⟨m', e1, e2, e3, e4, e5, e6⟩ := m_gets (n := n) h6 a1 hx9 hlen a4 h71 hxc
  have hk : KP m m' := KP.fr e3 (by decide)
  have n65 : mN m' 65 = mN m 65 := mN_fr e3 (by decide)
  have n35 : mN m' 35 = mN m 35 := mN_fr e3 (by decide)
  have keep : ∀ y n2, (∀ j, j ∈ n2 → j ∈ ns ++ n1) → (∀ j, j ∈ n2 → j ≠ y → j ∉ ch) → (∀ j, j ∈ n2 → j ≠ y → j ≠ x) → TK m m' y n2 := fun y n2 h1 h2 h3 =>
    ⟨fun j hj _ => ⟨md_frA e3 (by decide) j, md_frA e3 (by decide) j, md_frA e3 (by decide) j, md_frA e3 (by decide) j, e4 j (fun q => hpn (by rw [← q]; exact h1 j hj)), fun hne => ⟨e5 j (h2 j hj hne), e6 j (h3 j hj hne)⟩⟩, fun q _ => ⟨by rw [aN, aN, md_frA e3 (by decide)], fun z _ => by rw [aN, aN, md_frA e3 (by decide)]⟩⟩
  have hx' : Gen m' u f x l1 l2 es n1 := hx.to hk h35 h50 nda.2.1 (keep x n1 (fun j hj => List.mem_append_right _ hj) (fun j hj _ hc => nda.2.2 j (hmem j hc) j hj rfl) (fun _ _ hne => hne))
  have hgl : ∀ {cc : List Nat} {l0 l1 : Nat} {ess : List (List EN)} {n2 : List Nat}, GL (Gen m u g) cc l0 l1 ess n2 → n2.Nodup → (∀ j, j ∈ n2 → j ∈ ns) → (∀ j, j ∈ n2 → j ∈ ch → j ∈ cc) → GL (Gen m' u g) cc l0 l1 ess n2 := by
    intro cc
    induction cc with
    | nil => intro l0 l1 ess n2 h _ _ _; exact h
    | cons y ys ih =>
      rintro l0 l1 ess n2 ⟨la, e, rest, p1, p2, g1, g2, g3, g4⟩ hnd hsb hcc
      rw [g4] at hnd hsb hcc
      have hnd2 := List.nodup_append.mp hnd
      refine ⟨la, e, rest, p1, p2, g1.to hk h35 h50 hnd2.1 (keep y p1 (fun j hj => List.mem_append_left _ (hsb j (by simp [hj]))) (fun j hj hne hc => ?_) (fun j hj _ e => nda.2.2 j (hsb j (by simp [hj])) x hxn e)), ih g2 hnd2.2.1 (fun j hj => hsb j (by simp [hj])) (fun j hj hc => ?_), g3, g4⟩
      · rcases List.mem_cons.mp (hcc j (by simp [hj]) hc) with q | q
        · exact hne q
        · exact hnd2.2.2 j hj j (GL.mem g2 j q) rfl
      · rcases List.mem_cons.mp (hcc j (by simp [hj]) hc) with q | q
        · exact absurd q.symm (hnd2.2.2 y g1.root.1 j hj)
        · exact q
  refine ⟨m', e1, ⟨a1, by rw [md_frA e3 (by decide)]; exact a2, by rw [e5 p (fun hc => hpn (List.mem_append_left _ (hmem p hc)))]; exact a3, e2, ⟨max (max f g) gx, GL.snoc ((hgl a5 nda.1 (fun _ y => y) (fun _ _ y => y)).up (by omega)) (hx'.le (by omega)), fun k y hy h0 => ?_⟩, hbb.gr (by omega) (by omega)⟩, e3, e4, fun j h1 h2 => ⟨e5 j h1, e6 j h2⟩⟩
  by_cases hk2 : k < ch.length
  · rw [List.getElem?_append_left hk2] at hy
    have hyc := List.mem_of_getElem? hy
    obtain ⟨a, b, e, n3, g1, g2, g3, g4⟩ := GL.at2 a5 nda.1 hyc
    exact (Gen.gw g1 g3 (keep y n3 (fun j hj => List.mem_append_left _ (g2 j hj)) (fun j hj hne hc => hne (g4 j hj hc)) (fun j hj _ q => nda.2.2 j (g2 j hj) x hxn q)) (aw k y hy h0)).lef (by omega)
  · rw [List.getElem?_append_right (by omega)] at hy
    have hk0 : k - ch.length = 0 := by
      by_cases h0 : k - ch.length = 0
      · exact h0
      · rw [List.getElem?_eq_none (by simp; omega)] at hy; exact absurd hy (by simp)
    have hke : k = ch.length := by omega
    rw [hk0] at hy
    have hyx : x = y := by simpa using hy
    rw [← hyx]
    rw [hke] at h0 ⊢
    exact (Gen.gw hx nda.2.1 (keep x n1 (fun j hj => List.mem_append_right _ hj) (fun j hj _ hc => nda.2.2 j (hmem j hc) j hj rfl) (fun _ _ hne => hne)) (hgx h0)).lef (by omega)
/-- a new node has no children yet -/
theorem PT.new {ω : Nat → Nat × Nat} {m : md_S} {O : List Nat} {u i l0 un0 : Nat} {k x y : Int32} (h : mI m 65 = nI i) (hi : i < 900) (hu : mI m 64 = nI u) : PT ω (ndm m i k x y) O u i l0 l0 i un0 [] [] [] := by
  obtain ⟨e1, e2, e3, e4, e5, e6, e7⟩ := ndm_e m i k x y
  refine ⟨hi, e2.trans hu, e6, ⟨e5, by simp, fun x hx => absurd hx (by simp)⟩, ⟨0, ⟨rfl, rfl, rfl⟩, fun k x hx => by simp at hx⟩, NB.one ?_ hi un0⟩
  rw [mN_of (ndm_65 m i k x y) (by omega)]; omega
