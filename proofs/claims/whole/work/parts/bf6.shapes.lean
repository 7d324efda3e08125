/-! what the entries of a tree look like -/
def VK (m : md_S) (u : Nat) (key : Int32) : Prop := ∃ v, v < mN m 50 ∧ OC m u v ∧ key = kv m v
def EW (m : md_S) (u : Nat) (e : EN) : Prop :=
  ((∃ k, e.1 = nI k ∧ k ≤ 28) ∨ (e.1 = 100 ∧ ∃ l, l < 400 ∧ e.2.1 = nI l)) ∧ (e.1 ∈ o1L → e.1 ≠ 2 → e.1 ≠ 3 → ∃ a, e.2.1 = nI a ∧ a < 2 ^ 31) ∧ (e.1 = 7 → ∃ a, e.2.2 = nI a ∧ a < 2 ^ 31) ∧ (e.1 = 17 ∨ e.1 = 18 ∨ e.1 = 19 → ∃ l, l < 400 ∧ e.2.1 = nI l) ∧ (e.1 = 2 ∨ e.1 = 3 → VK m u e.2.1)
theorem EW.z {m : md_S} {u k : Nat} {a b : Int32} (hk : k ≤ 28) (ho : nI k ∉ o1L) : EW m u (nI k, a, b) := by
  have no : ∀ x : Int32, x ∈ o1L → nI k ≠ x := fun x hx y => ho (by rw [y]; exact hx)
  refine ⟨Or.inl ⟨k, rfl, hk⟩, fun y => absurd y ho, fun y => absurd y (no 7 (by decide)), ?_, ?_⟩
  · rintro (y | y | y)
    · exact absurd y (no 17 (by decide))
    · exact absurd y (no 18 (by decide))
    · exact absurd y (no 19 (by decide))
  · rintro (y | y)
    · exact absurd y (no 2 (by decide))
    · exact absurd y (no 3 (by decide))
theorem EW.lab {m : md_S} {u l : Nat} (h : l < 400) : EW m u (100, nI l, 0) :=
  ⟨Or.inr ⟨rfl, l, h, rfl⟩, fun y => absurd y (show ¬ (100 : Int32) ∈ o1L by decide), fun y => absurd y (show ¬ (100 : Int32) = 7 by decide), fun y => absurd y (show ¬ ((100 : Int32) = 17 ∨ (100 : Int32) = 18 ∨ (100 : Int32) = 19) by decide), fun y => absurd y (show ¬ ((100 : Int32) = 2 ∨ (100 : Int32) = 3) by decide)⟩
theorem EW.jmp {m : md_S} {u l k : Nat} (hk : k = 17 ∨ k = 18 ∨ k = 19) (h : l < 400) : EW m u (nI k, nI l, 0) := by
  refine ⟨Or.inl ⟨k, rfl, by omega⟩, fun _ _ _ => ⟨l, rfl, by omega⟩, fun y => ?_, fun _ => ⟨l, h, rfl⟩, fun y => ?_⟩
  · have := (nI_eq (b := 7) (by omega) (by decide)).mp y
    omega
  · rcases y with y | y
    · have := (nI_eq (b := 2) (by omega) (by decide)).mp y
      omega
    · have := (nI_eq (b := 3) (by omega) (by decide)).mp y
      omega
theorem EW.v {m : md_S} {u k : Nat} {key : Int32} (hk : k = 2 ∨ k = 3) (h : VK m u key) : EW m u (nI k, key, 0) := by
  refine ⟨Or.inl ⟨k, rfl, by omega⟩, fun _ h2 h3 => ?_, fun y => ?_, fun y => ?_, fun _ => h⟩
  · rcases hk with rfl | rfl
    · exact absurd rfl h2
    · exact absurd rfl h3
  · have := (nI_eq (b := 7) (by omega) (by decide)).mp y
    omega
  · rcases y with y | y | y
    · have := (nI_eq (b := 17) (by omega) (by decide)).mp y
      omega
    · have := (nI_eq (b := 18) (by omega) (by decide)).mp y
      omega
    · have := (nI_eq (b := 19) (by omega) (by decide)).mp y
      omega
theorem EW.o {m : md_S} {u k : Nat} {a b : Int32} (hk : k ≤ 28) (hn : k ≠ 2 ∧ k ≠ 3 ∧ k ≠ 17 ∧ k ≠ 18 ∧ k ≠ 19) (ha : ∃ x, a = nI x ∧ x < 2 ^ 31) (hb : k = 7 → ∃ x, b = nI x ∧ x < 2 ^ 31) : EW m u (nI k, a, b) := by
  refine ⟨Or.inl ⟨k, rfl, hk⟩, fun _ _ _ => ha, fun y => hb ((nI_eq (b := 7) (by omega) (by decide)).mp y), fun y => ?_, fun y => ?_⟩
  · exfalso
    rcases y with y | y | y
    · have := (nI_eq (b := 17) (by omega) (by decide)).mp y
      omega
    · have := (nI_eq (b := 18) (by omega) (by decide)).mp y
      omega
    · have := (nI_eq (b := 19) (by omega) (by decide)).mp y
      omega
  · exfalso
    rcases y with y | y
    · have := (nI_eq (b := 2) (by omega) (by decide)).mp y
      omega
    · have := (nI_eq (b := 3) (by omega) (by decide)).mp y
      omega
/-- tables are not large -/
def TBL (m : md_S) : Prop := mN m 35 ≤ 60 ∧ mN m 48 ≤ 24 ∧ mN m 50 ≤ 500 ∧ mN m 58 ≤ 400 ∧ mN m 60 ≤ 400
theorem WFN.ew {m : md_S} {i j u : Nat} (h : WFN m i j) (hb : TBL m) (hk : mA m 66 i ≠ 40 ∧ mA m 66 i ≠ 41 ∧ mA m 66 i ≠ 19 ∧ mA m 66 i ≠ 42 ∧ mA m 66 i ≠ 2) : EW m u (mA m 66 i, mA m 68 i, mA m 69 i) := by
  obtain ⟨b1, b2, b3, b4, b5⟩ := hb
  obtain ⟨n1, n2, n3, n4, n5⟩ := hk
  rcases h with ⟨a, b, ⟨c, d, e⟩, f⟩ | ⟨a, b, f⟩ | ⟨a, -⟩ | ⟨a, b, ⟨c, d, e⟩, f⟩ | ⟨a, ⟨c, d, e⟩, f⟩ | ⟨a, ⟨c, d, e⟩, k, k1, k2, -⟩ | ⟨a, b, k, k1, k2, -⟩ | ⟨a, b, c, d, e, -⟩ | ⟨a, b, f⟩ | ⟨a, b, f⟩ | ⟨a, b, ⟨c, d, e⟩, f⟩ | ⟨a, -⟩ | ⟨a, -⟩ | ⟨a, -⟩
  · rw [a]; exact EW.o (k := 0) (by omega) (by omega) ⟨c, d, by omega⟩ (by omega)
  · rcases a with a | a
    · rw [a]; exact EW.z (k := 1) (by omega) (by decide)
    · rw [a]; exact EW.z (k := 27) (by omega) (by decide)
  · exact absurd a n5
  · rw [a]; exact EW.o (k := 4) (by omega) (by omega) ⟨c, d, by omega⟩ (by omega)
  · rcases a with ⟨a, -⟩ | ⟨a, -⟩
    · rw [a]; exact EW.o (k := 5) (by omega) (by omega) ⟨c, d, by omega⟩ (by omega)
    · rw [a]; exact EW.o (k := 6) (by omega) (by omega) ⟨c, d, by omega⟩ (by omega)
  · rw [a]; exact EW.o (k := 7) (by omega) (by omega) ⟨c, d, by omega⟩ (fun _ => ⟨k, k1, by omega⟩)
  · rw [a]; exact EW.o (k := 8) (by omega) (by omega) ⟨k, k1, by omega⟩ (by omega)
  · rcases a with ⟨a, -⟩ | ⟨a, -⟩
    · rw [a]; exact EW.o (k := 9) (by omega) (by omega) ⟨c, d, by omega⟩ (by omega)
    · rw [a]; exact EW.o (k := 10) (by omega) (by omega) ⟨c, d, by omega⟩ (by omega)
  · rcases a with a | a | a | a | a
    · rw [a]; exact EW.z (k := 11) (by omega) (by decide)
    · rw [a]; exact EW.z (k := 12) (by omega) (by decide)
    · rw [a]; exact EW.z (k := 13) (by omega) (by decide)
    · rw [a]; exact EW.z (k := 14) (by omega) (by decide)
    · rw [a]; exact EW.z (k := 15) (by omega) (by decide)
  · rcases a with a | a | a | a
    · rw [a]; exact EW.z (k := 21) (by omega) (by decide)
    · rw [a]; exact EW.z (k := 22) (by omega) (by decide)
    · rw [a]; exact EW.z (k := 23) (by omega) (by decide)
    · rw [a]; exact EW.z (k := 24) (by omega) (by decide)
  · rcases a with a | a
    · rw [a]; exact EW.o (k := 25) (by omega) (by omega) ⟨c, d, by omega⟩ (by omega)
    · rw [a]; exact EW.o (k := 26) (by omega) (by omega) ⟨c, d, by omega⟩ (by omega)
  · rcases a with a | a
    · exact absurd a n1
    · exact absurd a n3
  · exact absurd a n2
  · exact absurd a n4
theorem WFN.vk {m : md_S} {i j u : Nat} (h : WFN m i j) (hb : TBL m) (hu : u < 60) (h67 : mA m 67 i = nI u) : (mA m 66 i = 2 ∨ mA m 66 i = 40 ∨ mA m 66 i = 19 → VK m u (kv m (aN m 68 i))) ∧ (mA m 66 i = 9 ∨ mA m 66 i = 10 → mA m 69 i = 0 ∧ ∀ x, x < aN m 44 (aN m 68 i) → VK m u (kv m (aN m 45 (16 * aN m 68 i + x)))) := by
  obtain ⟨b1, b2, b3, b4, b5⟩ := hb
  have e67 : aN m 67 i = u := aN_of h67 (by omega)
  refine ⟨fun hk => ?_, fun hk => ?_⟩
  · unfold WFN at h
    rcases hk with hk | hk | hk
    · rw [hk] at h
      simp (decide := true) at h
      obtain ⟨-, ⟨a, d, e, -, go⟩, -⟩ := h
      rw [e67] at go
      exact ⟨a, e, go, by rw [aN_of d (by omega)]⟩
    · rw [hk] at h
      simp (decide := true) at h
      obtain ⟨-, ⟨a, d, e, go⟩, -⟩ := h
      exact ⟨a, e, Or.inl (by rw [go, e67]), by rw [aN_of d (by omega)]⟩
    · rw [hk] at h
      simp (decide := true) at h
      obtain ⟨-, ⟨a, d, e, go⟩, -⟩ := h
      exact ⟨a, e, Or.inl (by rw [go, e67]), by rw [aN_of d (by omega)]⟩
  · unfold WFN at h
    rcases hk with hk | hk
    · rw [hk] at h
      simp (decide := true) at h
      obtain ⟨-, f, a, d, e, -, g, -, go⟩ := h
      refine ⟨f, fun x hx => ?_⟩
      rw [aN_of d (by omega)] at hx ⊢
      have := go x hx
      rw [e67] at this
      exact ⟨_, g x hx, this, rfl⟩
    · rw [hk] at h
      simp (decide := true) at h
      obtain ⟨-, f, a, d, e, -, g, -, go⟩ := h
      refine ⟨f, fun x hx => ?_⟩
      rw [aN_of d (by omega)] at hx ⊢
      have := go x hx
      rw [e67] at this
      exact ⟨_, g x hx, this, rfl⟩
theorem cmb_ew {m : md_S} {i l0 u : Nat} {ess : List (List EN)} (hw : WFN m i ess.length) (hb : TBL m) (hu : u < 60) (h67 : mA m 67 i = nI u) (hl : mA m 66 i = 41 ∨ mA m 66 i = 19 → l0 + 1 < 400) (hc : ∀ e, e ∈ ess.flatten → EW m u e) : ∀ e, e ∈ cmb m i l0 ess → EW m u e := by
  intro e h
  have gd : ∀ x, e ∈ ess.getD x [] → EW m u e := fun x hx => hc e (by
    by_cases hl : x < ess.length
    · rw [List.getD_eq_getElem?_getD, List.getElem?_eq_getElem hl] at hx
      exact List.mem_flatten.mpr ⟨ess[x], List.getElem_mem hl, hx⟩
    · rw [List.getD_eq_getElem?_getD, List.getElem?_eq_none (by omega)] at hx
      exact absurd hx (by simp))
  obtain ⟨v1, v2⟩ := hw.vk hb hu h67
  by_cases h40 : mA m 66 i = 40
  · unfold cmb at h
    rw [if_pos h40] at h
    simp only [List.mem_append, List.mem_singleton] at h
    rcases h with (h | h) | h
    · exact gd 0 h
    · rw [h]; exact EW.v (k := 3) (Or.inr rfl) (v1 (Or.inr (Or.inl h40)))
    · exact gd 1 h
  by_cases h41 : mA m 66 i = 41
  · have hl' := hl (Or.inl h41)
    unfold cmb at h
    rw [if_neg h40, if_pos h41] at h
    simp only [List.mem_append, List.mem_cons, List.not_mem_nil, or_false] at h
    rcases h with ((((h | h) | h) | h | h) | h) | h
    · exact gd 0 h
    · rw [h]; exact EW.jmp (k := 18) (by omega) (by omega)
    · exact gd 1 h
    · rw [h]; exact EW.jmp (k := 17) (by omega) (by omega)
    · rw [h]; exact EW.lab (by omega)
    · exact gd 2 h
    · rw [h]; exact EW.lab (by omega)
  by_cases h19 : mA m 66 i = 19
  · have hl' := hl (Or.inr h19)
    unfold cmb at h
    rw [if_neg h40, if_neg h41, if_pos h19] at h
    simp only [List.mem_append, List.mem_cons, List.not_mem_nil, or_false] at h
    rcases h with (((h | h) | h | h | h | h) | h) | h
    · rw [h]; exact EW.jmp (k := 19) (by omega) (by omega)
    · exact gd 0 h
    · rw [h]; exact EW.z (k := 20) (by omega) (by decide)
    · rw [h]; exact EW.jmp (k := 17) (by omega) (by omega)
    · rw [h]; exact EW.lab (by omega)
    · rw [h]; exact EW.v (k := 3) (Or.inr rfl) (v1 (Or.inr (Or.inr h19)))
    · exact gd 1 h
    · rw [h]; exact EW.lab (by omega)
  by_cases h42 : mA m 66 i = 42
  · unfold cmb at h
    rw [if_neg h40, if_neg h41, if_neg h19, if_pos h42] at h
    rcases rowE_mem h with h | h
    · exact hc e h
    · rw [h]; exact EW.z (k := 16) (by omega) (by decide)
  by_cases h2 : mA m 66 i = 2
  · unfold cmb at h
    rw [if_neg h40, if_neg h41, if_neg h19, if_neg h42, if_pos h2, List.mem_singleton] at h
    rw [h]; exact EW.v (k := 2) (Or.inl rfl) (v1 (Or.inl h2))
  have hn := hw.ew (u := u) hb ⟨h40, h41, h19, h42, h2⟩
  by_cases h9 : mA m 66 i = 9 ∨ mA m 66 i = 10
  · obtain ⟨f, g⟩ := v2 h9
    unfold cmb at h
    rw [if_neg h40, if_neg h41, if_neg h19, if_neg h42, if_neg h2, if_pos h9] at h
    rcases List.mem_append.mp h with h | h
    · rcases List.mem_append.mp h with h | h
      · exact hc e h
      · obtain ⟨x, hx, rfl⟩ := List.mem_map.mp h
        exact EW.v (k := 2) (Or.inl rfl) (g x (List.mem_range.mp hx))
    · rw [List.mem_singleton.mp h]
      rw [f] at hn
      exact hn
  · unfold cmb at h
    rw [if_neg h40, if_neg h41, if_neg h19, if_neg h42, if_neg h2, if_neg h9] at h
    rcases List.mem_append.mp h with h | h
    · exact hc e h
    · rw [List.mem_singleton.mp h]; exact hn
theorem GL.ew {m : md_S} {u f : Nat} (ih : ∀ {x a b : Nat} {e : List EN} {nx : List Nat}, Gen m u f x a b e nx → b ≤ 400 → ∀ y, y ∈ e → EW m u y) : ∀ {ch : List Nat} {l0 l1 : Nat} {ess : List (List EN)} {ns : List Nat}, GL (Gen m u f) ch l0 l1 ess ns → l1 ≤ 400 → ∀ y, y ∈ ess.flatten → EW m u y
  | [], _, _, ess, _, ⟨_, h, _⟩, _, y, hy => by rw [h] at hy; exact absurd hy (by simp)
  | x :: xs, l0, l1, ess, ns, ⟨la, es, rest, n1, n2, h1, h2, h3, h4⟩, hl, y, hy => by
      have hla := (GL.lb (fun h => Gen.lbl h) h2).1
      rw [h3, List.flatten_cons] at hy
      rcases List.mem_append.mp hy with hy | hy
      · exact ih h1 (by omega) y hy
      · exact GL.ew ih h2 hl y hy
theorem Gen.ew {m : md_S} {u : Nat} (hb : TBL m) (hu : u < 60) : ∀ {f : Nat} {i l0 l1 : Nat} {es : List EN} {ns : List Nat}, Gen m u f i l0 l1 es ns → l1 ≤ 400 → ∀ y, y ∈ es → EW m u y
  | 0, _, _, _, _, _, h, _, _, _ => h.elim
  | f + 1, i, l0, l1, es, ns, ⟨h1, h2, ch, ess, n1, h3, h4, h5, h6, h7⟩, hl, y, hy => by
      have hw : WFN m i ess.length := by rw [h4.len]; exact h7
      have hla := (GL.lb (fun h => Gen.lbl h) h4).1
      rw [h5] at hy
      refine cmb_ew hw hb hu h1 (fun hk => ?_) (GL.ew (fun h => Gen.ew hb hu h) h4 hl) y hy
      have hlb : lb (mA m 66 i) = 2 := by rcases hk with y | y <;> rw [y] <;> rfl
      omega
/-- what numbers stand in ns -/
theorem GL.nsb {m : md_S} {u f : Nat} (ih : ∀ {x a b : Nat} {e : List EN} {nx : List Nat}, Gen m u f x a b e nx → ∀ j, j ∈ nx → j < 900 ∨ ∃ q, j = 1000 + q) : ∀ {ch : List Nat} {l0 l1 : Nat} {ess : List (List EN)} {ns : List Nat}, GL (Gen m u f) ch l0 l1 ess ns → ∀ j, j ∈ ns → j < 900 ∨ ∃ q, j = 1000 + q
  | [], _, _, _, ns, ⟨_, _, h⟩, j, hj => by rw [h] at hj; exact absurd hj (by simp)
  | x :: xs, l0, l1, ess, ns, ⟨la, es, rest, n1, n2, h1, h2, h3, h4⟩, j, hj => by
      rw [h4] at hj
      rcases List.mem_append.mp hj with hj | hj
      · exact ih h1 j hj
      · exact GL.nsb ih h2 j hj
theorem Gen.nsb {m : md_S} {u : Nat} : ∀ {f : Nat} {i l0 l1 : Nat} {es : List EN} {ns : List Nat}, Gen m u f i l0 l1 es ns → ∀ j, j ∈ ns → j < 900 ∨ ∃ q, j = 1000 + q
  | 0, _, _, _, _, _, h, _, _ => h.elim
  | f + 1, i, l0, l1, es, ns, ⟨h1, h2, ch, ess, n1, h3, h4, h5, h6, h7⟩, j, hj => by
      rw [h6] at hj
      rcases List.mem_cons.mp hj with hj | hj
      · rw [hj]; exact Or.inl h2
      · rcases List.mem_append.mp hj with hj | hj
        · unfold um at hj
          split at hj
          · exact Or.inr ⟨_, List.mem_singleton.mp hj⟩
          · exact absurd hj (by simp)
        · exact GL.nsb (fun h => Gen.nsb h) h4 j hj
theorem ns_len {ns : List Nat} {N U : Nat} (hnd : ns.Nodup) (h : ∀ j, j ∈ ns → j < 900 ∨ ∃ q, j = 1000 + q) (h1 : ∀ j, j ∈ ns → j < 900 → j < N) (h2 : ∀ q, 1000 + q ∈ ns → q < U) : ns.length ≤ N + U := by
  refine ph (fun x => if ns.getD x 0 < 900 then ns.getD x 0 else N + (ns.getD x 0 - 1000)) (fun x hx => ?_) (fun x y hxy hy => ?_)
  · have e : ns.getD x 0 = ns[x] := by rw [List.getD_eq_getElem?_getD, List.getElem?_eq_getElem hx]; rfl
    have hm : ns.getD x 0 ∈ ns := by rw [e]; exact List.getElem_mem hx
    rcases h _ hm with q | ⟨q, q1⟩
    · rw [if_pos q]
      have := h1 _ hm q
      omega
    · rw [if_neg (by omega)]
      have := h2 q (by rw [← q1]; exact hm)
      omega
  · have hx : x < ns.length := by omega
    have ex : ns.getD x 0 = ns[x] := by rw [List.getD_eq_getElem?_getD, List.getElem?_eq_getElem hx]; rfl
    have ey : ns.getD y 0 = ns[y] := by rw [List.getD_eq_getElem?_getD, List.getElem?_eq_getElem hy]; rfl
    have hmx : ns.getD x 0 ∈ ns := by rw [ex]; exact List.getElem_mem hx
    have hmy : ns.getD y 0 ∈ ns := by rw [ey]; exact List.getElem_mem hy
    have hne : ns.getD x 0 ≠ ns.getD y 0 := by
      rw [ex, ey]
      exact (List.pairwise_iff_getElem.mp hnd) x y hx hy hxy
    rcases h _ hmx with q | ⟨q, q1⟩
    · have b1 := h1 _ hmx q
      rcases h _ hmy with r | ⟨r, r1⟩
      · rw [if_pos q, if_pos r]; exact hne
      · rw [if_pos q, if_neg (by omega)]; omega
    · rcases h _ hmy with r | ⟨r, r1⟩
      · have b1 := h1 _ hmy r
        rw [if_neg (by omega), if_pos r]; omega
      · rw [if_neg (by omega), if_neg (by omega)]; omega
