/-! the entries of a script -/
theorem nI_div3 {k : Nat} (h : k < 700000) : nI (3 * k) / 3 = nI k := by
  apply Int32.toInt_inj.mp
  have e1 : (nI (3 * k)).toInt = ((3 * k : Nat) : Int) := Int32.toInt_ofNat_of_lt (by omega)
  have e2 : (nI k).toInt = ((k : Nat) : Int) := Int32.toInt_ofNat_of_lt (by omega)
  rw [Int32.toInt_div_of_ne_right _ _ (by decide), e1, e2]
  have : (3 : Int32).toInt = 3 := by decide
  rw [this]
  rw [Int.tdiv_eq_ediv_of_nonneg (by omega)]
  omega
theorem fE_len : ∀ E : List EN, (fE E).length = 3 * E.length
  | [] => rfl
  | e :: E => by
      show ([e.1.toInt64, e.2.1.toInt64, e.2.2.toInt64] ++ fE E).length = _
      rw [List.length_append, fE_len E]
      simp
      omega
theorem fE_get : ∀ (E : List EN) (i t : Nat), t < 3 → i < E.length → (fE E).getD (3 * i + t) 0 = (if t = 0 then (E.getD i (0, 0, 0)).1 else if t = 1 then (E.getD i (0, 0, 0)).2.1 else (E.getD i (0, 0, 0)).2.2).toInt64
  | [], i, t, _, h => absurd h (by simp)
  | e :: E, 0, t, ht, _ => by
      show ([e.1.toInt64, e.2.1.toInt64, e.2.2.toInt64] ++ fE E).getD (3 * 0 + t) 0 = _
      have : t = 0 ∨ t = 1 ∨ t = 2 := by omega
      rcases this with rfl | rfl | rfl <;> rfl
  | e :: E, i + 1, t, ht, h => by
      show ([e.1.toInt64, e.2.1.toInt64, e.2.2.toInt64] ++ fE E).getD (3 * (i + 1) + t) 0 = _
      rw [List.getD_eq_getElem?_getD, List.getElem?_append_right (by simp; omega), show 3 * (i + 1) + t - [e.1.toInt64, e.2.1.toInt64, e.2.2.toInt64].length = 3 * i + t by simp; omega, ← List.getD_eq_getElem?_getD, fE_get E i t ht (by simp at h; omega)]
      rfl
/-- unit u has script E -/
def SCP (c : cd_S) (u : Nat) (E : List EN) : Prop := RowOk c (17 + 3 * u) ∧ rL c (17 + 3 * u) = fE E
theorem SCP.len {c : cd_S} {u : Nat} {E : List EN} (h : SCP c u E) : 3 * E.length < 1000000 ∧ rsz c (17 + 3 * u) = 3 * E.length := by
  have h1 := h.1.szlt
  have h2 := rL_len c (17 + 3 * u)
  rw [h.2, fE_len] at h2
  omega
theorem c_len {n : Nat} {c : cd_S} {u : Nat} {E : List EN} (h : SCP c u E) : f_X9_length n c u = some (nI E.length, c) := by
  obtain ⟨h1, h2⟩ := h.len
  unfold f_X9_length
  rw [h.1.1, h2, nI_div3 (by omega)]
theorem c_ent {n : Nat} {c : cd_S} {u i : Nat} {E : List EN} (h : SCP c u E) (hi : i < E.length) : f_X9_what n c u (nI i) = some ((E.getD i (0, 0, 0)).1, c) ∧ f_X9_first n c u (nI i) = some ((E.getD i (0, 0, 0)).2.1, c) ∧ f_X9_second n c u (nI i) = some ((E.getD i (0, 0, 0)).2.2, c) := by
  obtain ⟨h1, h2⟩ := h.len
  have e3 : nI i * 3 = nI (3 * i) := by rw [show (3 : Int32) = nI 3 from rfl, nI_mul, Nat.mul_comm]
  have g0 := fE_get E i 0 (by omega) hi
  have g1 := fE_get E i 1 (by omega) hi
  have g2 := fE_get E i 2 (by omega) hi
  refine ⟨?_, ?_, ?_⟩
  · unfold f_X9_what
    rw [e3, c_atL h.1 (by omega), bs_some, h.2, show 3 * i = 3 * i + 0 from rfl, g0, if_pos rfl, i32_64]
  · unfold f_X9_first
    rw [e3, nI_1, c_atL h.1 (by omega), bs_some, h.2, g1, if_neg (by decide), if_pos rfl, i32_64]
  · unfold f_X9_second
    rw [e3, show (2 : Int32) = nI 2 from rfl, nI_add, c_atL h.1 (by omega), bs_some, h.2, g2, if_neg (by decide), if_neg (by decide), i32_64]
theorem SCP.fr {c c' : cd_S} {u : Nat} {E : List EN} {F R : List Nat} (h : SCP c u E) (hf : cd_fr F R c c') (hR : 17 + 3 * u ∉ R) : SCP c' u E := ⟨h.1.of (cd_frz hf hR) (cd_frC hf hR), by rw [rL_fr hf hR]; exact h.2⟩
/-- a clamped operand -/
def oN (x : Int32) : Nat := x.toNatClampNeg
theorem oN_nI {a : Nat} (h : a < 2 ^ 31) : oN (nI a) = a := nI_clamp h
/-- unit v may be begun by what, a, b -/
def BG (m : md_S) (w a b : Int32) (v : Nat) : Prop := (w = 7 ∧ mA m 36 v = 0 ∧ mL m 43 v = mL m 61 (oN a) ∧ mA m 39 v = b) ∨ (w = 8 ∧ mA m 36 v = 1 ∧ mA m 39 v = a) ∨ (w = 23 ∧ mA m 36 v = 1 ∧ mA m 39 v = 0)
/-- an entry works on the context of its frame, where units of S do -/
def HE (m : md_S) (S : Nat → Prop) (e : EN) : Prop := e.1 = 25 ∨ e.1 = 26 ∨ e.1 = 27 ∨ (e.1 = 10 ∧ mA m 36 (oN e.2.1) = 3 ∧ S (oN e.2.1)) ∨ ∃ v, v < mN m 35 ∧ BG m e.1 e.2.1 e.2.2 v ∧ S v
/-- operands that are in order -/
def WFE (m : md_S) (e : EN) : Prop := (e.1 = 7 → ∃ a, e.2.1 = nI a ∧ a < mN m 60) ∧ (e.1 = 10 → ∃ a, e.2.1 = nI a ∧ a < mN m 35)
theorem c_nameAt {n : Nat} {c : cd_S} {K a : Nat} (h78 : cI c 78 0 = nI K) (hK : K ≤ 400) (ha : a < K) : f_X2_nameAt n c (nI a) = some (cLr c 77 0 a, c) := by
  unfold f_X2_nameAt
  rw [if_neg (show ¬ nI a < 0 from nI_nn (by omega)), h78, if_neg (fun y => absurd ((nI_leI (by omega) (by omega)).mp y) (by omega)), c_ld77 (by omega), bs_some]
theorem c_begun {n : Nat} {c : cd_S} {m : md_S} {U : Nat} {w a b : Int32} (hn : 100 ≤ n) (hU : cI c 66 0 = nI U) (hU60 : U ≤ 60) (hUm : mN m 35 = U) (hq : UG c m U) (hna : NAR c m) (h62 : mN m 62 ≤ 400) (hw : w = 7 → ∃ x, a = nI x ∧ x < mN m 60) : (∃ g, g < U ∧ BG m w a b g ∧ (∀ y, y < g → ¬ BG m w a b y) ∧ f_X2_groupBegun n c w a b = some (nI g, c)) ∨ ((∀ y, y < U → ¬ BG m w a b y) ∧ f_X2_groupBegun n c w a b = some (-1, c)) := by
  obtain ⟨n1, n2, n3, n4⟩ := hna
  unfold f_X2_groupBegun
  by_cases h7 : w = 7
  · obtain ⟨x, rfl, hx⟩ := hw h7
    rw [if_pos h7, c_nameAt n1 (by omega) hx, bs_some]
    dsimp only
    have key : ∀ v, v < U → (GRP c 0 (cLr c 77 0 x) b v ↔ BG m w (nI x) b v) := by
      intro v hv
      obtain ⟨a1, a2, a3⟩ := hq v hv
      constructor
      · rintro ⟨g1, g2, g3⟩
        have z : mA m 36 v = 0 := by rw [← a1]; exact g1
        refine Or.inl ⟨h7, z, ?_, by rw [← a2]; exact g2⟩
        rw [oN_nI (by omega)]
        exact ((a3 z).iff (n4 x hx)).mp (g3.elim (fun y => absurd y (by decide)) (fun y => y))
      · rintro (⟨-, z, y1, y2⟩ | ⟨y, -⟩ | ⟨y, -⟩)
        · rw [oN_nI (by omega)] at y1
          exact ⟨by rw [a1]; exact z, by rw [a2]; exact y2, Or.inr (((a3 z).iff (n4 x hx)).mpr y1)⟩
        · rw [h7] at y; exact absurd y (by decide)
        · rw [h7] at y; exact absurd y (by decide)
    rcases c_groupOf (n := n) (c := c) (s := 0) (p := b) (nm := cLr c 77 0 x) hn hU hU60 with ⟨g, g1, g2, g3, g4⟩ | ⟨g1, g2⟩
    · rw [g4, bs_some]
      exact Or.inl ⟨g, g1, (key g g1).mp g2, fun y hy z => g3 y hy ((key y (by omega)).mpr z), rfl⟩
    · rw [g2, bs_some]
      exact Or.inr ⟨fun y hy z => g1 y hy ((key y hy).mpr z), rfl⟩
  · rw [if_neg h7]
    have key1 : ∀ (p : Int32) (P : Nat → Prop), (∀ v, v < U → (P v ↔ (mA m 36 v = 1 ∧ mA m 39 v = p))) → (∃ g, g < U ∧ P g ∧ (∀ y, y < g → ¬ P y) ∧ f_X2_groupOf n c 1 0 p = some (nI g, c)) ∨ ((∀ y, y < U → ¬ P y) ∧ f_X2_groupOf n c 1 0 p = some (-1, c)) := by
      intro p P hP
      have key : ∀ v, v < U → (GRP c 1 0 p v ↔ P v) := by
        intro v hv
        obtain ⟨a1, a2, a3⟩ := hq v hv
        rw [hP v hv]
        constructor
        · rintro ⟨g1, g2, g3⟩
          exact ⟨by rw [← a1]; exact g1, by rw [← a2]; exact g2⟩
        · rintro ⟨y1, y2⟩
          exact ⟨by rw [a1]; exact y1, by rw [a2]; exact y2, Or.inl rfl⟩
      rcases c_groupOf (n := n) (c := c) (s := 1) (p := p) (nm := 0) hn hU hU60 with ⟨g, g1, g2, g3, g4⟩ | ⟨g1, g2⟩
      · exact Or.inl ⟨g, g1, (key g g1).mp g2, fun y hy z => g3 y hy ((key y (by omega)).mpr z), g4⟩
      · exact Or.inr ⟨fun y hy z => g1 y hy ((key y hy).mpr z), g2⟩
    by_cases h8 : w = 8
    · rw [if_pos h8]
      rcases key1 a (BG m w a b) (fun v _ => ⟨fun y => by
        rcases y with ⟨y, -⟩ | ⟨-, y⟩ | ⟨y, -⟩
        · exact absurd y h7
        · exact y
        · rw [h8] at y; exact absurd y (by decide), fun y => Or.inr (Or.inl ⟨h8, y⟩)⟩) with ⟨g, g1, g2, g3, g4⟩ | ⟨g1, g2⟩
      · rw [g4, bs_some]; exact Or.inl ⟨g, g1, g2, g3, rfl⟩
      · rw [g2, bs_some]; exact Or.inr ⟨g1, rfl⟩
    · rw [if_neg h8]
      by_cases h23 : w = 23
      · rw [if_pos h23]
        rcases key1 0 (BG m w a b) (fun v _ => ⟨fun y => by
          rcases y with ⟨y, -⟩ | ⟨y, -⟩ | ⟨-, y⟩
          · exact absurd y h7
          · exact absurd y h8
          · exact y, fun y => Or.inr (Or.inr ⟨h23, y⟩)⟩) with ⟨g, g1, g2, g3, g4⟩ | ⟨g1, g2⟩
        · rw [g4, bs_some]; exact Or.inl ⟨g, g1, g2, g3, rfl⟩
        · rw [g2, bs_some]; exact Or.inr ⟨g1, rfl⟩
      · rw [if_neg h23]
        refine Or.inr ⟨fun y _ z => ?_, rfl⟩
        rcases z with ⟨z, -⟩ | ⟨z, -⟩ | ⟨z, -⟩
        · exact h7 z
        · exact h8 z
        · exact h23 z
/-- S does not part groups -/
def GCL (m : md_S) (S : Nat → Prop) : Prop := ∀ u v, u < mN m 35 → v < mN m 35 → SG m u v → S v → S u
theorem BG.sg {m : md_S} {w a b : Int32} {u v : Nat} (h : BG m w a b u) (h2 : BG m w a b v) : SG m u v := by
  rcases h with ⟨w1, x1, x2, x3⟩ | ⟨w1, x1, x2⟩ | ⟨w1, x1, x2⟩
  · rcases h2 with ⟨w2, y1, y2, y3⟩ | ⟨w2, -⟩ | ⟨w2, -⟩
    · exact ⟨x1.trans y1.symm, x3.trans y3.symm, Or.inr ⟨x1, x2.trans y2.symm⟩⟩
    · rw [w1] at w2; exact absurd w2 (by decide)
    · rw [w1] at w2; exact absurd w2 (by decide)
  · rcases h2 with ⟨w2, -⟩ | ⟨w2, y1, y2⟩ | ⟨w2, -⟩
    · rw [w1] at w2; exact absurd w2 (by decide)
    · exact ⟨x1.trans y1.symm, x2.trans y2.symm, Or.inl x1⟩
    · rw [w1] at w2; exact absurd w2 (by decide)
  · rcases h2 with ⟨w2, -⟩ | ⟨w2, -⟩ | ⟨w2, y1, y2⟩
    · rw [w1] at w2; exact absurd w2 (by decide)
    · rw [w1] at w2; exact absurd w2 (by decide)
    · exact ⟨x1.trans y1.symm, x2.trans y2.symm, Or.inl x1⟩
theorem c_hands {n : Nat} {c : cd_S} {m : md_S} {U : Nat} {S : Nat → Prop} {e : EN} (hn : 100 ≤ n) (hU : cI c 66 0 = nI U) (hU60 : U ≤ 60) (hUm : mN m 35 = U) (hq : UG c m U) (hna : NAR c m) (h62 : mN m 62 ≤ 400) (hw : WFE m e) (hS : ∀ u, u < U → (S u ↔ cI c 301 u ≠ 0)) (hG : GCL m S) : ∃ v, f_X2_handsContext n c e.1 e.2.1 e.2.2 = some (v, c) ∧ bI (HE m S e) v := by
  unfold f_X2_handsContext
  by_cases h25 : e.1 = 25
  · rw [if_pos h25]; exact ⟨1, rfl, bI.t (Or.inl h25)⟩
  rw [if_neg h25]
  by_cases h26 : e.1 = 26
  · rw [if_pos h26]; exact ⟨1, rfl, bI.t (Or.inr (Or.inl h26))⟩
  rw [if_neg h26]
  by_cases h27 : e.1 = 27
  · rw [if_pos h27]; exact ⟨1, rfl, bI.t (Or.inr (Or.inr (Or.inl h27)))⟩
  rw [if_neg h27]
  by_cases h10 : e.1 = 10
  · rw [if_pos h10]
    obtain ⟨a, ea, ha⟩ := hw.2 h10
    have hnb : ∀ v, ¬ BG m e.1 e.2.1 e.2.2 v := fun v y => by
      rcases y with ⟨y, -⟩ | ⟨y, -⟩ | ⟨y, -⟩ <;> rw [h10] at y <;> exact absurd y (by decide)
    have hH : HE m S e ↔ (mA m 36 a = 3 ∧ S a) := by
      unfold HE
      rw [ea, oN_nI (by omega)]
      exact ⟨fun y => by
        rcases y with y | y | y | y | ⟨v, -, y, -⟩
        · exact absurd y h25
        · exact absurd y h26
        · exact absurd y h27
        · exact y.2
        · rw [← ea] at y; exact absurd y (hnb v), fun y => Or.inr (Or.inr (Or.inr (Or.inl ⟨h10, y⟩)))⟩
    rw [ea, c_unitAt (by omega), bs_some]
    dsimp only
    rw [(hq a (by omega)).1]
    by_cases h3 : mA m 36 a = 3
    · rw [if_pos h3, c_unitAt (by omega), bs_some]
      dsimp only
      by_cases hs : cI c 301 a = 0
      · rw [if_pos hs]
        exact ⟨0, rfl, bI.f (fun y => ((hS a (by omega)).mp (hH.mp y).2) hs)⟩
      · rw [if_neg hs]
        exact ⟨1, rfl, bI.t (hH.mpr ⟨h3, (hS a (by omega)).mpr hs⟩)⟩
    · rw [if_neg h3]
      exact ⟨0, rfl, bI.f (fun y => h3 (hH.mp y).1)⟩
  rw [if_neg h10]
  have hH : HE m S e ↔ ∃ v, v < mN m 35 ∧ BG m e.1 e.2.1 e.2.2 v ∧ S v := ⟨fun y => by
    rcases y with y | y | y | y | y
    · exact absurd y h25
    · exact absurd y h26
    · exact absurd y h27
    · exact absurd y.1 h10
    · exact y, fun y => Or.inr (Or.inr (Or.inr (Or.inr y)))⟩
  rcases c_begun (n := n) (w := e.1) (a := e.2.1) (b := e.2.2) hn hU hU60 hUm hq hna h62 hw.1 with ⟨g, g1, g2, g3, g4⟩ | ⟨g1, g2⟩
  · rw [g4, bs_some]
    dsimp only
    rw [if_neg (nI_nem1 (a := g) (by omega)), c_unitAt (by omega), bs_some]
    dsimp only
    by_cases hs : cI c 301 g = 0
    · rw [if_pos hs]
      refine ⟨0, rfl, bI.f (fun y => ?_)⟩
      obtain ⟨v, v1, v2, v3⟩ := hH.mp y
      exact (hS g g1).mp (hG g v (by omega) v1 (g2.sg v2) v3) hs
    · rw [if_neg hs]
      exact ⟨1, rfl, bI.t (hH.mpr ⟨g, by omega, g2, (hS g g1).mpr hs⟩)⟩
  · rw [g2, bs_some]
    dsimp only
    rw [if_pos rfl]
    refine ⟨0, rfl, bI.f (fun y => ?_)⟩
    obtain ⟨v, v1, v2, v3⟩ := hH.mp y
    exact g1 v (by omega) v2
