/-! labels of a tree, and how long its code is -/
def lbs (es : List EN) : List Int32 := es.filterMap (fun e => if e.1 = 100 then some e.2.1 else none)
theorem lbs_app (a b : List EN) : lbs (a ++ b) = lbs a ++ lbs b := List.filterMap_append
theorem lbs_no {e : EN} (h : e.1 ≠ 100) (r : List EN) : lbs (e :: r) = lbs r := by
  unfold lbs
  rw [List.filterMap_cons, if_neg h]
theorem lbs_n {w a b : Int32} (h : w ≠ 100) (r : List EN) : lbs ((w, a, b) :: r) = lbs r := lbs_no (e := (w, a, b)) h r
theorem lbs_lab (l z : Int32) (r : List EN) : lbs ((100, l, z) :: r) = l :: lbs r := by
  unfold lbs
  rw [List.filterMap_cons, if_pos rfl]
def LB (l0 l1 : Nat) (es : List EN) : Prop := l0 ≤ l1 ∧ (l1 < 2 ^ 31 → (lbs es).Nodup) ∧ ∀ l, l ∈ lbs es → ∃ k, l = nI k ∧ l0 ≤ k ∧ k < l1
theorem LB.app {a b d : Nat} {x y : List EN} (h : LB a b x) (h2 : LB b d y) : LB a d (x ++ y) := by
  obtain ⟨h1, h3, h4⟩ := h
  obtain ⟨g1, g3, g4⟩ := h2
  refine ⟨by omega, fun hd => ?_, fun l hl => ?_⟩
  · rw [lbs_app]
    refine List.nodup_append.mpr ⟨h3 (by omega), g3 hd, fun p hp q hq e => ?_⟩
    obtain ⟨k, k1, k2, k3⟩ := h4 p hp
    obtain ⟨j, j1, j2, j3⟩ := g4 q hq
    rw [k1, j1] at e
    have := (nI_eq (by omega) (by omega)).mp e
    omega
  · rw [lbs_app] at hl
    rcases List.mem_append.mp hl with hl | hl
    · obtain ⟨k, k1, k2, k3⟩ := h4 l hl
      exact ⟨k, k1, k2, by omega⟩
    · obtain ⟨k, k1, k2, k3⟩ := g4 l hl
      exact ⟨k, k1, by omega, k3⟩
theorem GL.lb {G : Nat → Nat → Nat → List EN → List Nat → Prop} (hG : ∀ {x a b : Nat} {e : List EN} {nx : List Nat}, G x a b e nx → LB a b e) : ∀ {ch : List Nat} {l0 l1 : Nat} {ess : List (List EN)} {ns : List Nat}, GL G ch l0 l1 ess ns → LB l0 l1 ess.flatten
  | [], l0, l1, _, _, ⟨h1, h2, _⟩ => by
      rw [h2, h1]
      exact ⟨Nat.le_refl _, fun _ => List.nodup_nil, fun l hl => absurd hl (by simp [lbs])⟩
  | x :: xs, l0, l1, ess, ns, ⟨la, es, rest, n1, n2, h1, h2, h3, h4⟩ => by
      rw [h3, List.flatten_cons]
      exact (hG h1).app (GL.lb hG h2)
theorem lbs_gts (m : md_S) (q : Nat) : lbs (gts m q) = [] := by
  unfold gts
  generalize List.range (aN m 44 q) = l
  induction l with
  | nil => rfl
  | cons a l ih => rw [List.map_cons, lbs_n (by decide), ih]
theorem lbs_row : ∀ (r : List (List EN)), lbs (r.flatMap dr) = lbs r.flatten
  | [] => rfl
  | e :: r => by rw [List.flatMap_cons, lbs_app, List.flatten_cons, lbs_app, lbs_row r]; rfl
theorem lbs_cmb {m : md_S} {i l0 : Nat} {ess : List (List EN)} (hw : WFN m i ess.length) : (mA m 66 i ≠ 41 → mA m 66 i ≠ 19 → lbs (cmb m i l0 ess) = lbs ess.flatten) ∧ (mA m 66 i = 41 ∨ mA m 66 i = 19 → ∃ A B, lbs ess.flatten = A ++ B ∧ lbs (cmb m i l0 ess) = A ++ nI l0 :: (B ++ [nI (l0 + 1)])) := by
  have hj := hw.kj
  refine ⟨fun h41 h19 => ?_, ?_⟩
  · by_cases h40 : mA m 66 i = 40
    · have h2 := hj.1 h40
      obtain ⟨e0, r, rfl⟩ : ∃ e0 r, ess = e0 :: r := by cases ess with
        | nil => exact absurd h2 (by simp)
        | cons a b => exact ⟨a, b, rfl⟩
      obtain ⟨e1, r2, rfl⟩ : ∃ e1 r2, r = e1 :: r2 := by cases r with
        | nil => exact absurd h2 (by simp)
        | cons a b => exact ⟨a, b, rfl⟩
      obtain rfl : r2 = [] := by cases r2 with
        | nil => rfl
        | cons a b => exact absurd h2 (by simp)
      have : cmb m i l0 [e0, e1] = e0 ++ ([(3, kv m (aN m 68 i), 0)] ++ e1) := by
        unfold cmb; rw [if_pos h40]; simp
      rw [this, lbs_app, lbs_app, lbs_n (by decide)]
      simp [lbs_app, lbs]
    · by_cases h42 : mA m 66 i = 42
      · have : cmb m i l0 ess = rowE ess := by unfold cmb; rw [if_neg h40, if_neg h41, if_neg h19, if_pos h42]
        rw [this]
        cases ess with
        | nil => rfl
        | cons e r => rw [rowE_dr, lbs_app, lbs_row, List.flatten_cons, lbs_app]
      · by_cases h2 : mA m 66 i = 2
        · have hl := hj.2.2.2.1 h2
          have : ess = [] := List.length_eq_zero_iff.mp hl
          have e : cmb m i l0 ess = [(2, kv m (aN m 68 i), 0)] := by unfold cmb; rw [if_neg h40, if_neg h41, if_neg h19, if_neg h42, if_pos h2]
          rw [e, lbs_n (by decide), this]; rfl
        · by_cases h9 : mA m 66 i = 9 ∨ mA m 66 i = 10
          · have e : cmb m i l0 ess = ess.flatten ++ gts m (aN m 68 i) ++ [(mA m 66 i, mA m 68 i, 0)] := by unfold cmb; rw [if_neg h40, if_neg h41, if_neg h19, if_neg h42, if_neg h2, if_pos h9]
            rw [e, lbs_app, lbs_app, lbs_gts, lbs_no (by rcases h9 with h | h <;> (show mA m 66 i ≠ 100; rw [h]; decide))]
            simp [lbs]
          · rw [cmb_d (by simp only [List.mem_cons, List.mem_nil_iff, or_false, not_or]; exact ⟨h40, h41, h19, h42, h2, fun y => h9 (Or.inl y), fun y => h9 (Or.inr y)⟩), lbs_app]
            have : (nE m i).1 ≠ 100 := by
              show mA m 66 i ≠ 100
              intro y
              unfold WFN at hw
              rw [y] at hw
              simp (decide := true) at hw
            rw [lbs_no this]
            simp [lbs]
  · rintro (h | h)
    · have h2 := hj.2.2.1 h
      obtain ⟨e0, r, rfl⟩ : ∃ e0 r, ess = e0 :: r := by cases ess with
        | nil => exact absurd h2 (by simp)
        | cons a b => exact ⟨a, b, rfl⟩
      obtain ⟨e1, r2, rfl⟩ : ∃ e1 r2, r = e1 :: r2 := by cases r with
        | nil => exact absurd h2 (by simp)
        | cons a b => exact ⟨a, b, rfl⟩
      obtain ⟨e2, r3, rfl⟩ : ∃ e1 r3, r2 = e1 :: r3 := by cases r2 with
        | nil => exact absurd h2 (by simp)
        | cons a b => exact ⟨a, b, rfl⟩
      obtain rfl : r3 = [] := by cases r3 with
        | nil => rfl
        | cons a b => exact absurd h2 (by simp)
      refine ⟨lbs e0 ++ lbs e1, lbs e2, by simp [lbs_app], ?_⟩
      have : cmb m i l0 [e0, e1, e2] = e0 ++ ([(18, nI l0, 0)] ++ (e1 ++ ([(17, nI (l0 + 1), 0), (100, nI l0, 0)] ++ (e2 ++ [(100, nI (l0 + 1), 0)])))) := by
        unfold cmb; rw [if_neg (by rw [h]; decide), if_pos h]; simp
      rw [this, lbs_app, lbs_app, lbs_app, lbs_app, lbs_app, lbs_n (by decide), lbs_n (by decide), lbs_lab, lbs_lab]
      simp [lbs]
    · have h2 := hj.2.1 h
      obtain ⟨e0, r, rfl⟩ : ∃ e0 r, ess = e0 :: r := by cases ess with
        | nil => exact absurd h2 (by simp)
        | cons a b => exact ⟨a, b, rfl⟩
      obtain ⟨e1, r2, rfl⟩ : ∃ e1 r2, r = e1 :: r2 := by cases r with
        | nil => exact absurd h2 (by simp)
        | cons a b => exact ⟨a, b, rfl⟩
      obtain rfl : r2 = [] := by cases r2 with
        | nil => rfl
        | cons a b => exact absurd h2 (by simp)
      refine ⟨lbs e0, lbs e1, by simp [lbs_app], ?_⟩
      have : cmb m i l0 [e0, e1] = [(19, nI l0, 0)] ++ (e0 ++ ([(20, 0, 0), (17, nI (l0 + 1), 0), (100, nI l0, 0), (3, kv m (aN m 68 i), 0)] ++ (e1 ++ [(100, nI (l0 + 1), 0)]))) := by
        unfold cmb; rw [if_neg (by rw [h]; decide), if_neg (by rw [h]; decide), if_pos h]; simp
      rw [this, lbs_app, lbs_app, lbs_app, lbs_app, lbs_n (by decide), lbs_n (by decide), lbs_n (by decide), lbs_lab, lbs_n (by decide), lbs_lab]
      simp [lbs]
theorem Gen.lbl {m : md_S} {u : Nat} : ∀ {f : Nat} {i l0 l1 : Nat} {es : List EN} {ns : List Nat}, Gen m u f i l0 l1 es ns → LB l0 l1 es
  | 0, _, _, _, _, _, h => h.elim
  | f + 1, i, l0, l1, es, ns, ⟨h1, h2, ch, ess, n1, h3, h4, h5, h6, h7⟩ => by
      have hl := h4.lb (fun h => Gen.lbl h)
      have hw : WFN m i ess.length := by rw [h4.len]; exact h7
      obtain ⟨c1, c2⟩ := lbs_cmb (l0 := l0) hw
      rw [h5]
      by_cases hk : mA m 66 i = 41 ∨ mA m 66 i = 19
      · have hlb : lb (mA m 66 i) = 2 := by rcases hk with y | y <;> rw [y] <;> rfl
        rw [hlb] at hl
        obtain ⟨q1, q2, q3⟩ := hl
        obtain ⟨A, B, r1, r2⟩ := c2 hk
        rw [r1] at q2 q3
        refine ⟨by omega, fun hd => ?_, fun l hlm => ?_⟩
        · rw [r2]
          have hp : (A ++ nI l0 :: (B ++ [nI (l0 + 1)])).Perm (nI l0 :: nI (l0 + 1) :: (A ++ B)) := by
            refine List.perm_middle.trans (List.Perm.cons _ ?_)
            rw [← List.append_assoc]
            exact List.perm_append_singleton _ _
          rw [hp.nodup_iff]
          refine List.nodup_cons.mpr ⟨fun y => ?_, List.nodup_cons.mpr ⟨fun y => ?_, q2 hd⟩⟩
          · rcases List.mem_cons.mp y with y | y
            · have := (nI_eq (by omega) (by omega)).mp y
              omega
            · obtain ⟨k, k1, k2, k3⟩ := q3 _ y
              have := (nI_eq (by omega) (by omega)).mp k1
              omega
          · obtain ⟨k, k1, k2, k3⟩ := q3 _ y
            have := (nI_eq (by omega) (by omega)).mp k1
            omega
        · rw [r2] at hlm
          have hc : l = nI l0 ∨ l = nI (l0 + 1) ∨ l ∈ A ++ B := by
            simp only [List.mem_append, List.mem_cons, List.mem_nil_iff, or_false] at hlm ⊢
            rcases hlm with y | y | y | y
            · exact Or.inr (Or.inr (Or.inl y))
            · exact Or.inl y
            · exact Or.inr (Or.inr (Or.inr y))
            · exact Or.inr (Or.inl y)
          rcases hc with y | y | y
          · exact ⟨l0, y, by omega, by omega⟩
          · exact ⟨l0 + 1, y, by omega, by omega⟩
          · obtain ⟨k, k1, k2, k3⟩ := q3 _ y
            exact ⟨k, k1, by omega, k3⟩
      · have hn41 : mA m 66 i ≠ 41 := fun y => hk (Or.inl y)
        have hn19 : mA m 66 i ≠ 19 := fun y => hk (Or.inr y)
        have hlb : lb (mA m 66 i) = 0 := by unfold lb; rw [if_neg hn41, if_neg hn19]
        rw [hlb] at hl
        unfold LB
        rw [c1 hn41 hn19]
        exact hl
