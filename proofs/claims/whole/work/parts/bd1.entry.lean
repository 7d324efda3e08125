/-! bytes of the entries of a script -/
def o1L : List Int32 := [0, 2, 3, 4, 5, 6, 7, 8, 9, 10, 17, 18, 19, 25, 26]
def opd (lo P : Int32 → Nat) (e : EN) : Nat := if e.1 = 2 ∨ e.1 = 3 then lo e.2.1 else if e.1 = 17 ∨ e.1 = 18 ∨ e.1 = 19 then P e.2.1 else oN e.2.1
def hB (h : Bool) (L k : Nat) : List Nat := if h = true then 2 :: (pr L ++ [k + 64]) else [k]
def ops (lo P : Int32 → Nat) (e : EN) : List Nat := (if e.1 ∈ o1L then pr (opd lo P e) else []) ++ (if e.1 = 7 then pr (oN e.2.2) else [])
/-- hd: what works on the context, L: locals, lo: where variables are, P: where labels are -/
def eb (hd : EN → Bool) (L : Nat) (lo P : Int32 → Nat) (e : EN) : List Nat :=
  if e.1 = 100 then [] else if e.1 = 27 ∧ hd e = true then 2 :: pr L else hB (hd e) L (oN e.1) ++ ops lo P e
def ebs (hd : EN → Bool) (L : Nat) (lo P : Int32 → Nat) (E : List EN) : List Nat := E.flatMap (eb hd L lo P)
theorem ebs_nil {hd : EN → Bool} {L : Nat} {lo P : Int32 → Nat} : ebs hd L lo P [] = [] := rfl
theorem ebs_app {hd : EN → Bool} {L : Nat} {lo P : Int32 → Nat} (a b : List EN) : ebs hd L lo P (a ++ b) = ebs hd L lo P a ++ ebs hd L lo P b := List.flatMap_append
theorem ebs_one {hd : EN → Bool} {L : Nat} {lo P : Int32 → Nat} (e : EN) : ebs hd L lo P [e] = eb hd L lo P e := by simp [ebs]
theorem ebs_cons {hd : EN → Bool} {L : Nat} {lo P : Int32 → Nat} (e : EN) (b : List EN) : ebs hd L lo P (e :: b) = eb hd L lo P e ++ ebs hd L lo P b := rfl
theorem eb_lenP {hd : EN → Bool} {L : Nat} {lo P P2 : Int32 → Nat} (e : EN) : (eb hd L lo P e).length = (eb hd L lo P2 e).length := by
  unfold eb
  by_cases h1 : e.1 = 100
  · rw [if_pos h1, if_pos h1]
  · rw [if_neg h1, if_neg h1]
    by_cases h2 : e.1 = 27 ∧ hd e = true
    · rw [if_pos h2, if_pos h2]
    · rw [if_neg h2, if_neg h2, List.length_append, List.length_append]
      congr 1
      unfold ops
      rw [List.length_append, List.length_append]
      congr 1
      split <;> rfl
theorem ebs_lenP {hd : EN → Bool} {L : Nat} {lo P P2 : Int32 → Nat} : ∀ E : List EN, (ebs hd L lo P E).length = (ebs hd L lo P2 E).length
  | [] => rfl
  | e :: E => by rw [ebs_cons, ebs_cons, List.length_append, List.length_append, eb_lenP (P2 := P2), ebs_lenP E]
theorem eb_le {hd : EN → Bool} {L : Nat} {lo P : Int32 → Nat} (e : EN) : (eb hd L lo P e).length ≤ 8 ∧ (hd e = false → e.1 ≠ 7 → (eb hd L lo P e).length ≤ 3) := by
  have ho : (ops lo P e).length ≤ 4 ∧ (e.1 ≠ 7 → (ops lo P e).length ≤ 2) := by
    unfold ops
    rw [List.length_append]
    refine ⟨?_, fun h7 => ?_⟩
    · split <;> split <;> simp [pr]
    · rw [if_neg h7]; split <;> simp [pr]
  unfold eb
  by_cases h1 : e.1 = 100
  · rw [if_pos h1]; exact ⟨by simp, fun _ _ => by simp⟩
  · rw [if_neg h1]
    by_cases h2 : e.1 = 27 ∧ hd e = true
    · rw [if_pos h2]; exact ⟨by simp [pr], fun _ _ => by simp [pr]⟩
    · rw [if_neg h2, List.length_append]
      unfold hB
      refine ⟨?_, fun h7 h8 => ?_⟩
      · split <;> simp [pr] <;> omega
      · rw [h7]
        have := ho.2 h8
        simp
        omega
noncomputable def hdF (m : md_S) (S : Nat → Prop) (R : Bool) (e : EN) : Bool := R && @decide (HE m S e) (Classical.propDecidable _)
theorem hdF_iff {m : md_S} {S : Nat → Prop} {R : Bool} {e : EN} : hdF m S R e = true ↔ R = true ∧ HE m S e := by
  unfold hdF
  rw [Bool.and_eq_true, @decide_eq_true_iff _ (Classical.propDecidable _)]
theorem hdF_no {m : md_S} {S : Nat → Prop} {R : Bool} {e : EN} (h : ¬ HE m S e) : hdF m S R e = false := by
  cases hh : hdF m S R e
  · rfl
  · exact absurd (hdF_iff.mp hh).2 h
theorem HE.kd {m : md_S} {S : Nat → Prop} {e : EN} (h : HE m S e) : e.1 = 25 ∨ e.1 = 26 ∨ e.1 = 27 ∨ e.1 = 10 ∨ e.1 = 7 ∨ e.1 = 8 ∨ e.1 = 23 := by
  rcases h with h | h | h | ⟨h, -⟩ | ⟨v, -, (⟨h, -⟩ | ⟨h, -⟩ | ⟨h, -⟩), -⟩ <;> simp [h]
/-- the model at code of unit u -/
def WX (n : Nat) (m : md_S) (u U L bg : Nat) (S : Nat → Prop) (R : Bool) (lo : Int32 → Nat) : Prop :=
  MS m U ∧ u < U ∧ mI m 79 = nI u ∧ (mI m 78 = if R = true then 1 else 0) ∧ mA m 76 (2 * u + if R = true then 1 else 0) = nI bg ∧ (∀ v, v < U → (nM m v ↔ S v)) ∧ L < 2000 ∧ (∀ σ, md_fr [74, 75] m σ → f_X12_localsOf n σ (nI u) = some (nI L, σ)) ∧ (∀ v, v < mN m 50 → OC m u v → lo (kv m v) < 2000 ∧ ∀ σ, md_fr [74, 75] m σ → f_X12_localOf n σ (nI u) (nI v) = some (nI (lo (kv m v)), σ)) ∧ mN m 50 ≤ 500 ∧ mN m 58 ≤ 400 ∧ mN m 48 ≤ 24 ∧ 100 ≤ n ∧ ∀ q, q < U → mA m 44 q = nI (aN m 44 q) ∧ ∀ x, x < aN m 44 q → mA m 45 (16 * q + x) = nI (aN m 45 (16 * q + x))
theorem m_cb {n : Nat} {m σ : md_S} {u U L bg : Nat} {S : Nat → Prop} {R : Bool} {lo : Int32 → Nat} (h : WX n m u U L bg S R lo) (hf : md_fr [74, 75] m σ) : f_X12_codeBegin n σ = some (nI bg, σ) := by
  obtain ⟨h1, h2, h3, h4, h5, -⟩ := h
  have hU := h1.2.1
  have e79 : mI σ 79 = nI u := (md_frI hf (by decide)).trans h3
  unfold f_X12_codeBegin f_X12_codeBegin_J22
  rw [md_frI hf (by decide), h4, e79, show (2 : Int32) = nI 2 from rfl, nI_mul]
  cases R
  · have h5 : mA m 76 (2 * u + 0) = nI bg := h5
    rw [if_pos (show (if false = true then (1 : Int32) else 0) = 0 by decide), show (0 : Int32) = nI 0 from rfl, nI_add, m_ld76 (by omega), bs_some, md_frA hf (by decide), h5]
  · have h5 : mA m 76 (2 * u + 1) = nI bg := h5
    rw [if_neg (show ¬ (if true = true then (1 : Int32) else 0) = 0 by decide), show (1 : Int32) = nI 1 from rfl, nI_add, m_ld76 (by omega), bs_some, md_frA hf (by decide), h5]
theorem m_begins {n : Nat} {m σ : md_S} {u U L bg p k : Nat} {S : Nat → Prop} {R : Bool} {lo : Int32 → Nat} {x : Int32} {P : Prop} {h : Bool} (hw : WX n m u U L bg S R lo) (hf : md_fr [74, 75] m σ) (h75 : mI σ 75 = nI p) (hp : p + 5 < 80000) (hx : bI P x) (hh : h = true ↔ R = true ∧ P) : ∃ σ', f_X12_begins n σ (nI k) x = some (0, σ') ∧ PUTS σ σ' p (hB h L k) := by
  obtain ⟨h1, h2, h3, h4, h5, h6, h7, h8, h9⟩ := hw
  have e79 : mI σ 79 = nI u := (md_frI hf (by decide)).trans h3
  have e78 : mI σ 78 = if R = true then 1 else 0 := (md_frI hf (by decide)).trans h4
  obtain ⟨s1, q1, q2⟩ := m_put (n := n) (b := k) h75 (by omega)
  have no : h = false → ∃ σ', f_X12_begins_J35 n σ (nI k) = some (0, σ') ∧ PUTS σ σ' p (hB h L k) := by
    intro hz
    refine ⟨s1, ?_, ?_⟩
    · unfold f_X12_begins_J35
      rw [q1, bs_some]
    · unfold hB
      rw [hz, if_neg (by decide)]; exact q2
  unfold f_X12_begins
  rw [e78]
  cases hR : R
  · rw [if_pos (show (if false = true then (1 : Int32) else 0) = 0 by decide)]
    refine no ?_
    cases hz : h
    · rfl
    · exact absurd (hh.mp hz).1 (by rw [hR]; decide)
  · rw [if_neg (show ¬ (if true = true then (1 : Int32) else 0) = 0 by decide)]
    rcases hx with ⟨rfl, hP⟩ | ⟨rfl, hP⟩
    · rw [if_neg (by decide), e79, h8 σ hf, bs_some]
      dsimp only
      obtain ⟨s2, a1, a2⟩ := m_put2 (n := n) (b := 2) (x := L) h75 (by omega) (by omega)
      obtain ⟨s3, b1, b2⟩ := m_put (n := n) (b := k + 64) a2.2.1 (by simp [pr]; omega)
      refine ⟨s3, ?_, ?_⟩
      · rw [show (2 : Int32) = nI 2 from rfl, a1, bs_some]
        dsimp only
        rw [show (64 : Int32) = nI 64 from rfl, nI_add, b1, bs_some]
      · unfold hB
        rw [if_pos (hh.mpr ⟨hR, hP⟩)]
        exact a2.tr b2
    · rw [if_pos rfl]
      refine no ?_
      cases hz : h
      · rfl
      · exact absurd (hh.mp hz).2 hP
