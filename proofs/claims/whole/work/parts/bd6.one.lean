/-! one node as the model writes it, where it is no spine -/
def CW (W : Nat → List EN → Prop) : List Nat → List (List EN) → Prop
  | [], [] => True
  | x :: xs, e :: es => W x e ∧ CW W xs es
  | [], _ :: _ => False
  | _ :: _, [] => False
theorem CW.imp {W W2 : Nat → List EN → Prop} : ∀ {ch : List Nat} {ess : List (List EN)}, CW W ch ess → (∀ x e, x ∈ ch → e ∈ ess → W x e → W2 x e) → CW W2 ch ess
  | [], [], _, _ => trivial
  | x :: xs, e :: es, h, g => ⟨g x e (by simp) (by simp) h.1, CW.imp h.2 (fun y z hy hz => g y z (by simp [hy]) (by simp [hz]))⟩
  | [], _ :: _, h, _ => h.elim
  | _ :: _, [], h, _ => h.elim
theorem CW.len {W : Nat → List EN → Prop} : ∀ {ch : List Nat} {ess : List (List EN)}, CW W ch ess → ess.length = ch.length
  | [], [], _ => rfl
  | x :: xs, e :: es, h => by rw [List.length_cons, List.length_cons, CW.len h.2]
  | [], _ :: _, h => h.elim
  | _ :: _, [], h => h.elim
theorem CW.n0 {W : Nat → List EN → Prop} {ch : List Nat} {ess : List (List EN)} (h : CW W ch ess) (hl : ch.length = 0) : ch = [] ∧ ess = [] := by
  cases ch with
  | nil => cases ess with
    | nil => exact ⟨rfl, rfl⟩
    | cons e es => exact h.elim
  | cons x xs => exact absurd hl (by simp)
theorem CW.n1 {W : Nat → List EN → Prop} {ch : List Nat} {ess : List (List EN)} {k : Nat} (h : CW W ch ess) (hl : ch.length = k + 1) : ∃ x xs e es, ch = x :: xs ∧ ess = e :: es ∧ W x e ∧ CW W xs es ∧ xs.length = k := by
  cases ch with
  | nil => exact absurd hl (by simp)
  | cons x xs => cases ess with
    | nil => exact h.elim
    | cons e es => exact ⟨x, xs, e, es, rfl, rfl, h.1, h.2, by simpa using hl⟩
theorem cmb_d {m : md_S} {i l0 : Nat} {ess : List (List EN)} (h : mA m 66 i ∉ [40, 41, 19, 42, 2, 9, 10]) : cmb m i l0 ess = ess.flatten ++ [nE m i] := by
  simp only [List.mem_cons, List.mem_nil_iff, or_false, not_or] at h
  obtain ⟨h1, h2, h3, h4, h5, h6, h7⟩ := h
  unfold cmb
  rw [if_neg h1, if_neg h2, if_neg h3, if_neg h4, if_neg h5, if_neg (fun y => y.elim h6 h7)]
  rfl
theorem eb_k {m : md_S} {S : Nat → Prop} {R : Bool} {L i k : Nat} {lo P : Int32 → Nat} (h66 : mA m 66 i = nI k) (hk : k < 100) (h27 : k ≠ 27) (hn : nI k ∉ [25, 26, 27, 10, 7, 8, 23]) : eb (hdF m S R) L lo P (nE m i) = k :: ops lo P (nE m i) := by
  rw [eb_nd (e := nE m i) h66 hk h27, hd_no (e := nE m i) (by show mA m 66 i ∉ _; rw [h66]; exact hn)]
  rfl
def dr (x : List EN) : List EN := (16, 0, 0) :: x
theorem rowE_dr (e : List EN) (r : List (List EN)) : rowE (e :: r) = e ++ r.flatMap dr := rfl
theorem m_rowL {n : Nat} {rec : md_R} {m : md_S} {L bg c : Nat} {S : Nat → Prop} {R : Bool} {lo P : Int32 → Nat} (hc : c < 900) : ∀ (xs : List Nat) (ess : List (List EN)) (j : Nat) (σ : md_S) (p : Nat) (v : Int32), SB m v xs → CW (WR rec m bg (hdF m S R) L lo P) xs ess → c ∉ xs → xs.length < j → md_fr [74, 75] m σ → mI σ 75 = nI p → p + (ebs (hdF m S R) L lo P (ess.flatMap dr)).length ≤ 79000 → bg ≤ p → LR (ebs (hdF m S R) L lo P) P (p - bg) (ess.flatMap dr) → ∃ σ', f_X12_writeOne_L453 n rec (nI c) j σ v = some (σ', -1) ∧ PUTS σ σ' p (ebs (hdF m S R) L lo P (ess.flatMap dr))
  | [], ess, j, σ, p, v, hv, hW, hcx, hj, hf, h75, hp, hbg, hL => by
      obtain ⟨-, rfl⟩ := hW.n0 rfl
      obtain ⟨j, rfl⟩ : ∃ r, j = r + 1 := ⟨j - 1, by omega⟩
      have hv : v = -1 := hv
      refine ⟨σ, ?_, PUTS.nil h75⟩
      rw [u_X12_writeOne_L453, if_pos hv, hv]
  | x :: xs, ess, j, σ, p, v, hv, hW, hcx, hj, hf, h75, hp, hbg, hL => by
      obtain ⟨x', xs', e, es, hh, rfl, w1, w2, -⟩ := hW.n1 (k := xs.length) rfl
      obtain ⟨rfl, rfl⟩ := List.cons.inj hh
      obtain ⟨v1, v2, v3⟩ := hv
      obtain ⟨j, rfl⟩ : ∃ r, j = r + 1 := ⟨j - 1, by omega⟩
      have hxc : x ≠ c := fun y => hcx (by simp [y])
      have e16 : ebs (hdF m S R) L lo P [((16 : Int32), (0 : Int32), (0 : Int32))] = [16] := by rw [ebs_one]; exact eb_z (k := 16) (by decide) (by decide)
      have ef : (e :: es).flatMap dr = [((16 : Int32), (0 : Int32), (0 : Int32))] ++ e ++ es.flatMap dr := by
        rw [List.flatMap_cons]; rfl
      rw [ef] at hp hL ⊢
      have L1 := LR.sub (A := [((16 : Int32), (0 : Int32), (0 : Int32))]) (es := e) hL
      have L2 := LR.sub (A := [((16 : Int32), (0 : Int32), (0 : Int32))] ++ e) (es := es.flatMap dr) (B := []) (by simpa using hL)
      simp only [ebs_app, e16, List.length_append, List.length_cons, List.length_nil] at hp L1 L2
      obtain ⟨s1, a1, a2⟩ := m_put (n := n) (b := 16) h75 (by omega)
      have f1 : md_fr [74, 75] m s1 := md_fr_tr hf a2.1 (fun k hk => ⟨hk, hk⟩)
      obtain ⟨s2, b1, b2⟩ := w1 s1 (p + 1) f1 a2.2.1 (by omega) (by omega) (by rw [show p + 1 - bg = p - bg + (0 + 1) by omega]; exact L1)
      have f2 : md_fr [74, 75] m s2 := md_fr_tr f1 b2.1 (fun k hk => ⟨hk, hk⟩)
      obtain ⟨s3, d1, d2⟩ := m_rowL hc xs es j s2 (p + 1 + (ebs (hdF m S R) L lo P e).length) _ v3 w2 (fun y => hcx (by simp [y])) (by simp at hj; omega) f2 b2.2.1 (by omega) (by omega) (by rw [show p + 1 + (ebs (hdF m S R) L lo P e).length - bg = p - bg + (0 + 1 + (ebs (hdF m S R) L lo P e).length) by omega]; exact L2)
      refine ⟨s3, ?_, ?_⟩
      · rw [u_X12_writeOne_L453, v1, if_neg (show ¬ nI x = -1 from nI_m1 (by omega)), if_neg (fun y => hxc ((nI_eq (by omega) (by omega)).mp y)), show (16 : Int32) = nI 16 from rfl, a1, bs_some]
        unfold f_X12_writeOne_J469
        dsimp only
        rw [b1, bs_some]
        dsimp only
        rw [m_ld71 v2, bs_some, md_frA f2 (by decide)]
        exact d1
      · rw [ebs_app, ebs_app, e16]
        exact (a2.go b2 rfl).go d2 (by simp; omega)
