/-! how long the code of a tree is; where its labels are -/
def SZ (hd : EN → Bool) (L : Nat) (lo P : Int32 → Nat) (k : Nat) (l : List EN) : Prop := (ebs hd L lo P l).length ≤ 3 * l.length + k
theorem SZ.sp {hd : EN → Bool} {L : Nat} {lo P : Int32 → Nat} (hs : ∀ e : EN, e.1 ∈ spC → hd e = false) : ∀ {l : List EN}, (∀ e, e ∈ l → e.1 ∈ spC) → SZ hd L lo P 0 l
  | [], _ => Nat.le_refl _
  | e :: l, h => by
      have h1 := h e (by simp)
      have := SZ.sp (L := L) (lo := lo) (P := P) hs (l := l) (fun x hx => h x (by simp [hx]))
      have h2 := (eb_le (hd := hd) (L := L) (lo := lo) (P := P) e).2 (hs e h1) (fun y => by rw [y] at h1; exact absurd h1 (by decide))
      unfold SZ at this ⊢
      rw [ebs_cons, List.length_append, List.length_cons]
      omega
theorem SZ.one {hd : EN → Bool} {L : Nat} {lo P : Int32 → Nat} (e : EN) : SZ hd L lo P 5 [e] := by
  have := (eb_le (hd := hd) (L := L) (lo := lo) (P := P) e).1
  unfold SZ
  rw [ebs_one]
  simp
  omega
theorem row_sz {hd : EN → Bool} {L : Nat} {lo P : Int32 → Nat} (hs : ∀ e : EN, e.1 ∈ spC → hd e = false) : ∀ r : List (List EN), (ebs hd L lo P (r.flatMap dr)).length ≤ (ebs hd L lo P r.flatten).length + 3 * r.length ∧ (r.flatMap dr).length = r.flatten.length + r.length
  | [] => ⟨Nat.le_refl _, rfl⟩
  | e :: r => by
      obtain ⟨h1, h2⟩ := row_sz (L := L) (lo := lo) (P := P) hs r
      have h3 : SZ hd L lo P 0 [((16 : Int32), (0 : Int32), (0 : Int32))] := SZ.sp hs (fun e he => by rw [List.mem_singleton.mp he]; decide)
      unfold SZ at h3
      rw [ebs_one] at h3
      have ed : dr e = [((16 : Int32), (0 : Int32), (0 : Int32))] ++ e := rfl
      rw [List.flatMap_cons, List.flatten_cons, ed, ebs_app, ebs_app, ebs_app, ebs_one]
      simp only [List.length_append, List.length_cons, List.length_nil] at h3 ⊢
      omega
theorem ln2 {l : List (List EN)} (h : l.length = 2) : ∃ a b, l = [a, b] := by
  cases l with
  | nil => exact absurd h (by simp)
  | cons a l => cases l with
    | nil => exact absurd h (by simp)
    | cons b l => cases l with
      | nil => exact ⟨a, b, rfl⟩
      | cons d l => exact absurd h (by simp)
theorem ln3 {l : List (List EN)} (h : l.length = 3) : ∃ a b d, l = [a, b, d] := by
  cases l with
  | nil => exact absurd h (by simp)
  | cons a l => cases l with
    | nil => exact absurd h (by simp)
    | cons b l => cases l with
      | nil => exact absurd h (by simp)
      | cons d l => cases l with
        | nil => exact ⟨a, b, d, rfl⟩
        | cons e l => exact absurd h (by simp)
theorem sz_cmb {m : md_S} {i l0 : Nat} {ess : List (List EN)} {hd : EN → Bool} {L : Nat} {lo P : Int32 → Nat} (hs : ∀ e : EN, e.1 ∈ spC → hd e = false) (hw : WFN m i ess.length) {k : Nat} (h : SZ hd L lo P k ess.flatten) : SZ hd L lo P (k + 5) (cmb m i l0 ess) := by
  have hj := hw.kj
  have sp : ∀ l : List EN, (∀ e, e ∈ l → e.1 ∈ spC) → SZ hd L lo P 0 l := fun l hl => SZ.sp hs hl
  have s3 : ∀ x, SZ hd L lo P 0 [((3 : Int32), x, (0 : Int32))] := fun x => sp _ (fun e he => by rw [List.mem_singleton.mp he]; show (3 : Int32) ∈ spC; decide)
  by_cases h40 : mA m 66 i = 40
  · have h2 := hj.1 h40
    obtain ⟨e0, e1, rfl⟩ : ∃ e0 e1, ess = [e0, e1] := ln2 h2
    have hc : cmb m i l0 [e0, e1] = e0 ++ ([(3, kv m (aN m 68 i), 0)] ++ e1) := by
      unfold cmb; rw [if_pos h40]; simp
    have a1 := s3 (kv m (aN m 68 i))
    unfold SZ at h a1 ⊢
    rw [hc]
    simp only [ebs_app, List.flatten_cons, List.flatten_nil, List.append_nil, List.length_append, List.length_cons, List.length_nil] at h a1 ⊢
    omega
  · by_cases h41 : mA m 66 i = 41
    · have h2 := hj.2.2.1 h41
      obtain ⟨e0, e1, e2, rfl⟩ : ∃ e0 e1 e2, ess = [e0, e1, e2] := ln3 h2
      have hc : cmb m i l0 [e0, e1, e2] = e0 ++ ([(18, nI l0, 0)] ++ (e1 ++ ([(17, nI (l0 + 1), 0), (100, nI l0, 0)] ++ (e2 ++ [(100, nI (l0 + 1), 0)])))) := by
        unfold cmb; rw [if_neg h40, if_pos h41]; simp
      have a1 := sp [(18, nI l0, 0)] (fun e he => by rw [List.mem_singleton.mp he]; show (18 : Int32) ∈ spC; decide)
      have a2 := sp [(17, nI (l0 + 1), 0), (100, nI l0, 0)] (fun e he => by
        simp only [List.mem_cons, List.mem_nil_iff, or_false] at he
        rcases he with rfl | rfl
        · show (17 : Int32) ∈ spC; decide
        · show (100 : Int32) ∈ spC; decide)
      have a3 := sp [(100, nI (l0 + 1), 0)] (fun e he => by rw [List.mem_singleton.mp he]; show (100 : Int32) ∈ spC; decide)
      unfold SZ at h a1 a2 a3 ⊢
      rw [hc]
      simp only [ebs_app, List.flatten_cons, List.flatten_nil, List.append_nil, List.length_append, List.length_cons, List.length_nil] at h a1 a2 a3 ⊢
      omega
    · by_cases h19 : mA m 66 i = 19
      · have h2 := hj.2.1 h19
        obtain ⟨e0, e1, rfl⟩ : ∃ e0 e1, ess = [e0, e1] := ln2 h2
        have hc : cmb m i l0 [e0, e1] = [(19, nI l0, 0)] ++ (e0 ++ ([(20, 0, 0), (17, nI (l0 + 1), 0), (100, nI l0, 0), (3, kv m (aN m 68 i), 0)] ++ (e1 ++ [(100, nI (l0 + 1), 0)]))) := by
          unfold cmb; rw [if_neg h40, if_neg h41, if_pos h19]; simp
        have a1 := sp [(19, nI l0, 0)] (fun e he => by rw [List.mem_singleton.mp he]; show (19 : Int32) ∈ spC; decide)
        have a2 := sp [(20, 0, 0), (17, nI (l0 + 1), 0), (100, nI l0, 0), (3, kv m (aN m 68 i), 0)] (fun e he => by
          simp only [List.mem_cons, List.mem_nil_iff, or_false] at he
          rcases he with rfl | rfl | rfl | rfl
          · decide
          · show (17 : Int32) ∈ spC; decide
          · show (100 : Int32) ∈ spC; decide
          · show (3 : Int32) ∈ spC; decide)
        have a3 := sp [(100, nI (l0 + 1), 0)] (fun e he => by rw [List.mem_singleton.mp he]; show (100 : Int32) ∈ spC; decide)
        unfold SZ at h a1 a2 a3 ⊢
        rw [hc]
        simp only [ebs_app, List.flatten_cons, List.flatten_nil, List.append_nil, List.length_append, List.length_cons, List.length_nil] at h a1 a2 a3 ⊢
        omega
      · by_cases h42 : mA m 66 i = 42
        · have e : cmb m i l0 ess = rowE ess := by unfold cmb; rw [if_neg h40, if_neg h41, if_neg h19, if_pos h42]
          rw [e]
          cases ess with
          | nil => unfold SZ at h ⊢; exact Nat.le_trans (Nat.zero_le _) (Nat.zero_le _)
          | cons e0 r =>
            obtain ⟨q1, q2⟩ := row_sz (L := L) (lo := lo) (P := P) hs r
            unfold SZ at h ⊢
            rw [rowE_dr, ebs_app]
            simp only [ebs_app, List.flatten_cons, List.length_append] at h ⊢
            omega
        · by_cases h2 : mA m 66 i = 2
          · have hl := hj.2.2.2.1 h2
            have e : cmb m i l0 ess = [(2, kv m (aN m 68 i), 0)] := by unfold cmb; rw [if_neg h40, if_neg h41, if_neg h19, if_neg h42, if_pos h2]
            rw [e]
            have a1 := SZ.one (hd := hd) (L := L) (lo := lo) (P := P) (2, kv m (aN m 68 i), 0)
            unfold SZ at a1 ⊢
            omega
          · by_cases h9 : mA m 66 i = 9 ∨ mA m 66 i = 10
            · have e : cmb m i l0 ess = ess.flatten ++ (gts m (aN m 68 i) ++ [(mA m 66 i, mA m 68 i, 0)]) := by unfold cmb; rw [if_neg h40, if_neg h41, if_neg h19, if_neg h42, if_neg h2, if_pos h9, List.append_assoc]
              have a1 := sp (gts m (aN m 68 i)) (fun e he => by
                unfold gts at he
                obtain ⟨x, -, rfl⟩ := List.mem_map.mp he
                show (2 : Int32) ∈ spC; decide)
              have a2 := SZ.one (hd := hd) (L := L) (lo := lo) (P := P) (mA m 66 i, mA m 68 i, 0)
              unfold SZ at h a1 a2 ⊢
              rw [e]
              simp only [ebs_app, List.length_append] at h a1 a2 ⊢
              omega
            · have e := cmb_d (l0 := l0) (ess := ess) (m := m) (i := i) (by simp only [List.mem_cons, List.mem_nil_iff, or_false, not_or]; exact ⟨h40, h41, h19, h42, h2, fun y => h9 (Or.inl y), fun y => h9 (Or.inr y)⟩)
              have a2 := SZ.one (hd := hd) (L := L) (lo := lo) (P := P) (nE m i)
              unfold SZ at h a2 ⊢
              rw [e]
              simp only [ebs_app, List.length_append] at h a2 ⊢
              omega
theorem GL.sz {hd : EN → Bool} {L : Nat} {lo P : Int32 → Nat} {G : Nat → Nat → Nat → List EN → List Nat → Prop} (hG : ∀ {x a b : Nat} {e : List EN} {nx : List Nat}, G x a b e nx → SZ hd L lo P (5 * nx.length) e) : ∀ {ch : List Nat} {l0 l1 : Nat} {ess : List (List EN)} {ns : List Nat}, GL G ch l0 l1 ess ns → SZ hd L lo P (5 * ns.length) ess.flatten
  | [], l0, l1, _, _, ⟨_, h2, _⟩ => by rw [h2]; exact Nat.zero_le _
  | x :: xs, l0, l1, ess, ns, ⟨la, es, rest, n1, n2, h1, h2, h3, h4⟩ => by
      have a1 := hG h1
      have a2 := GL.sz hG h2
      unfold SZ at a1 a2 ⊢
      rw [h3, h4, List.flatten_cons, ebs_app, List.length_append, List.length_append, List.length_append]
      omega
theorem Gen.sz {hd : EN → Bool} {L : Nat} {lo P : Int32 → Nat} {m : md_S} {u : Nat} (hs : ∀ e : EN, e.1 ∈ spC → hd e = false) : ∀ {f : Nat} {i l0 l1 : Nat} {es : List EN} {ns : List Nat}, Gen m u f i l0 l1 es ns → SZ hd L lo P (5 * ns.length) es
  | 0, _, _, _, _, _, h => h.elim
  | f + 1, i, l0, l1, es, ns, ⟨h1, h2, ch, ess, n1, h3, h4, h5, h6, h7⟩ => by
      have hl : SZ hd L lo P (5 * n1.length) ess.flatten := h4.sz (fun h => Gen.sz hs h)
      have hw : WFN m i ess.length := by rw [h4.len]; exact h7
      have := sz_cmb (l0 := l0) hs hw hl
      rw [h5]
      unfold SZ at this ⊢
      rw [h6, List.length_cons, List.length_append]
      omega
/-- where label l is -/
def plF (hd : EN → Bool) (L : Nat) (lo : Int32 → Nat) : Nat → List EN → Int32 → Nat
  | _, [], _ => 0
  | off, e :: r, l => if e.1 = 100 ∧ e.2.1 = l then off else plF hd L lo (off + (eb hd L lo (fun _ => 0) e).length) r l
theorem plF_at {hd : EN → Bool} {L : Nat} {lo P : Int32 → Nat} : ∀ (a : List EN) (off : Nat) (b : List EN) (l z : Int32), l ∉ lbs a → plF hd L lo off (a ++ (100, l, z) :: b) l = off + (ebs hd L lo P a).length
  | [], off, b, l, z, _ => by
      show (if (100 : Int32) = 100 ∧ l = l then off else _) = _
      rw [if_pos ⟨rfl, rfl⟩]; rfl
  | e :: a, off, b, l, z, h => by
      show (if e.1 = 100 ∧ e.2.1 = l then off else plF hd L lo (off + (eb hd L lo (fun _ => 0) e).length) (a ++ (100, l, z) :: b) l) = _
      have hne : ¬ (e.1 = 100 ∧ e.2.1 = l) := by
        rintro ⟨h1, h2⟩
        apply h
        have : e = (100, l, e.2.2) := by rw [← h1, ← h2]
        rw [this, lbs_lab]
        simp
      have hna : l ∉ lbs a := fun y => h (by
        by_cases h1 : e.1 = 100
        · have : e = (100, e.2.1, e.2.2) := by rw [← h1]
          rw [this, lbs_lab]
          simp [y]
        · rw [lbs_no h1]; exact y)
      rw [if_neg hne, plF_at (P := P) a _ b l z hna, ebs_cons, List.length_append, eb_lenP (P := P) (P2 := fun _ => 0) e]
      omega
theorem plF_LR {hd : EN → Bool} {L off : Nat} {lo P : Int32 → Nat} {es r : List EN} (h : (lbs (es ++ r)).Nodup) : LR (ebs hd L lo P) (plF hd L lo off (es ++ r)) off es := by
  intro a b l z he
  have hna : l ∉ lbs a := by
    rw [he, List.append_assoc, lbs_app] at h
    intro y
    refine (List.nodup_append.mp h).2.2 l y l ?_ rfl
    rw [List.cons_append, lbs_lab]
    simp
  rw [he, List.append_assoc, List.cons_append]
  exact plF_at a off (b ++ r) l z hna
