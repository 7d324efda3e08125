/-! rows that grow, and what is left of the room -/
def rc0 (r : Nat) : Nat := if r = 0 then 192 else if r = 1 then 64 else if r = 2 then 16 else if r = 3 then 32 else if r = 4 then 16 else if r = 5 then 48 else if r = 6 then 32 else if r = 7 then 64 else if r = 8 then 80 else if r < 17 then 32 else if (r - 17) % 3 = 0 then 24 else 16
def rck (r : Nat) : Nat := if r = 0 then 5 else if r = 1 then 6 else if r = 2 then 8 else if r = 3 then 11 else if r = 4 then 8 else if r = 5 then 8 else if r = 6 then 7 else if r = 7 then 10 else if r = 8 then 4 else if r < 17 then 10 else if (r - 17) % 3 = 0 then 9 else 10
def rcap (r : Nat) : Nat := rc0 r * 2 ^ rck r
def rsum (f : Nat → Nat) : Nat → Nat
  | 0 => 0
  | k + 1 => rsum f k + f k
theorem rsum_ext {f g : Nat → Nat} : ∀ {N : Nat}, (∀ i, i < N → f i = g i) → rsum f N = rsum g N
  | 0, _ => rfl
  | k + 1, h => by
    show rsum f k + f k = rsum g k + g k
    rw [rsum_ext (fun i hi => h i (Nat.lt_succ_of_lt hi)), h k (Nat.lt_succ_self k)]
theorem rsum_le {f g : Nat → Nat} : ∀ {N : Nat}, (∀ i, i < N → f i ≤ g i) → rsum f N ≤ rsum g N
  | 0, _ => Nat.le_refl _
  | k + 1, h => Nat.add_le_add (rsum_le (fun i hi => h i (Nat.lt_succ_of_lt hi))) (h k (Nat.lt_succ_self k))
theorem rsum_upd {f g : Nat → Nat} {r : Nat} (hg : ∀ i, i ≠ r → g i = f i) : ∀ {N : Nat}, r < N → rsum g N + f r = rsum f N + g r
  | 0, h => absurd h (Nat.not_lt_zero _)
  | k + 1, h => by
    show rsum g k + g k + f r = rsum f k + f k + g r
    by_cases hk : r = k
    · subst hk
      rw [rsum_ext (f := g) (g := f) (fun i hi => hg i (Nat.ne_of_lt hi))]
      omega
    · have := rsum_upd hg (N := k) (by omega)
      have := hg k (fun e => hk e.symm)
      omega
theorem rc0_pos (r : Nat) : 16 ≤ rc0 r := by
  unfold rc0
  repeat' split
  all_goals omega
theorem rc0_le (r : Nat) : rc0 r ≤ 192 := by
  unfold rc0
  repeat' split
  all_goals omega
theorem rck_le (r : Nat) : rck r ≤ 11 := by
  unfold rck
  repeat' split
  all_goals omega
theorem rpw {i k : Nat} (h : i ≤ k) : 2 ^ i ≤ 2 ^ k := Nat.pow_le_pow_right (by decide) h
theorem rcap_le (r : Nat) : rcap r ≤ 393216 := by
  unfold rcap
  calc rc0 r * 2 ^ rck r ≤ 192 * 2 ^ 11 := Nat.mul_le_mul (rc0_le r) (rpw (rck_le r))
    _ = 393216 := by decide
/-- how many cells of a row are in use -/
def rsz (s : cd_S) (r : Nat) : Nat := (cI s 193 r).toNatClampNeg
def RowOk (s : cd_S) (r : Nat) : Prop := cI s 193 r = nI (rsz s r) ∧ rsz s r ≤ cRC s r ∧ ∃ i, i ≤ rck r ∧ cRC s r = rc0 r * 2 ^ i
theorem RowOk.cap {s : cd_S} {r : Nat} (h : RowOk s r) : cRC s r ≤ rcap r := by
  obtain ⟨-, -, i, hi, e⟩ := h
  rw [e]
  exact Nat.mul_le_mul (Nat.le_refl _) (rpw hi)
theorem RowOk.lt {s : cd_S} {r : Nat} (h : RowOk s r) : cRC s r < 2 ^ 31 := by
  have := h.cap; have := rcap_le r; omega
theorem RowOk.szlt {s : cd_S} {r : Nat} (h : RowOk s r) : rsz s r < 1000000 := by
  have := h.cap; have := rcap_le r; have := h.2.1; omega
theorem RowOk.of {s t : cd_S} {r : Nat} (h : RowOk s r) (h1 : cI t 193 r = cI s 193 r) (h2 : cRC t r = cRC s r) : RowOk t r := by
  have hz : rsz t r = rsz s r := by unfold rsz; rw [h1]
  unfold RowOk
  rw [h1, h2, hz]
  exact h
/-- the room: what is left, by what the rows have -/
def Bd (C : Nat × Nat) (s : cd_S) (b : cd_B) : Prop := (∀ r, r < 197 → RowOk s r) ∧ C.1 ≤ b.1 + rsum (fun r => Nat.log2 (cRC s r)) 197 ∧ C.2 ≤ b.2 + 2 * rsum (cRC s) 197
def CC : Nat := 2 * rsum rcap 197
def BC (C : Nat × Nat) : Prop := 10000 ≤ C.1 ∧ CC + 1000 ≤ C.2
theorem Bd.of {C : Nat × Nat} {s t : cd_S} {b : cd_B} (h : Bd C s b) (h1 : ∀ r, r < 197 → cI t 193 r = cI s 193 r) (h2 : ∀ r, r < 197 → cRC t r = cRC s r) : Bd C t b := by
  obtain ⟨a1, a2, a3⟩ := h
  refine ⟨fun r hr => (a1 r hr).of (h1 r hr) (h2 r hr), ?_, ?_⟩
  · rw [rsum_ext (f := fun r => Nat.log2 (cRC t r)) (g := fun r => Nat.log2 (cRC s r)) (fun i hi => by rw [h2 i hi])]; exact a2
  · rw [rsum_ext (f := cRC t) (g := cRC s) (fun i hi => h2 i hi)]; exact a3
theorem Bd.mono {C D : Nat × Nat} {s : cd_S} {b : cd_B} (h : Bd C s b) (h1 : D.1 ≤ C.1) (h2 : D.2 ≤ C.2) : Bd D s b := ⟨h.1, Nat.le_trans h1 h.2.1, Nat.le_trans h2 h.2.2⟩
theorem log2_dbl {a : Nat} (h : 1 ≤ a) : Nat.log2 (2 * a) = Nat.log2 a + 1 := by
  rw [Nat.log2_def (2 * a), if_pos (by omega), Nat.mul_div_cancel_left _ (by decide : 0 < 2)]
theorem log2_row {s : cd_S} {r : Nat} (h : RowOk s r) : Nat.log2 (cRC s r) ≤ 19 := by
  have h1 := h.cap; have h2 := rcap_le r
  obtain ⟨-, -, i, hi, e⟩ := h
  have h3 : cRC s r ≠ 0 := by
    rw [e]; have := rc0_pos r; have : 0 < 2 ^ i := Nat.two_pow_pos i
    exact Nat.mul_ne_zero (by omega) (by omega)
  have : Nat.log2 (cRC s r) < 20 := (Nat.log2_lt h3).mpr (by omega)
  omega
/-- a row with one cell more -/
def rAdd (s : cd_S) (r : Nat) (v : Int64) : cd_S :=
  cSI (cSF (if rsz s r < cRC s r then s else cSG s r (2 * rsz s r) (fun j => if j < cRC s r then cRF s r j else 0)) r (rsz s r) v) 193 r (nI (rsz s r + 1))
theorem rAdd_I (s : cd_S) (r : Nat) (v : Int64) (f i : Nat) : cI (rAdd s r v) f i = if f = 193 ∧ i = r then nI (rsz s r + 1) else cI s f i := by
  unfold rAdd
  rw [cI_SI, cI_SF]
  split
  · rfl
  · split <;> rfl
theorem rAdd_Io {s : cd_S} {r : Nat} {v : Int64} {f i : Nat} (h : f ≠ 193) : cI (rAdd s r v) f i = cI s f i := by rw [rAdd_I, if_neg (fun q => h q.1)]
theorem rAdd_J (s : cd_S) (r : Nat) (v : Int64) (f i : Nat) : cJ (rAdd s r v) f i = cJ s f i := by
  unfold rAdd
  rw [cJ_SI, cJ_SF]
  split <;> rfl
theorem rAdd_A (s : cd_S) (r : Nat) (v : Int64) (f i x : Nat) : cAr (rAdd s r v) f i x = cAr s f i x := by
  unfold rAdd
  rw [cA_SI, cA_SF]
  split <;> rfl
theorem rAdd_L (s : cd_S) (r : Nat) (v : Int64) (f i x : Nat) : cLr (rAdd s r v) f i x = cLr s f i x := by
  unfold rAdd
  rw [cL_SI, cL_SF]
  split <;> rfl
theorem rAdd_P (s : cd_S) (r : Nat) (v : Int64) (f i : Nat) : cP (rAdd s r v) f i = cP s f i := by
  unfold rAdd
  rw [cP_SI, cP_SF]
  split <;> rfl
theorem rAdd_C (s : cd_S) (r : Nat) (v : Int64) (i : Nat) : cRC (rAdd s r v) i = if i = r then (if rsz s r < cRC s r then cRC s r else 2 * rsz s r) else cRC s i := by
  unfold rAdd
  rw [cC_SI, cC_SF]
  by_cases h : rsz s r < cRC s r
  · rw [if_pos h, if_pos h]; split
    · rename_i q; rw [q]
    · rfl
  · rw [if_neg h, if_neg h, cC_SG]
theorem rAdd_Fo {s : cd_S} {r : Nat} {v : Int64} {i : Nat} (h : i ≠ r) (j : Nat) : cRF (rAdd s r v) i j = cRF s i j := by
  unfold rAdd
  rw [cF_SI, cF_SF, if_neg h]
  split
  · rfl
  · rw [cF_SG, if_neg h]
theorem rAdd_Fe (s : cd_S) (r : Nat) (v : Int64) : cRF (rAdd s r v) r (rsz s r) = v := by
  unfold rAdd
  rw [cF_SI, cF_SF, if_pos rfl, if_pos rfl]
theorem rAdd_Fl {s : cd_S} {r : Nat} {v : Int64} (h : rsz s r ≤ cRC s r) {j : Nat} (hj : j < rsz s r) : cRF (rAdd s r v) r j = cRF s r j := by
  unfold rAdd
  rw [cF_SI, cF_SF, if_pos rfl, if_neg (by omega)]
  split
  · rfl
  · rw [cF_SG, if_pos rfl, if_pos (by omega)]
theorem rAdd_sz {s : cd_S} {r : Nat} {v : Int64} (h : rsz s r < 1000000) : rsz (rAdd s r v) r = rsz s r + 1 := by
  show (cI (rAdd s r v) 193 r).toNatClampNeg = _
  rw [rAdd_I, if_pos ⟨rfl, rfl⟩, nI_clamp (by omega)]
theorem rAdd_szo {s : cd_S} {r : Nat} {v : Int64} {i : Nat} (h : i ≠ r) : rsz (rAdd s r v) i = rsz s i := by
  show (cI (rAdd s r v) 193 i).toNatClampNeg = _
  rw [rAdd_I, if_neg (fun e => h e.2)]; rfl
theorem rAdd_ok {s : cd_S} {r : Nat} {v : Int64} (h : RowOk s r) (hz : rsz s r < rcap r) : RowOk (rAdd s r v) r := by
  have hs := h.szlt
  obtain ⟨h1, h2, i, hi, e⟩ := h
  refine ⟨by rw [rAdd_I, if_pos ⟨rfl, rfl⟩, rAdd_sz hs], ?_, ?_⟩
  · rw [rAdd_sz hs, rAdd_C, if_pos rfl]
    have := rc0_pos r
    have : 0 < 2 ^ i := Nat.two_pow_pos i
    have h16 : 16 ≤ cRC s r := by rw [e]; exact Nat.le_trans (rc0_pos r) (Nat.le_mul_of_pos_right _ (by omega))
    split <;> omega
  · rw [rAdd_C, if_pos rfl]
    split
    · exact ⟨i, hi, e⟩
    · rename_i q
      refine ⟨i + 1, ?_, ?_⟩
      · have hlt : rc0 r * 2 ^ i < rc0 r * 2 ^ rck r := by
          have : rsz s r = rc0 r * 2 ^ i := by omega
          rw [← this]; exact hz
        have h3 : 2 ^ i < 2 ^ rck r := Nat.lt_of_mul_lt_mul_left hlt
        exact (Nat.pow_lt_pow_iff_right (by decide)).mp h3
      · rw [Nat.pow_succ, ← Nat.mul_assoc, ← e]; omega
theorem rAdd_oko {s : cd_S} {r i : Nat} {v : Int64} (h : RowOk s i) (hi : i ≠ r) : RowOk (rAdd s r v) i :=
  h.of (by rw [rAdd_I, if_neg (fun q => hi q.2)]) (by rw [rAdd_C, if_neg hi])
/-- Row.add -/
theorem c_add {n : Nat} {C : Nat × Nat} {s : cd_S} {b : cd_B} {r : Nat} {v : Int64} (hC : BC C) (h : Bd C s b) (hr : r < 197) (hz : rsz s r < rcap r) : ∃ b', f_X6_add n s b r v = some (0, rAdd s r v, b') ∧ Bd C (rAdd s r v) b' ∧ b'.1 ≤ b.1 ∧ b'.2 ≤ b.2 := by
  have hro := h.1 r hr
  have hsz := hro.szlt
  have hlt := hro.lt
  obtain ⟨e1, e2, -⟩ := h.1 r hr
  have hj : ∀ (t : cd_S) (b1 : cd_B), cI t 193 r = cI s 193 r → rsz s r < cRC t r → cRC t r < 2 ^ 31 → f_X6_add_J39 n r t b1 v = some (0, cSI (cSF t r (rsz s r) v) 193 r (nI (rsz s r + 1)), b1) := by
    intro t b1 q1 q2 q3
    unfold f_X6_add_J39
    rw [q1, e1, c_stF q2 q3, bs_some, bs_some, cI_SF, q1, e1, nI_1]
  have hrows : ∀ i, i < 197 → RowOk (rAdd s r v) i := fun i hi => by
    by_cases q : i = r
    · rw [q]; exact rAdd_ok hro hz
    · exact rAdd_oko (h.1 i hi) q
  by_cases hc : rsz s r < cRC s r
  · have hs : cSI (cSF s r (rsz s r) v) 193 r (nI (rsz s r + 1)) = rAdd s r v := by unfold rAdd; rw [if_pos hc]
    have hf : f_X6_add n s b r v = some (0, rAdd s r v, b) := by
      unfold f_X6_add
      refine c_ck ?_ (Nat.le_refl _) (Nat.le_refl _)
      rw [e1, if_pos (show nI (rsz s r) < (1048576 : Int32) from (nI_ltI (b := 1048576) (by omega) (by decide)).mpr (by omega)), if_pos (show nI (rsz s r) < Int32.ofNat (cRC s r) from (nI_ltI (by omega) hlt).mpr hc), hj s b rfl hc hlt, hs]
    have hC0 : ∀ i, (if i = r then (if rsz s r < cRC s r then cRC s r else 2 * rsz s r) else cRC s i) = cRC s i := fun i => by
      by_cases q : i = r
      · rw [if_pos q, if_pos hc, q]
      · rw [if_neg q]
    refine ⟨b, hf, ⟨hrows, ?_, ?_⟩, Nat.le_refl _, Nat.le_refl _⟩
    · rw [rsum_ext (f := fun r_1 => Nat.log2 (cRC (rAdd s r v) r_1)) (g := fun r => Nat.log2 (cRC s r)) (fun i _ => by rw [rAdd_C, hC0 i])]; exact h.2.1
    · rw [rsum_ext (f := cRC (rAdd s r v)) (g := cRC s) (fun i _ => by rw [rAdd_C, hC0 i])]; exact h.2.2
  · have hcz : cRC s r = rsz s r := by omega
    obtain ⟨h1, h2, i, hi, e⟩ := hro
    have h16 : 16 ≤ cRC s r := by rw [e]; exact Nat.le_trans (rc0_pos r) (Nat.le_mul_of_pos_right _ (Nat.two_pow_pos i))
    have hok := rAdd_ok (v := v) (h.1 r hr) hz
    have hcap : 2 * rsz s r ≤ rcap r := by
      have := hok.cap
      rw [rAdd_C, if_pos rfl, if_neg hc] at this
      exact this
    have hcl := rcap_le r
    have hsum : rsum (cRC (rAdd s r v)) 197 + cRC s r = rsum (cRC s) 197 + 2 * rsz s r := by
      have := rsum_upd (f := cRC s) (g := cRC (rAdd s r v)) (r := r) (fun i hi => by rw [rAdd_C, if_neg hi]) hr
      rw [show cRC (rAdd s r v) r = 2 * rsz s r by rw [rAdd_C, if_pos rfl, if_neg hc]] at this
      exact this
    have hcaps : rsum (cRC (rAdd s r v)) 197 ≤ rsum rcap 197 := rsum_le (fun i hi => (hrows i hi).cap)
    have hlog : rsum (fun i => Nat.log2 (cRC (rAdd s r v) i)) 197 = rsum (fun i => Nat.log2 (cRC s i)) 197 + 1 := by
      have := rsum_upd (f := fun i => Nat.log2 (cRC s i)) (g := fun i => Nat.log2 (cRC (rAdd s r v) i)) (r := r) (fun i hi => by rw [rAdd_C, if_neg hi]) hr
      rw [show cRC (rAdd s r v) r = 2 * cRC s r by rw [rAdd_C, if_pos rfl, if_neg hc, hcz], log2_dbl (by omega)] at this
      omega
    have hl19 : rsum (fun i => Nat.log2 (cRC (rAdd s r v) i)) 197 ≤ rsum (fun _ => 19) 197 := rsum_le (fun i hi => log2_row (hrows i hi))
    have h3743 : rsum (fun _ => 19) 197 = 3743 := by decide +kernel
    have hb1 : 1 ≤ b.1 := by have := h.2.1; have := hC.1; omega
    have hb2 : 2 * rsz s r ≤ b.2 := by
      have h5 := h.2.2
      have h6 := hC.2
      unfold CC at h6
      omega
    have hN : nI (rsz s r) * 2 = nI (2 * rsz s r) := by rw [show (2 : Int32) = nI 2 from rfl, nI_mul, Nat.mul_comm]
    have hg : cd_grow s b r (nI (rsz s r) * 2) = some (cSG s r (2 * rsz s r) (fun j => if j < cRC s r then cRF s r j else 0), (b.1 - 1, b.2 - 2 * rsz s r)) := by
      unfold cd_grow
      rw [hN, nI_toInt (by omega), nI_clamp (by omega)]
      exact if_pos ⟨by omega, by omega, by omega, hb1, hb2⟩
    have hs : cSI (cSF (cSG s r (2 * rsz s r) (fun j => if j < cRC s r then cRF s r j else 0)) r (rsz s r) v) 193 r (nI (rsz s r + 1)) = rAdd s r v := by unfold rAdd; rw [if_neg hc]
    have hf : f_X6_add n s b r v = some (0, rAdd s r v, (b.1 - 1, b.2 - 2 * rsz s r)) := by
      unfold f_X6_add
      refine c_ck ?_ (Nat.sub_le _ _) (Nat.sub_le _ _)
      rw [e1, if_pos (show nI (rsz s r) < (1048576 : Int32) from (nI_ltI (b := 1048576) (by omega) (by decide)).mpr (by omega)), if_neg (show ¬ nI (rsz s r) < Int32.ofNat (cRC s r) from fun q => hc ((nI_ltI (by omega) hlt).mp q)), hg, bs_some]
      refine c_ck ?_ (Nat.le_refl _) (Nat.le_refl _)
      dsimp only
      rw [hj (cSG s r (2 * rsz s r) (fun j => if j < cRC s r then cRF s r j else 0)) _ rfl (by rw [cC_SG, if_pos rfl]; omega) (by rw [cC_SG, if_pos rfl]; omega), hs]
    refine ⟨_, hf, ⟨hrows, ?_, ?_⟩, Nat.sub_le _ _, Nat.sub_le _ _⟩
    · have := h.2.1; rw [hlog]; dsimp only; omega
    · have := h.2.2; dsimp only; omega
theorem c_at {n : Nat} {s : cd_S} {r i : Nat} (h : RowOk s r) (hi : i < 2 ^ 31) : f_X6_at n s r (nI i) = some (if i < rsz s r then (cRF s r i).toInt32 else 0, s) := by
  unfold f_X6_at
  rw [if_neg (show ¬ nI i < 0 from nI_nn hi), h.1]
  by_cases q : i < rsz s r
  · rw [if_neg (fun z => absurd ((nI_leI (by have := h.szlt; omega) hi).mp z) (by omega)), c_ldF (by have := h.2.1; omega) h.lt, bs_some, if_pos q]
  · rw [if_pos ((nI_leI (by have := h.szlt; omega) hi).mpr (by omega)), if_neg q]
theorem c_get {n : Nat} {s : cd_S} {r i : Nat} (h : RowOk s r) (hi : i < 2 ^ 31) : f_X6_get n s r (nI i) = some (if i < rsz s r then cRF s r i else 0, s) := by
  unfold f_X6_get f_X6_get_J21
  rw [if_neg (show ¬ nI i < 0 from nI_nn hi), h.1]
  by_cases q : i < rsz s r
  · rw [if_neg (fun z => absurd ((nI_leI (by have := h.szlt; omega) hi).mp z) (by omega)), c_ldF (by have := h.2.1; omega) h.lt, bs_some, if_pos q]
  · rw [if_pos ((nI_leI (by have := h.szlt; omega) hi).mpr (by omega)), if_neg q]
theorem c_cut0 {n : Nat} {s : cd_S} {r : Nat} (h : RowOk s r) : f_X6_cut n s r 0 = some (0, cSI s 193 r 0) := by
  unfold f_X6_cut
  rw [if_neg (by decide), h.1]
  by_cases q : rsz s r = 0
  · rw [if_pos (by rw [q]; decide), cSI_self (by rw [h.1, q]; rfl)]
  · rw [if_neg (fun z => q (by have := (nI_leI (b := 0) (by have := h.szlt; omega) (by decide)).mp z; omega)), bs_some]
theorem c_set {n : Nat} {s : cd_S} {r i : Nat} {v : Int64} (h : RowOk s r) (hi : i < rsz s r) : f_X6_set n s r (nI i) v = some (0, cSF s r i v) := by
  have := h.szlt
  unfold f_X6_set
  rw [if_neg (show ¬ nI i < 0 from nI_nn (by omega)), h.1, if_neg (fun z => absurd ((nI_leI (by omega) (by omega)).mp z) (by omega)), c_stF (by have := h.2.1; omega) h.lt, bs_some]
theorem Bd.room {C : Nat × Nat} {s : cd_S} {b : cd_B} (hC : BC C) (h : Bd C s b) : 6000 ≤ b.1 ∧ 1000 ≤ b.2 := by
  have hcaps : rsum (cRC s) 197 ≤ rsum rcap 197 := rsum_le (fun i hi => (h.1 i hi).cap)
  have hl19 : rsum (fun i => Nat.log2 (cRC s i)) 197 ≤ rsum (fun _ => 19) 197 := rsum_le (fun i hi => log2_row (h.1 i hi))
  have h3743 : rsum (fun _ => 19) 197 = 3743 := by decide +kernel
  have h1 := h.2.1
  have h2 := h.2.2
  have h3 := hC.1
  have h4 := hC.2
  unfold CC at h4
  omega
