/-! the model: frames of a thread -/
def mv (rw : Bool) (v : Int64) : Int32 := if rw = true ∧ vS v = 4 then v.toInt32 + 1 else v.toInt32
def vln : List Int64 → Nat
  | [] => 0
  | v :: V => (if vS v = 5 then 0 else 1) + vln V
def mln : List Int64 → Nat
  | [] => 0
  | v :: V => (if vS v = 5 then 1 else 0) + mln V
def lsz : List FR → Nat
  | [] => 0
  | f :: r => lsz r + f.L.length
def vsz : List FR → Nat
  | [] => 0
  | f :: r => vsz r + vln f.W
def tsz : List FR → Nat
  | [] => 0
  | f :: r => tsz r + mln f.W
def MWk (m : md_S) (t : Nat) (rw : Bool) (k cb o q : Nat) : List Int64 → Prop
  | [] => True
  | v :: V => (if vS v = 5 then mA m 124 (1500 * t + (q + mln V)) = nI k ∧ mA m 125 (1500 * t + (q + mln V)) = nI (o + vln V) ∧ mA m 126 (1500 * t + (q + mln V)) = nI cb + v.toInt32 else mA m 121 (9000 * t + (o + vln V)) = vS v ∧ mA m 122 (9000 * t + (o + vln V)) = mv rw v) ∧ MWk m t rw k cb o q V
def MF1 (m : md_S) (t k lb cb : Nat) (rw : Bool) (f : FR) : Prop := mA m 112 (60 * t + k) = nI f.u ∧ mA m 113 (60 * t + k) = nI (cb + f.p) ∧ mA m 114 (60 * t + k) = nI lb ∧ (rw = false → mA m 115 (60 * t + k) = f.nd) ∧ mA m 116 (60 * t + k) = f.cx + 1
def MFS (m : md_S) (t : Nat) (rw : Bool) (cb : Nat → Nat) : List FR → Prop
  | [] => True
  | f :: r => MF1 m t r.length (lsz r) (cb f.u) rw f ∧ (∀ i (h : i < f.L.length), mA m 118 (12600 * t + (lsz r + i)) = vS f.L[i] ∧ mA m 119 (12600 * t + (lsz r + i)) = mv rw f.L[i]) ∧ MWk m t rw (r.length + 1) (cb f.u) (vsz r) (tsz r) f.W ∧ MFS m t rw cb r
/-- without the stack's top -/
def TMx (m : md_S) (t : Nat) (rw : Bool) (cb : Nat → Nat) (F : List FR) : Prop := mA m 111 t = nI F.length ∧ F.length ≤ 60 ∧ mA m 117 t = nI (lsz F) ∧ mA m 123 t = nI (tsz F) ∧ (lsz F ≤ 12600 ∧ vsz F ≤ 9000 ∧ tsz F ≤ 1500) ∧ MFS m t rw cb F
def TM (m : md_S) (t : Nat) (rw : Bool) (cb : Nat → Nat) (F : List FR) : Prop := TMx m t rw cb F ∧ mA m 120 t = nI (vsz F)
def tg1 : List Nat := [106, 107, 108, 109, 110, 111, 117, 120, 123]
/-- thread t is the same -/
def MAG (m m' : md_S) (t : Nat) : Prop := (∀ g, g ∈ tg1 → mA m' g t = mA m g t) ∧ (∀ g k, 112 ≤ g → g ≤ 116 → k < 60 → mA m' g (60 * t + k) = mA m g (60 * t + k)) ∧ (∀ g k, g = 118 ∨ g = 119 → k < 12600 → mA m' g (12600 * t + k) = mA m g (12600 * t + k)) ∧ (∀ g k, g = 121 ∨ g = 122 → k < 9000 → mA m' g (9000 * t + k) = mA m g (9000 * t + k)) ∧ ∀ g k, 124 ≤ g → g ≤ 126 → k < 1500 → mA m' g (1500 * t + k) = mA m g (1500 * t + k)
theorem MAG.refl (m : md_S) (t : Nat) : MAG m m t := ⟨fun _ _ => rfl, fun _ _ _ _ _ => rfl, fun _ _ _ _ => rfl, fun _ _ _ _ => rfl, fun _ _ _ _ _ => rfl⟩
theorem MAG.tr {m1 m2 m3 : md_S} {t : Nat} (h : MAG m1 m2 t) (h2 : MAG m2 m3 t) : MAG m1 m3 t :=
  ⟨fun g a => (h2.1 g a).trans (h.1 g a), fun g k a b d => (h2.2.1 g k a b d).trans (h.2.1 g k a b d), fun g k a b => (h2.2.2.1 g k a b).trans (h.2.2.1 g k a b), fun g k a b => (h2.2.2.2.1 g k a b).trans (h.2.2.2.1 g k a b), fun g k a b d => (h2.2.2.2.2 g k a b d).trans (h.2.2.2.2 g k a b d)⟩
def OPM (L : List Nat) (t : Nat) (m m' : md_S) : Prop := md_fr L m m' ∧ ∀ x, x ≠ t → MAG m m' x
theorem OPM.refl (L : List Nat) (t : Nat) (m : md_S) : OPM L t m m := ⟨md_fr_refl _ _, fun x _ => MAG.refl m x⟩
theorem OPM.tr {L : List Nat} {t : Nat} {m1 m2 m3 : md_S} (h : OPM L t m1 m2) (h2 : OPM L t m2 m3) : OPM L t m1 m3 := ⟨md_fr_tr h.1 h2.1 (fun _ q => ⟨q, q⟩), fun x q => (h.2 x q).tr (h2.2 x q)⟩
theorem OPM.mo {L L2 : List Nat} {t : Nat} {m1 m2 : md_S} (h : OPM L t m1 m2) (hL : ∀ k, k ∈ L → k ∈ L2) : OPM L2 t m1 m2 := ⟨md_fr_mono h.1 hL, h.2⟩
theorem MWk.of {m m' : md_S} {t k cb o q : Nat} {rw : Bool} : ∀ {W : List Int64}, MWk m t rw k cb o q W → (∀ g j, g = 121 ∨ g = 122 → o ≤ j → j < o + vln W → mA m' g (9000 * t + j) = mA m g (9000 * t + j)) → (∀ g j, 124 ≤ g → g ≤ 126 → q ≤ j → j < q + mln W → mA m' g (1500 * t + j) = mA m g (1500 * t + j)) → MWk m' t rw k cb o q W
  | [], _, _, _ => trivial
  | v :: V, ⟨h1, h2⟩, e1, e2 => by
      have ev : vln (v :: V) = (if vS v = 5 then 0 else 1) + vln V := rfl
      have em : mln (v :: V) = (if vS v = 5 then 1 else 0) + mln V := rfl
      refine ⟨?_, MWk.of h2 (fun g j a b d => e1 g j a b (by omega)) (fun g j a b d e => e2 g j a b d (by omega))⟩
      by_cases hq : vS v = 5
      · rw [if_pos hq] at h1 em
        rw [if_pos hq, e2 124 _ (by decide) (by decide) (by omega) (by omega), e2 125 _ (by decide) (by decide) (by omega) (by omega), e2 126 _ (by decide) (by decide) (by omega) (by omega)]
        exact h1
      · rw [if_neg hq] at h1 ev
        rw [if_neg hq, e1 121 _ (Or.inl rfl) (by omega) (by omega), e1 122 _ (Or.inr rfl) (by omega) (by omega)]
        exact h1
theorem MFS.of {m m' : md_S} {t : Nat} {rw : Bool} {cb : Nat → Nat} : ∀ {F : List FR}, MFS m t rw cb F → (∀ g k, 112 ≤ g → g ≤ 116 → k < F.length → mA m' g (60 * t + k) = mA m g (60 * t + k)) → (∀ g j, g = 118 ∨ g = 119 → j < lsz F → mA m' g (12600 * t + j) = mA m g (12600 * t + j)) → (∀ g j, g = 121 ∨ g = 122 → j < vsz F → mA m' g (9000 * t + j) = mA m g (9000 * t + j)) → (∀ g j, 124 ≤ g → g ≤ 126 → j < tsz F → mA m' g (1500 * t + j) = mA m g (1500 * t + j)) → MFS m' t rw cb F
  | [], _, _, _, _, _ => trivial
  | f :: r, ⟨⟨a1, a2, a3, a4, a5⟩, h2, h3, h4⟩, e1, e2, e3, e4 => by
      have hl : lsz (f :: r) = lsz r + f.L.length := rfl
      have hv : vsz (f :: r) = vsz r + vln f.W := rfl
      have hs : tsz (f :: r) = tsz r + mln f.W := rfl
      have hk : r.length < (f :: r).length := by rw [List.length_cons]; omega
      refine ⟨⟨?_, ?_, ?_, ?_, ?_⟩, fun i h => ?_, ?_, ?_⟩
      · rw [e1 112 _ (by decide) (by decide) hk]; exact a1
      · rw [e1 113 _ (by decide) (by decide) hk]; exact a2
      · rw [e1 114 _ (by decide) (by decide) hk]; exact a3
      · rw [e1 115 _ (by decide) (by decide) hk]; exact a4
      · rw [e1 116 _ (by decide) (by decide) hk]; exact a5
      · rw [e2 118 _ (Or.inl rfl) (by omega), e2 119 _ (Or.inr rfl) (by omega)]; exact h2 i h
      · exact h3.of (fun g j a _ b => e3 g j a (by omega)) (fun g j a b _ d => e4 g j a b (by omega))
      · exact MFS.of h4 (fun g k a b d => e1 g k a b (by rw [List.length_cons]; omega)) (fun g j a b => e2 g j a (by omega)) (fun g j a b => e3 g j a (by omega)) (fun g j a b d => e4 g j a b (by omega))
theorem TM.mag {m m' : md_S} {t : Nat} {rw : Bool} {cb : Nat → Nat} {F : List FR} (h : TM m t rw cb F) (e : MAG m m' t) : TM m' t rw cb F := by
  obtain ⟨⟨h1, h2, h3, h4, h5, h6⟩, h7⟩ := h
  refine ⟨⟨?_, h2, ?_, ?_, h5, h6.of (fun g k a b d => e.2.1 g k a b (by omega)) (fun g k a b => e.2.2.1 g k a (by omega)) (fun g k a b => e.2.2.2.1 g k a (by omega)) (fun g k a b d => e.2.2.2.2 g k a b (by omega))⟩, ?_⟩
  · rw [e.1 111 (by decide)]; exact h1
  · rw [e.1 117 (by decide)]; exact h3
  · rw [e.1 123 (by decide)]; exact h4
  · rw [e.1 120 (by decide)]; exact h7
theorem MAG.fr {L : List Nat} {m m' : md_S} {t : Nat} (h : md_fr L m m') (hL : ∀ g, g ∈ L → g < 106 ∨ 126 < g) : MAG m m' t := by
  have hx : ∀ g, 106 ≤ g → g ≤ 126 → ∀ i, mA m' g i = mA m g i := fun g a b i => md_frA h (fun q => by have := hL g q; omega) i
  refine ⟨fun g a => hx g ?_ ?_ t, fun g k a b _ => hx g (by omega) (by omega) _, fun g k a _ => hx g (by omega) (by omega) _, fun g k a _ => hx g (by omega) (by omega) _, fun g k a b _ => hx g (by omega) (by omega) _⟩
  · simp [tg1] at a; omega
  · simp [tg1] at a; omega
/-- one of a thread's cells -/
theorem opm_1 {m : md_S} {t g : Nat} {v : Int32} (hg : g ∈ tg1) : OPM [g] t m (mSA m g t v) :=
  ⟨md_fr_SA (md_fr_refl _ _) (by simp) _ _, fun x hx => by
    have h1 : ¬ (112 ≤ g ∧ g ≤ 116) ∧ ¬ (g = 118 ∨ g = 119) ∧ ¬ (g = 121 ∨ g = 122) ∧ ¬ (124 ≤ g ∧ g ≤ 126) := by simp [tg1] at hg; omega
    refine ⟨fun g' _ => ?_, fun g' k a b _ => mA_SAo (by omega), fun g' k a _ => mA_SAo (by omega), fun g' k a _ => mA_SAo (by omega), fun g' k a b _ => mA_SAo (by omega)⟩
    rw [mA_SA, if_neg hx]
    split <;> rfl⟩
theorem opm_f {m : md_S} {t g k : Nat} {v : Int32} (h1 : 112 ≤ g) (h2 : g ≤ 116) (hk : k < 60) : OPM [g] t m (mSA m g (60 * t + k) v) :=
  ⟨md_fr_SA (md_fr_refl _ _) (by simp) _ _, fun x hx => by
    refine ⟨fun g' q => mA_SAo (by simp [tg1] at q; omega), fun g' j a b d => ?_, fun g' k a _ => mA_SAo (by omega), fun g' k a _ => mA_SAo (by omega), fun g' k a b _ => mA_SAo (by omega)⟩
    rw [mA_SA]
    split
    · rw [if_neg (by omega)]
    · rfl⟩
theorem opm_l {m : md_S} {t g k : Nat} {v : Int32} (h1 : g = 118 ∨ g = 119) (hk : k < 12600) : OPM [g] t m (mSA m g (12600 * t + k) v) :=
  ⟨md_fr_SA (md_fr_refl _ _) (by simp) _ _, fun x hx => by
    refine ⟨fun g' q => mA_SAo (by simp [tg1] at q; omega), fun g' j a b d => mA_SAo (by omega), fun g' k a _ => ?_, fun g' k a _ => mA_SAo (by omega), fun g' k a b _ => mA_SAo (by omega)⟩
    rw [mA_SA]
    split
    · rw [if_neg (by omega)]
    · rfl⟩
theorem opm_s {m : md_S} {t g k : Nat} {v : Int32} (h1 : g = 121 ∨ g = 122) (hk : k < 9000) : OPM [g] t m (mSA m g (9000 * t + k) v) :=
  ⟨md_fr_SA (md_fr_refl _ _) (by simp) _ _, fun x hx => by
    refine ⟨fun g' q => mA_SAo (by simp [tg1] at q; omega), fun g' j a b d => mA_SAo (by omega), fun g' k a _ => mA_SAo (by omega), fun g' k a _ => ?_, fun g' k a b _ => mA_SAo (by omega)⟩
    rw [mA_SA]
    split
    · rw [if_neg (by omega)]
    · rfl⟩
theorem opm_t {m : md_S} {t g k : Nat} {v : Int32} (h1 : 124 ≤ g) (h2 : g ≤ 126) (hk : k < 1500) : OPM [g] t m (mSA m g (1500 * t + k) v) :=
  ⟨md_fr_SA (md_fr_refl _ _) (by simp) _ _, fun x hx => by
    refine ⟨fun g' q => mA_SAo (by simp [tg1] at q; omega), fun g' j a b d => mA_SAo (by omega), fun g' k a _ => mA_SAo (by omega), fun g' k a _ => mA_SAo (by omega), fun g' k a b _ => ?_⟩
    rw [mA_SA]
    split
    · rw [if_neg (by omega)]
    · rfl⟩
theorem opm_i {m : md_S} {t g : Nat} {v : Int32} : OPM [g] t m (mSI m g v) := ⟨md_fr_SI (md_fr_refl _ _) (by simp) _, fun x _ => ⟨fun _ _ => rfl, fun _ _ _ _ _ => rfl, fun _ _ _ _ => rfl, fun _ _ _ _ => rfl, fun _ _ _ _ _ => rfl⟩⟩
