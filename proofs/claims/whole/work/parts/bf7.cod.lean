/-! a unit's code, said of both sides -/
theorem UG.fr {c c' : cd_S} {m : md_S} {U : Nat} {F R : List Nat} (h : UG c m U) (hf : cd_fr F R c c') (hF : ∀ x, x ∈ [289, 293, 294] → x ∉ F) : UG c' m U := fun u hu => by
  obtain ⟨h1, h2, h3⟩ := h u hu
  rw [cd_frI hf (hF 289 (by decide)) (by decide), cd_frI hf (hF 294 (by decide)) (by decide), cd_frJ hf (hF 293 (by decide)) (by decide)]
  exact ⟨h1, h2, h3⟩
theorem MS.fr {m m' : md_S} {U : Nat} {F : List Nat} (h : MS m U) (hf : md_fr F m m') (hF : ∀ x, x ∈ [35, 60, 65, 66, 67, 68, 69] → x ∉ F) : MS m' U := by
  obtain ⟨a1, a2, a3, a4, a5, a6, a7, a8⟩ := h
  have n35 := mN_fr hf (hF 35 (by decide))
  have n65 := mN_fr hf (hF 65 (by decide))
  have n60 := mN_fr hf (hF 60 (by decide))
  refine ⟨by rw [md_frI hf (hF 35 (by decide))]; exact a1, a2, by rw [n35]; exact a3, by rw [md_frI hf (hF 65 (by decide)), n65]; exact a4, by omega, fun j hj => ?_, fun j hj => ?_, by omega⟩
  · obtain ⟨q, q1, q2⟩ := a6 j (by omega)
    exact ⟨q, by omega, by rw [md_frA hf (hF 67 (by decide))]; exact q2⟩
  · have e : nE m' j = nE m j := by
      unfold nE
      rw [md_frA hf (hF 66 (by decide)), md_frA hf (hF 68 (by decide)), md_frA hf (hF 69 (by decide))]
    have := a7 j (by omega)
    unfold WFE at this ⊢
    rw [e, n60, n35]; exact this
theorem HE.fr {m m' : md_S} {S : Nat → Prop} {F : List Nat} {e : EN} (hf : md_fr F m m') (hF : ∀ x, x ∈ [35, 36, 39, 43, 61] → x ∉ F) : HE m' S e ↔ HE m S e := by
  have n35 := mN_fr hf (hF 35 (by decide))
  have a36 : ∀ x, mA m' 36 x = mA m 36 x := fun x => md_frA hf (hF 36 (by decide)) x
  have a39 : ∀ x, mA m' 39 x = mA m 39 x := fun x => md_frA hf (hF 39 (by decide)) x
  have l43 : ∀ x, mL m' 43 x = mL m 43 x := fun x => md_frL hf (hF 43 (by decide)) x
  have l61 : ∀ x, mL m' 61 x = mL m 61 x := fun x => md_frL hf (hF 61 (by decide)) x
  unfold HE BG
  simp only [n35, a36, a39, l43, l61]
theorem hdF_fr {m m' : md_S} {S : Nat → Prop} {R : Bool} {F : List Nat} (hf : md_fr F m m') (hF : ∀ x, x ∈ [35, 36, 39, 43, 61] → x ∉ F) : hdF m' S R = hdF m S R := by
  funext e
  have h := HE.fr (S := S) (e := e) hf hF
  cases h1 : hdF m S R e
  · cases h2 : hdF m' S R e
    · rfl
    · have := hdF_iff.mp h2
      rw [hdF_iff.mpr ⟨this.1, h.mp this.2⟩] at h1
      exact absurd h1 (by decide)
  · have := hdF_iff.mp h1
    exact hdF_iff.mpr ⟨this.1, h.mpr this.2⟩
theorem LF_clo {m : md_S} {U : Nat} (h : MS m U) : CLO m (LF m) := by
  obtain ⟨a1, a2, a3, a4, a5, a6, a7, a8⟩ := h
  exact ⟨fun u hu ⟨j, j1, j2, j3⟩ S hS => hS.1 u hu ⟨j, j1, j2, j3.mono (a7 j j1) (fun v _ hl => hl S hS) (by omega)⟩, fun u v hu hv hs hl => LF.g hl hu hv hs⟩
/-- locals and variables of unit u, on both sides -/
def LLO (n : Nat) (m : md_S) (u L : Nat) (lo : Int32 → Nat) : Prop :=
  L < 2000 ∧ (∀ c, LU c m u → cI c 288 u = nI u → f_X9_locals n c u = some (nI L, c) ∧ ∀ v, v < mN m 50 → OC m u v → f_X9_localOf n c u (kv m v) = some (nI (lo (kv m v)), c)) ∧ (∀ v, v < mN m 50 → OC m u v → lo (kv m v) < 2000) ∧ ∀ σ, md_fr [74, 75, 76, 77, 78, 79] m σ → f_X12_localsOf n σ (nI u) = some (nI L, σ) ∧ ∀ v, v < mN m 50 → OC m u v → f_X12_localOf n σ (nI u) (nI v) = some (nI (lo (kv m v)), σ)
theorem llo_ex {n : Nat} {c : cd_S} {m : md_S} {u : Nat} (hn : 100 ≤ n) (hb : TBL m) (hu : u < mN m 35) (h288 : cI c 288 u = nI u) (hlu : ∀ q, q < mN m 35 → LU c m q) (hvr : ∀ w, w < mN m 50 → VR m w) : ∃ L lo, LLO n m u L lo := by
  obtain ⟨b1, b2, b3, b4, b5⟩ := hb
  obtain ⟨L, l1, l2, l3⟩ := locs_ok (n := n) (show u < 60 by omega) (hlu u hu) b3
  have inj : ∀ v w, v < mN m 50 → w < mN m 50 → kv m v = kv m w → v = w := by
    intro v w hv hw e
    rcases Nat.lt_trichotomy v w with hl | hl | hl
    · exact absurd e ((hvr w hw).2.2.2 v hl)
    · exact hl
    · exact absurd e.symm ((hvr v hv).2.2.2 w hl)
  have own : ∀ v, v < mN m 50 → aN m 46 (aN m 51 v) ≤ 900 ∧ ub m (aN m 51 v) ≤ 4 := by
    intro v hv
    obtain ⟨⟨o, o1, o2⟩, -⟩ := hvr v hv
    rw [aN_of o2 (by omega)]
    obtain ⟨⟨p, p1, p2⟩, ⟨q, q1, q2, -⟩, -⟩ := hlu o o1
    rw [aN_of q1 (by omega)]
    refine ⟨by omega, ?_⟩
    unfold ub
    rw [aN_of p2 (by omega)]
    split <;> omega
  have H : ∀ key : Int32, ∃ w : Nat, ∀ v, v < mN m 50 → OC m u v → kv m v = key → w < 2000 ∧ (∀ c', LU c' m u → cI c' 288 u = nI u → f_X9_localOf n c' u key = some (nI w, c')) ∧ ∀ σ, md_fr [74, 75, 76, 77, 78, 79] m σ → f_X12_localOf n σ (nI u) (nI v) = some (nI w, σ) := by
    intro key
    by_cases hx : ∃ v, v < mN m 50 ∧ OC m u v ∧ kv m v = key
    · obtain ⟨v, v1, v2, v3⟩ := hx
      obtain ⟨o1, o2⟩ := own v v1
      obtain ⟨w, w1, w2, w3⟩ := lo_ok (n := n) hn (show u < 60 by omega) h288 (hlu u hu) b3 v1 hvr b1 o1 o2 v2
      refine ⟨w, fun v' y1 y2 y3 => ?_⟩
      obtain rfl : v' = v := inj v' v y1 v1 (y3.trans v3.symm)
      refine ⟨w1, fun c' hc' h' => ?_, w3⟩
      obtain ⟨w', z1, z2, z3⟩ := lo_ok (n := n) hn (show u < 60 by omega) h' hc' b3 v1 hvr b1 o1 o2 v2
      have e := (w3 m (md_fr_refl _ _)).symm.trans (z3 m (md_fr_refl _ _))
      have e2 : nI w = nI w' := congrArg Prod.fst (Option.some.inj e)
      have : w = w' := (nI_eq (by omega) (by omega)).mp e2
      rw [← y3, z2, this]
    · exact ⟨0, fun v y1 y2 y3 => absurd ⟨v, y1, y2, y3⟩ hx⟩
  obtain ⟨lo, hlo⟩ : ∃ lo : Int32 → Nat, ∀ key v, v < mN m 50 → OC m u v → kv m v = key → lo key < 2000 ∧ (∀ c', LU c' m u → cI c' 288 u = nI u → f_X9_localOf n c' u key = some (nI (lo key), c')) ∧ ∀ σ, md_fr [74, 75, 76, 77, 78, 79] m σ → f_X12_localOf n σ (nI u) (nI v) = some (nI (lo key), σ) := ⟨fun key => Classical.choose (H key), fun key => Classical.choose_spec (H key)⟩
  exact ⟨L, lo, l1, fun c' hc' h' => ⟨l2 c' hc', fun v hv ho => (hlo _ v hv ho rfl).2.1 c' hc' h'⟩, fun v hv ho => (hlo _ v hv ho rfl).1, fun σ hf => ⟨l3 σ hf, fun v hv ho => (hlo _ v hv ho rfl).2.2 σ hf⟩⟩
/-- what a code begins with, said of the model -/
def PRM (m : md_S) (u : Nat) (S : Nat → Prop) (R : Bool) (pre : List Nat) : Prop :=
  (R = true ∧ S u → ∃ s d dom lim, s ≤ 4 ∧ mA m 36 u = nI s ∧ d < 8 ∧ mA m 37 u = nI d ∧ mA m 32 d = nI dom ∧ dom < 8 ∧ (s = 3 → mA m 42 u = nI lim ∧ lim < 12) ∧ pre = enB s dom lim) ∧ (¬ (R = true ∧ S u) → pre = [])
theorem PRM.len {m : md_S} {u : Nat} {S : Nat → Prop} {R : Bool} {pre : List Nat} (h : PRM m u S R pre) : pre.length ≤ 5 := by
  by_cases q : R = true ∧ S u
  · obtain ⟨s, d, dom, lim, -, -, -, -, -, -, -, e⟩ := h.1 q
    rw [e]; exact enB_len _ _ _
  · rw [h.2 q]; simp
def eE : EN := (28, 0, 0)
/-- bs is the code of unit u (R: rewritten); its script stands in c0 -/
def COD (n : Nat) (c0 : cd_S) (m : md_S) (u : Nat) (S : Nat → Prop) (R : Bool) (bs : List Nat) : Prop :=
  ∃ f r es l ns L lo pre, (r < 900 ∧ mA m 41 u = nI r ∧ Gen m u f r 0 l es ns ∧ ns.Nodup ∧ (∀ j, j ∈ ns → j < 2000 ∧ (j < 900 → j < mN m 65 ∧ mA m 67 j = nI u)) ∧ ns.length ≤ 860 ∧ l ≤ 400 ∧ rL c0 (17 + 3 * u) = fE (es ++ [eE])) ∧ LLO n m u L lo ∧ PRM m u S R pre ∧ bs = pre ++ ebs (hdF m S R) L lo (plF (hdF m S R) L lo pre.length (es ++ [eE])) (es ++ [eE])
/-- the model's side of what both need -/
def MCX (m : md_S) (U : Nat) (S : Nat → Prop) : Prop := MS m U ∧ TBL m ∧ (∀ v, v < U → (nM m v ↔ S v)) ∧ CLO m S ∧ ∀ q, q < U → mA m 44 q = nI (aN m 44 q) ∧ ∀ x, x < aN m 44 q → mA m 45 (16 * q + x) = nI (aN m 45 (16 * q + x))
/-- the class's side -/
def CCX (c : cd_S) (m : md_S) (U : Nat) (S : Nat → Prop) : Prop := cI c 66 0 = nI U ∧ UG c m U ∧ NAR c m ∧ mN m 62 ≤ 400 ∧ (∀ u, u < U → (S u ↔ cI c 301 u ≠ 0)) ∧ ∀ u, u < U → cI c 288 u = nI u ∧ LU c m u ∧ cI c 296 u = mA m 42 u ∧ (∃ d dom, d < 8 ∧ mA m 37 u = nI d ∧ mA m 32 d = nI dom ∧ dom < 8 ∧ cI c 291 u = nI dom) ∧ rsz c (17 + 3 * u) ≤ 9900
theorem NAR.cfr {c c' : cd_S} {m : md_S} {F R : List Nat} (h : NAR c m) (hf : cd_fr F R c c') (hF : ∀ x, x ∈ [77, 78] → x ∉ F) : NAR c' m := by
  obtain ⟨a1, a2, a3, a4⟩ := h
  exact ⟨by rw [cd_frI hf (hF 78 (by decide)) (by decide)]; exact a1, a2, a3, fun i hi => by rw [cd_frL hf (hF 77 (by decide)) (by decide)]; exact a4 i hi⟩
theorem CCX.fr {c c' : cd_S} {m : md_S} {U : Nat} {S : Nat → Prop} {F R : List Nat} (h : CCX c m U S) (hf : cd_fr F R c c') (hF : ∀ x, x ∈ [66, 77, 78, 288, 289, 291, 293, 294, 296, 298, 299, 300, 301] → x ∉ F) (hR : ∀ u, u < U → 17 + 3 * u ∉ R) : CCX c' m U S := by
  obtain ⟨a1, a2, a3, a4, a5, a6⟩ := h
  refine ⟨by rw [cd_frI hf (hF 66 (by decide)) (by decide)]; exact a1, a2.fr hf (fun x hx => hF x (by revert hx; revert x; decide)), a3.cfr hf (fun x hx => hF x (by revert hx; revert x; decide)), a4, fun u hu => by rw [cd_frI hf (hF 301 (by decide)) (by decide)]; exact a5 u hu, fun u hu => ?_⟩
  obtain ⟨b1, b2, b3, b4, b5⟩ := a6 u hu
  refine ⟨by rw [cd_frI hf (hF 288 (by decide)) (by decide)]; exact b1, b2.fr hf (fun x hx => hF x (by revert hx; revert x; decide)), by rw [cd_frI hf (hF 296 (by decide)) (by decide)]; exact b3, by rw [cd_frI hf (hF 291 (by decide)) (by decide)]; exact b4, ?_⟩
  have : rsz c' (17 + 3 * u) = rsz c (17 + 3 * u) := by rw [rsz, rsz, cd_frz hf (hR u hu)]
  rw [this]; exact b5
