/-! frames of a thread: unit, place, what lies dead below its locals; node and context; locals; what it works with (the top first) -/
abbrev FR : Type := (Nat × Nat × Nat) × (Int32 × Int32) × List Int64 × List Int64
def FR.u (f : FR) : Nat := f.1.1
def FR.p (f : FR) : Nat := f.1.2.1
def FR.d (f : FR) : Nat := f.1.2.2
def FR.nd (f : FR) : Int32 := f.2.1.1
def FR.cx (f : FR) : Int32 := f.2.1.2
def FR.L (f : FR) : List Int64 := f.2.2.1
def FR.W (f : FR) : List Int64 := f.2.2.2
def FR.sp (f : FR) (p : Nat) : FR := ((f.1.1, p, f.1.2.2), f.2)
def FR.sW (f : FR) (W : List Int64) : FR := (f.1, f.2.1, f.2.2.1, W)
def FR.sL (f : FR) (L : List Int64) : FR := (f.1, f.2.1, L, f.2.2.2)
def sz : List FR → Nat
  | [] => 0
  | f :: r => sz r + f.d + f.L.length + f.W.length
/-- the class: what it works with stands in row q from o on -/
def CWk (c : cd_S) (q o : Nat) : List Int64 → Prop
  | [] => True
  | v :: V => cRF c q (o + V.length) = v ∧ CWk c q o V
def CF1 (c : cd_S) (t k b : Nat) (f : FR) : Prop := cAr c 224 t k = nI f.u ∧ cAr c 225 t k = nI f.p ∧ cAr c 226 t k = nI (b + f.d) ∧ cAr c 227 t k = nI b ∧ cAr c 228 t k = f.nd ∧ cAr c 229 t k = f.cx
def CFS (c : cd_S) (t : Nat) : List FR → Prop
  | [] => True
  | f :: r => CF1 c t r.length (sz r) f ∧ (∀ i (h : i < f.L.length), cRF c (9 + t) (sz r + f.d + i) = f.L[i]) ∧ CWk c (9 + t) (sz r + f.d + f.L.length) f.W ∧ CFS c t r
def TC (c : cd_S) (t : Nat) (F : List FR) : Prop := cI c 232 t = nI F.length ∧ F.length ≤ 60 ∧ rsz c (9 + t) = sz F ∧ CFS c t F
/-- strand t is the same -/
def SAG (c c' : cd_S) (t : Nat) : Prop := (∀ g, 224 ≤ g → g ≤ 241 → cI c' g t = cI c g t ∧ cJ c' g t = cJ c g t ∧ (∀ k, cAr c' g t k = cAr c g t k)) ∧ cI c' 193 (9 + t) = cI c 193 (9 + t) ∧ ∀ j, cRF c' (9 + t) j = cRF c (9 + t) j
theorem SAG.refl (c : cd_S) (t : Nat) : SAG c c t := ⟨fun _ _ _ => ⟨rfl, rfl, fun _ => rfl⟩, rfl, fun _ => rfl⟩
theorem SAG.tr {c1 c2 c3 : cd_S} {t : Nat} (h : SAG c1 c2 t) (h2 : SAG c2 c3 t) : SAG c1 c3 t :=
  ⟨fun g a b => ⟨(h2.1 g a b).1.trans (h.1 g a b).1, (h2.1 g a b).2.1.trans (h.1 g a b).2.1, fun k => ((h2.1 g a b).2.2 k).trans ((h.1 g a b).2.2 k)⟩, h2.2.1.trans h.2.1, fun j => (h2.2.2 j).trans (h.2.2 j)⟩
/-- a change of strand t, in fields of L -/
def OPC (L : List Nat) (t : Nat) (c c' : cd_S) : Prop := cd_fr L [9 + t] c c' ∧ ∀ x, x ≠ t → SAG c c' x
theorem OPC.refl (L : List Nat) (t : Nat) (c : cd_S) : OPC L t c c := ⟨cd_fr_refl _ _ _, fun x _ => SAG.refl c x⟩
theorem OPC.tr {L : List Nat} {t : Nat} {c1 c2 c3 : cd_S} (h : OPC L t c1 c2) (h2 : OPC L t c2 c3) : OPC L t c1 c3 := ⟨cd_fr_tr h.1 h2.1 (fun _ q => ⟨q, q⟩) (fun _ q => ⟨q, q⟩), fun x q => (h.2 x q).tr (h2.2 x q)⟩
theorem OPC.mo {L L2 : List Nat} {t : Nat} {c1 c2 : cd_S} (h : OPC L t c1 c2) (hL : ∀ k, k ∈ L → k ∈ L2) : OPC L2 t c1 c2 := ⟨cd_fr_mono h.1 hL (fun _ q => q), h.2⟩
theorem CWk.of {c c' : cd_S} {q o : Nat} : ∀ {W : List Int64}, CWk c q o W → (∀ j, o ≤ j → j < o + W.length → cRF c' q j = cRF c q j) → CWk c' q o W
  | [], _, _ => trivial
  | v :: V, h, e => ⟨by rw [e _ (by omega) (by rw [List.length_cons]; omega)]; exact h.1, CWk.of h.2 (fun j a b => e j a (by rw [List.length_cons]; omega))⟩
theorem CFS.of {c c' : cd_S} {t : Nat} : ∀ {F : List FR}, CFS c t F → (∀ g k, 224 ≤ g → g ≤ 229 → k < F.length → cAr c' g t k = cAr c g t k) → (∀ j, j < sz F → cRF c' (9 + t) j = cRF c (9 + t) j) → CFS c' t F
  | [], _, _, _ => trivial
  | f :: r, ⟨⟨a1, a2, a3, a4, a5, a6⟩, h2, h3, h4⟩, e1, e2 => by
      have hz : sz (f :: r) = sz r + f.d + f.L.length + f.W.length := rfl
      have hk : r.length < (f :: r).length := by rw [List.length_cons]; omega
      refine ⟨⟨?_, ?_, ?_, ?_, ?_, ?_⟩, fun i h => ?_, ?_, ?_⟩
      · rw [e1 224 _ (by decide) (by decide) hk]; exact a1
      · rw [e1 225 _ (by decide) (by decide) hk]; exact a2
      · rw [e1 226 _ (by decide) (by decide) hk]; exact a3
      · rw [e1 227 _ (by decide) (by decide) hk]; exact a4
      · rw [e1 228 _ (by decide) (by decide) hk]; exact a5
      · rw [e1 229 _ (by decide) (by decide) hk]; exact a6
      · rw [e2 _ (by omega)]; exact h2 i h
      · exact h3.of (fun j a b => e2 j (by omega))
      · exact CFS.of h4 (fun g k x y z => e1 g k x y (by rw [List.length_cons]; omega)) (fun j hj => e2 j (by omega))
theorem rsz_e {c c' : cd_S} {r : Nat} (h : cI c' 193 r = cI c 193 r) : rsz c' r = rsz c r := by unfold rsz; rw [h]
theorem TC.sag {c c' : cd_S} {t : Nat} {F : List FR} (h : TC c t F) (e : SAG c c' t) : TC c' t F :=
  ⟨by rw [(e.1 232 (by decide) (by decide)).1]; exact h.1, h.2.1, by rw [rsz_e e.2.1]; exact h.2.2.1, h.2.2.2.of (fun g k x y _ => (e.1 g x (by omega)).2.2 k) (fun j _ => e.2.2 j)⟩
theorem SAG.fr {L R : List Nat} {c c' : cd_S} {t : Nat} (h : cd_fr L R c c') (hL : ∀ g, g ∈ L → g < 224 ∨ 241 < g) (hR : ∀ r, r ∈ R → r ≠ 9 + t) : SAG c c' t :=
  ⟨fun g a b => by
    have hg : g ∉ L := fun q => by have := hL g q; omega
    exact ⟨cd_frI h hg (by omega) t, cd_frJ h hg (by omega) t, fun k => cd_frA h hg (by omega) t k⟩, cd_frz h (fun q => hR _ q rfl), fun j => cd_frF h (fun q => hR _ q rfl) j⟩
theorem Bd.shr {C : Nat × Nat} {s : cd_S} {b : cd_B} (h : Bd C s b) {r k : Nat} (hr : r < 197) (hk : k ≤ rsz s r) : Bd C (cSI s 193 r (nI k)) b := by
  refine ⟨fun i hi => ?_, h.2.1, h.2.2⟩
  by_cases q : i = r
  · rw [q]
    have h0 := h.1 r hr
    have := h0.szlt
    have e : rsz (cSI s 193 r (nI k)) r = k := by
      show (cI (cSI s 193 r (nI k)) 193 r).toNatClampNeg = k
      rw [cI_SIe, nI_clamp (by omega)]
    exact ⟨by rw [e, cI_SIe], by rw [e]; exact Nat.le_trans hk h0.2.1, h0.2.2⟩
  · exact (h.1 i hi).of (cI_SIi q) rfl
theorem rsz_SIe {s : cd_S} {r k : Nat} (hk : k < 2 ^ 31) : rsz (cSI s 193 r (nI k)) r = k := by
  show (cI (cSI s 193 r (nI k)) 193 r).toNatClampNeg = k
  rw [cI_SIe, nI_clamp hk]
theorem opc_z {c : cd_S} {t : Nat} {v : Int32} : OPC [] t c (cSI c 193 (9 + t) v) :=
  ⟨cd_fr_SZ (cd_fr_refl _ _ _) (by simp) v, fun x hx => ⟨fun g a b => ⟨cI_SIo (by omega), rfl, fun _ => rfl⟩, cI_SIi (by omega), fun _ => rfl⟩⟩
theorem opc_add {c : cd_S} {t : Nat} {v : Int64} : OPC [] t c (rAdd c (9 + t) v) :=
  ⟨cd_fr_add (cd_fr_refl _ _ _) (by simp) v, fun x hx => ⟨fun g a b => ⟨rAdd_Io (by omega), rAdd_J _ _ _ _ _, fun _ => rAdd_A _ _ _ _ _ _⟩, by rw [rAdd_I, if_neg (by omega)], fun j => rAdd_Fo (by omega) j⟩⟩
theorem opc_A {c : cd_S} {t g k : Nat} {v : Int32} (h9 : g ≠ 193) : OPC [g] t c (cSA c g t k v) :=
  ⟨cd_fr_SA (cd_fr_refl _ _ _) (by simp) _ _ _, fun x hx => ⟨fun g a b => ⟨rfl, rfl, fun _ => by rw [cA_SA, if_neg (fun q => hx q.2)]⟩, rfl, fun _ => rfl⟩⟩
theorem opc_I {c : cd_S} {t g : Nat} {v : Int32} (h9 : g ≠ 193) : OPC [g] t c (cSI c g t v) :=
  ⟨cd_fr_SI (cd_fr_refl _ _ _) (by simp) h9 _ _, fun x hx => ⟨fun g' a b => ⟨by rw [cI_SI, if_neg (fun q => hx q.2)], rfl, fun _ => rfl⟩, cI_SIo (fun q => h9 q.symm), fun _ => rfl⟩⟩
theorem opc_J {c : cd_S} {t g : Nat} {v : Int64} : OPC [g] t c (cSJ c g t v) :=
  ⟨cd_fr_SJ (cd_fr_refl _ _ _) (by simp) _ _, fun x hx => ⟨fun g' a b => ⟨rfl, by rw [cJ_SJ, if_neg (fun q => hx q.2)], fun _ => rfl⟩, rfl, fun _ => rfl⟩⟩
theorem opc_F {c : cd_S} {t j : Nat} {v : Int64} : OPC [] t c (cSF c (9 + t) j v) :=
  ⟨cd_fr_SF (cd_fr_refl _ _ _) (by simp) _ _, fun x hx => ⟨fun g' a b => ⟨rfl, rfl, fun _ => rfl⟩, rfl, fun j => by rw [cF_SF, if_neg (by omega)]⟩⟩
