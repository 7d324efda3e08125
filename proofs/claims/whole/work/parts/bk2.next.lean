/-! what a step leads to -/
abbrev XS : Type := Int32 × cd_S × cd_B
noncomputable def itc (n t : Nat) (x : XS) : Option XS := if x.1 = 2 then f_X1_raise n x.2.1 x.2.2 t else if x.1 = 3 then f_X1_begin n x.2.1 x.2.2 t else f_X1_step n x.2.1 x.2.2 t
theorem RSTS.mo {n mx d Z Z' K st : Nat} {C : Nat × Nat} {c c1 : cd_S} {b : cd_B} {m m1 : md_S} {D : PD} {h : HV} {Ls : List (List Int32)} {Fs : Nat → List FR} (hr : RSTS n mx d Z C c b m c1 m1 D h Ls K st Fs) (hz : Z ≤ Z') : RSTS n mx d Z' C c b m c1 m1 D h Ls K st Fs := ⟨hr.1.mo hz, hr.2⟩
/-- the class gets from x to y in k turns of its loop -/
def CRs (n t : Nat) : Nat → XS → XS → Prop
  | 0, x, y => x = y
  | k + 1, x, y => x.1 ≠ 1 ∧ ∃ z, itc n t x = some z ∧ ble z.2.2 x.2.2 ∧ CRs n t k z y
/-- a run that was cut -/
def CUTS (n d : Nat) (C : Nat × Nat) (c : cd_S) (b : cd_B) (m : md_S) (c1 : cd_S) (m1 : md_S) (D : PD) : Prop :=
  PG n c m d c1 m1 D ∧ Bd C c b ∧ cI c 44 0 = 2 ∧ mI m 129 = 1 ∧ mI m 128 = 0 ∧ (cI c 41 0 = mI m 89 ∧ cI c 43 0 = mI m 91 ∧ cI c 45 0 = mI m 93 ∧ cI c 46 0 = mI m 94) ∧
  (∃ K, K ≤ 8 ∧ cI c 40 0 = nI K ∧ mI m 105 = nI K ∧ ∀ t, t < K → THT c m K t) ∧ (∃ T, T ≤ 2000 ∧ cI c 193 6 = nI (2 * T) ∧ mI m 95 = nI T) ∧ (∃ E, EVT c m E) ∧ ∃ Ls, CTX c m Ls ∧ Ls.length < 4001
def FIN (n mx d Z : Nat) (C : Nat × Nat) (c1 : cd_S) (m1 : md_S) (D : PD) (h : HV) (K st t : Nat) (Fs : Nat → List FR) (F : List FR) (s' : Int32) (c' : cd_S) (b' : cd_B) (m' : md_S) : Prop :=
  (s' = 0 ∧ ∃ h' Ls' st' F', HVle h h' ∧ RR n mx d (Z + 2) C c' b' m' c1 m1 D h' Ls' K st' t Fs F' ∧ F' ≠ [] ∧ μ D mx F' st' < μ D mx F st) ∨
  (s' = 1 ∧ (CUTS n d C c' b' m' c1 m1 D ∨ ∃ h' Ls' K' st' Fs', HVle h h' ∧ RSTS n mx d (Z + 2) C c' b' m' c1 m1 D h' Ls' K' st' Fs' ∧ (∀ x, x < K → x ≠ t → Fs' x = Fs x) ∧ ((K' = K ∧ μ D mx (Fs' t) st' < μ D mx F st) ∨ (K' = K + 1 ∧ t < K ∧ μ D mx (Fs' t) st' + μF D (Fs' K) < μ D mx F st))))
def NXT (n mx d Z : Nat) (C : Nat × Nat) (c : cd_S) (b : cd_B) (m : md_S) (c1 : cd_S) (m1 : md_S) (D : PD) (h : HV) (K st t : Nat) (Fs : Nat → List FR) (F : List FR) : Prop :=
  ∃ k s' c' b' m', k ≤ 3 ∧ CRs n t k (0, c, b) (s', c', b') ∧ f_X12_step n m = some (0, m') ∧ FIN n mx d Z C c1 m1 D h K st t Fs F s' c' b' m'
theorem GOs.nxt {n mx d Z K st t : Nat} {C : Nat × Nat} {c c1 : cd_S} {b : cd_B} {m m1 : md_S} {D : PD} {h : HV} {Ls : List (List Int32)} {Fs : Nat → List FR} {F : List FR} (hg : GOs n mx d Z C c b m c1 m1 D h Ls K st t Fs F) : NXT n mx d Z C c b m c1 m1 D h K st t Fs F := by
  obtain ⟨c', b', m', F', q1, q2, q3, q4, q5, q6⟩ := hg
  refine ⟨1, 0, c', b', m', by omega, ⟨(by decide : (0 : Int32) ≠ 1), _, ?_, q2, rfl⟩, q3, Or.inl ⟨rfl, h, Ls, st, F', HVle.refl h, ⟨q4.1.mo (by omega), q4.2⟩, q5, ?_⟩⟩
  · exact q1
  · unfold μ; omega
theorem FAIL.fin {n mx d Z K st t : Nat} {C : Nat × Nat} {c' c1 : cd_S} {b b' : cd_B} {m' m1 : md_S} {D : PD} {h : HV} {Ls : List (List Int32)} {Fs : Nat → List FR} {F : List FR} {s' : Int32} {μ0 : Nat} (hf : FAIL n mx d Z C b c1 m1 D h Ls K st t Fs μ0 s' c' b' m') (h0 : μ0 ≤ μF D F) (hF : F ≠ []) : FIN n mx d Z C c1 m1 D h K st t Fs F s' c' b' m' := by
  obtain ⟨-, ⟨q1, F', q2, q3, q4⟩ | ⟨q1, Fs', q2, q3, q4⟩⟩ := hf
  · exact Or.inl ⟨q1, h, Ls, st, F', HVle.refl h, ⟨q2.1.mo (by omega), q2.2⟩, q3, by unfold μ; omega⟩
  · refine Or.inr ⟨q1, Or.inr ⟨h, Ls, K, st, Fs', HVle.refl h, q2.mo (by omega), fun x _ hx => q3 x hx, Or.inl ⟨rfl, ?_⟩⟩⟩
    rw [q4]
    cases F with
    | nil => exact absurd rfl hF
    | cons f r =>
      unfold μ
      have : μF D (f :: r) = rm D f.u f.p + 1 + μF D r := rfl
      have e : μF D [] = 0 := rfl
      omega
theorem TC.fail {n t : Nat} {C : Nat × Nat} {c : cd_S} {b : cd_B} {F : List FR} {x : Int32} (hB : Bd C c b) (h : TC c t F) : f_X1_fail n c t x = some (2, cSI c 237 t x) ∧ Bd C (cSI c 237 t x) b ∧ TC (cSI c 237 t x) t F ∧ OPC [237] t c (cSI c 237 t x) ∧ cI (cSI c 237 t x) 237 t = x := by
  refine ⟨rfl, hB.SI (by decide) _ _, ?_, opc_I (by decide), cI_SIe⟩
  obtain ⟨h1, h2, h3, h4⟩ := h
  exact ⟨by rw [cI_SIo (by decide)]; exact h1, h2, by rw [rsz_e (cI_SIo (by decide))]; exact h3, h4.of (fun _ _ _ _ _ => rfl) (fun _ _ => rfl)⟩
/-- an instruction fails -/
theorem fail_nxt {n mx d Z K st t k p1 : Nat} {C : Nat × Nat} {c c1 c2 : cd_S} {b b2 : cd_B} {m m1 m2 : md_S} {D : PD} {h : HV} {Ls : List (List Int32)} {Fs : Nat → List FR} {f : FR} {r : List FR} {s sY s2 : List SH} {e : EN} {X0 W' : List Int64} {x : Int32} (hn : 40000 ≤ n) (hC : BC C) (hZ : Z + 1 < 2 ^ 31) (hr : RR n mx d Z C c b m c1 m1 D h Ls K st t Fs (f :: r)) (hA : AT c m m1 D h d t f r s e k) (q1 : f_X1_step n c b t = some (2, c2, b2)) (q2 : ble b2 b) (q3 : Bd C c2 b2) (q4 : TC c2 t (((f.sp p1).sW (X0 ++ W')) :: r)) (q5 : ∀ v, v ∈ X0 → vS v ≠ 5) (q6 : cI c2 237 t = x) (q7 : OPC lc0 t c c2) (q8 : ∀ m', f_X12_failure n m2 x = some (0, m') → f_X12_step n m = some (0, m')) (q9 : TMx m2 t h.1 D.cb (((f.sp p1).sW W') :: r)) (q10 : OPM lm0 t m m2) (q11 : s = sY ++ s2) (q12 : WT h (D.P f.u) s2 W') (q13 : sz (((f.sp p1).sW (X0 ++ W')) :: r) < 32768) : NXT n mx d Z C c b m c1 m1 D h K st t Fs (f :: r) := by
  obtain ⟨t1, t2, t3, t4, -⟩ := hA
  have hF : FTS h m1 D sY (f.sW W' :: r) := ⟨⟨t3.1, t3.2.1, t3.2.2⟩, ⟨s2, e, by rw [← q11]; exact t1, q12⟩, t4⟩
  obtain ⟨s', c', b', m', z1, z2, z3⟩ := fail_ok (g := f.sW W') (p1 := p1) hn hC hZ (hr.1.op q7 q10) q3 q4 q5 q6 q9 hF q13
  refine ⟨2, s', c', b', m', by omega, ⟨(by decide : (0 : Int32) ≠ 1), _, q1, q2, (by decide : (2 : Int32) ≠ 1), _, ?_, z3.1, rfl⟩, q8 m' z2, z3.fin (Nat.le_refl _) (by simp)⟩
  exact z1
