/-! a thread goes until it rests -/
def MU (D : PD) (mx K : Nat) (Fs : Nat → List FR) (st : Nat) : Nat := (mx - st) * 3303 + rsum (fun x => μF D (Fs x)) K
def upF (Fs : Nat → List FR) (t : Nat) (F : List FR) : Nat → List FR := fun x => if x = t then F else Fs x
theorem MU_up {D : PD} {mx K st t : Nat} {Fs : Nat → List FR} {F : List FR} (ht : t < K) : MU D mx K (upF Fs t F) st + μF D (Fs t) = rsum (fun x => μF D (Fs x)) K + μ D mx F st := by
  have := rsum_upd (f := fun x => μF D (Fs x)) (g := fun x => μF D (upF Fs t F x)) (r := t) (fun i hi => by show μF D (if i = t then F else Fs i) = _; rw [if_neg hi]) ht
  have e : μF D (upF Fs t F t) = μF D F := by show μF D (if t = t then F else Fs t) = _; rw [if_pos rfl]
  unfold MU μ
  rw [e] at this
  omega
theorem mu_lt {D : PD} {mx K K' st st' t : Nat} {Fs Fs' : Nat → List FR} {F : List FR} (hup : MU D mx K (upF Fs t F) st + μF D (Fs t) = rsum (fun x => μF D (Fs x)) K + μ D mx F st) (hrs : rsum (fun x => μF D (Fs' x)) K + μF D (Fs t) = rsum (fun x => μF D (Fs x)) K + μF D (Fs' t)) (h : (K' = K ∧ μ D mx (Fs' t) st' < μ D mx F st) ∨ (K' = K + 1 ∧ μ D mx (Fs' t) st' + μF D (Fs' K) < μ D mx F st)) : MU D mx K' Fs' st' < MU D mx K (upF Fs t F) st := by
  have e4 : rsum (fun x => μF D (Fs' x)) (K + 1) = rsum (fun x => μF D (Fs' x)) K + μF D (Fs' K) := rfl
  have gen : ∀ (w : Nat → Nat), (w st + rsum (fun x => μF D (upF Fs t F x)) K + μF D (Fs t) = rsum (fun x => μF D (Fs x)) K + (w st + μF D F)) → ((K' = K ∧ w st' + μF D (Fs' t) < w st + μF D F) ∨ (K' = K + 1 ∧ w st' + μF D (Fs' t) + μF D (Fs' K) < w st + μF D F)) → w st' + rsum (fun x => μF D (Fs' x)) K' < w st + rsum (fun x => μF D (upF Fs t F x)) K := fun w h1 h2 => by
    rcases h2 with ⟨z5, z6⟩ | ⟨z5, z6⟩
    · rw [z5]; omega
    · rw [z5, e4]; omega
  exact gen (fun x => (mx - x) * 3303) hup h
/-- how a thread's going ends: M is more than what may still come -/
def GOE (n mx d Y : Nat) (C : Nat × Nat) (c1 : cd_S) (m1 : md_S) (D : PD) (h : HV) (M : Nat) (c' : cd_S) (b' : cd_B) (m' : md_S) : Prop :=
  CUTS n d C c' b' m' c1 m1 D ∨ ∃ h' Ls' K' st' Fs' Z', HVle h h' ∧ RSTS n mx d Z' C c' b' m' c1 m1 D h' Ls' K' st' Fs' ∧ MU D mx K' Fs' st' < M ∧ Z' + 2 * MU D mx K' Fs' st' ≤ Y
theorem go_ok {n mx d t : Nat} {C : Nat × Nat} {c1 : cd_S} {m1 : md_S} {D : PD} {l2 l7 : Int32} (hn : 40000 ≤ n) (hC : BC C) (ha : ASKS n mx d C c1 m1 D) : ∀ (N Z K st l : Nat) (c : cd_S) (b : cd_B) (m : md_S) (h : HV) (Ls : List (List Int32)) (Fs : Nat → List FR) (F : List FR) (j j2 : Nat), μ D mx F st ≤ N → RR n mx d Z C c b m c1 m1 D h Ls K st t Fs F → F ≠ [] → Z + 2 * N + 3 < 2 ^ 31 → l + 3 * N + 3 ≤ 100000000 → 3 * N + 4 < j → N + 2 < j2 → ∃ c' b' m' l', f_X1_goThread_L33 n t j c b 0 (nI l) = some (c', b', 1, l') ∧ ble b' b ∧ f_X12_run_L217 n l2 l7 j2 m = some m' ∧ GOE n mx d (Z + 2 * MU D mx K (upF Fs t F) st) C c1 m1 D h (MU D mx K (upF Fs t F) st) c' b' m' := by
  intro N
  induction N using Nat.strongRecOn with
  | _ N ih =>
    intro Z K st l c b m h Ls Fs F j j2 hμ hr hF hZ hl hj hj2
    obtain ⟨j2, rfl⟩ : ∃ q, j2 = q + 1 := ⟨j2 - 1, by omega⟩
    have h128 : mI m 128 = 1 := hr.1.2.1.2.2.1
    have htK : t < K := hr.1.2.1.1
    obtain ⟨k, s', c', b', m', k3, kr, hm, hfin⟩ := step_ok hn hC (by omega) ha hr hF
    have hm2 : f_X12_run_L217 n l2 l7 (j2 + 1) m = f_X12_run_L217 n l2 l7 j2 m' := by
      rw [u_X12_run_L217, h128, if_neg ne10, hm, bs_some]
    have hup := MU_up (D := D) (mx := mx) (st := st) (Fs := Fs) (F := F) htK
    rcases hfin with ⟨e0, h', Ls', st', F', q1, q2, q3, q4⟩ | ⟨e1, hend⟩
    · subst e0
      obtain ⟨c2, b2, m2, l', r1, r2, r3, r4⟩ := ih (μ D mx F' st') (by omega) (Z + 2) K st' (l + k) c' b' m' h' Ls' Fs F' (j - k) j2 (Nat.le_refl _) q2 q3 (by omega) (by omega) (by omega) (by omega)
      obtain ⟨x1, x2⟩ := kr.run k 0 c b 0 c' b' (j - k) l (c2, b2, 1, l') (by omega) r1 r2
      rw [show j - k + k = j by omega] at x1
      refine ⟨c2, b2, m2, l', x1, ble.tr r2 x2, hm2.trans r3, ?_⟩
      have hup' := MU_up (D := D) (mx := mx) (st := st') (Fs := Fs) (F := F') htK
      rcases r4 with z | ⟨h2, Ls2, K2, st2, Fs2, Z2, z1, z2, z3, z4⟩
      · exact Or.inl z
      · exact Or.inr ⟨h2, Ls2, K2, st2, Fs2, Z2, q1.tr z1, z2, by omega, by omega⟩
    · subst e1
      have hstop : f_X1_goThread_L33 n t (j - k) c' b' 1 (nI (l + k)) = some (c', b', 1, nI (l + k)) := by
        obtain ⟨j', ej⟩ : ∃ j', j - k = j' + 1 := ⟨j - k - 1, by omega⟩
        rw [ej, u_X1_goThread_L33]
        by_cases z : (100000000 : Int32) ≤ nI (l + k)
        · rw [if_pos z]
        · rw [if_neg z, if_pos rfl]
      obtain ⟨x1, x2⟩ := kr.run k 0 c b 1 c' b' (j - k) l (c', b', 1, nI (l + k)) (by omega) hstop (ble.refl b')
      rw [show j - k + k = j by omega] at x1
      have hm0 : mI m' 128 = 0 := by
        rcases hend with z | ⟨h', Ls', K', st', Fs', -, z, -⟩
        · exact z.2.2.2.2.1
        · exact z.2.2.1
      obtain ⟨j3, rfl⟩ : ∃ q, j2 = q + 1 := ⟨j2 - 1, by omega⟩
      refine ⟨c', b', m', nI (l + k), x1, x2, hm2.trans (by rw [u_X12_run_L217, hm0, if_pos rfl]), ?_⟩
      rcases hend with z | ⟨h', Ls', K', st', Fs', z1, z2, z3, z4⟩
      · exact Or.inl z
      · have hrs : rsum (fun x => μF D (Fs' x)) K + μF D (Fs t) = rsum (fun x => μF D (Fs x)) K + μF D (Fs' t) := by
          have e1 := rsum_upd (f := fun x => μF D (Fs x)) (g := fun x => μF D (upF Fs t (Fs' t) x)) (r := t) (fun i hi => by show μF D (if i = t then Fs' t else Fs i) = _; rw [if_neg hi]) htK
          have e2 : μF D (upF Fs t (Fs' t) t) = μF D (Fs' t) := by show μF D (if t = t then Fs' t else Fs t) = _; rw [if_pos rfl]
          rw [e2] at e1
          have e3 : rsum (fun x => μF D (Fs' x)) K = rsum (fun x => μF D (upF Fs t (Fs' t) x)) K := rsum_ext (fun i hi => by
            show μF D (Fs' i) = μF D (if i = t then Fs' t else Fs i)
            by_cases q : i = t
            · rw [if_pos q, q]
            · rw [if_neg q, z3 i hi q])
          rw [e3]; exact e1
        have hlt := mu_lt hup hrs (z4.elim (fun z => Or.inl z) (fun z => Or.inr ⟨z.1, z.2.2⟩))
        exact Or.inr ⟨h', Ls', K', st', Fs', Z + 2, z1, z2, hlt, by omega⟩
