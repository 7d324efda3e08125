/-! a step that goes on -/
def rE (D : PD) (u : Nat) : Nat → List EN → Nat → Nat
  | _, [], _ => 0
  | o, e :: r, p => (if p ≤ o then 1 else 0) + rE D u (o + (eb hd0 (D.L u) (D.lo u) (D.P u) e).length) r p
def rm (D : PD) (u p : Nat) : Nat := rE D u 0 (D.E u) p
def μF (D : PD) : List FR → Nat
  | [] => 0
  | f :: r => rm D f.u f.p + 1 + μF D r
def μ (D : PD) (mx : Nat) (F : List FR) (st : Nat) : Nat := (mx - st) * 3303 + μF D F
theorem rE_le (D : PD) (u p : Nat) : ∀ (l : List EN) (o : Nat), rE D u o l p ≤ l.length
  | [], _ => Nat.le_refl _
  | e :: r, o => by
      have := rE_le D u p r (o + (eb hd0 (D.L u) (D.lo u) (D.P u) e).length)
      unfold rE
      rw [List.length_cons]
      split <;> omega
theorem rE_mo (D : PD) (u : Nat) {p p' : Nat} (h : p ≤ p') : ∀ (l : List EN) (o : Nat), rE D u o l p' ≤ rE D u o l p
  | [], _ => Nat.le_refl _
  | e :: r, o => by
      have := rE_mo D u h r (o + (eb hd0 (D.L u) (D.lo u) (D.P u) e).length)
      unfold rE
      split
      · rw [if_pos (by omega)]; omega
      · split <;> omega
theorem rE_lt (D : PD) (u : Nat) {p p' : Nat} (h : p < p') {e : EN} {b : List EN} : ∀ (a : List EN) (o : Nat), p = o + (ebs hd0 (D.L u) (D.lo u) (D.P u) a).length → rE D u o (a ++ e :: b) p' < rE D u o (a ++ e :: b) p
  | [], o, hp => by
      have h0 : p = o := by rw [hp]; rfl
      have := rE_mo D u (Nat.le_of_lt h) b (o + (eb hd0 (D.L u) (D.lo u) (D.P u) e).length)
      rw [List.nil_append]
      unfold rE
      rw [if_neg (by omega), if_pos (by omega)]
      omega
  | x :: a, o, hp => by
      have := rE_lt D u h (e := e) (b := b) a (o + (eb hd0 (D.L u) (D.lo u) (D.P u) x).length) (by rw [hp, ebs_cons, List.length_append]; omega)
      rw [List.cons_append]
      unfold rE
      split
      · rw [if_pos (by omega)]; omega
      · split <;> omega
theorem rm_lt {m1 : md_S} {D : PD} {u p p' : Nat} {s : List SH} {e : EN} (h : TPL m1 (D.Λ u) (D.L u) (D.lo u) (D.P u) (D.E u) p s e) (hp : p < p') : rm D u p' < rm D u p := by
  obtain ⟨a, b, h1, h2, h3, h4⟩ := h
  unfold rm
  rw [h1]
  exact rE_lt D u hp a 0 (by rw [h3, Nat.zero_add])
theorem rm_le (D : PD) (u p : Nat) : rm D u p ≤ (D.E u).length := rE_le D u p _ _
theorem rm_mo (D : PD) (u : Nat) {p p' : Nat} (h : p ≤ p') : rm D u p' ≤ rm D u p := rE_mo D u h _ _
def RR (n mx d Z : Nat) (C : Nat × Nat) (c : cd_S) (b : cd_B) (m : md_S) (c1 : cd_S) (m1 : md_S) (D : PD) (h : HV) (Ls : List (List Int32)) (K st t : Nat) (Fs : Nat → List FR) (F : List FR) : Prop :=
  REST n mx d Z c m c1 m1 D h Ls K st t Fs ∧ Bd C c b ∧ TC c t F ∧ TM m t h.1 D.cb F ∧ FTS h m1 D [] F
/-- what is known where an instruction begins -/
def AT (c : cd_S) (m m1 : md_S) (D : PD) (h : HV) (d t : Nat) (f : FR) (r : List FR) (s : List SH) (e : EN) (k : Nat) : Prop :=
  TPL m1 (D.Λ f.u) (D.L f.u) (D.lo f.u) (D.P f.u) (D.E f.u) f.p s e ∧ WT h (D.P f.u) s f.W ∧ FI h m1 D f ∧ FTS h m1 D [none] r ∧ SU c m m1 D d f.u ∧ (e.1 = nI k ∧ k ≤ 28) ∧ EO m1 D d f.u e ∧ (nO k ≠ 0 → opd (D.lo f.u) (D.P f.u) e < 65536) ∧ (∀ x, x ∈ D.bs f.u → x < 256) ∧ (f.u < 60 ∧ t < 8 ∧ TBL m1 ∧ d ≤ 8) ∧ (lsz (f :: r) ≤ 12600 ∧ vsz (f :: r) + 60 ≤ 9000 ∧ tsz (f :: r) + 60 ≤ 1500 ∧ sz (f :: r) + 1000 ≤ 32768 ∧ r.length < 60)
theorem PG.tb {n d : Nat} {c c1 : cd_S} {m m1 : md_S} {D : PD} (h : PG n c m d c1 m1 D) : TBL m1 ∧ d ≤ 8 := by
  obtain ⟨⟨c0, hO, -⟩, -⟩ := h.1.1
  exact ⟨hO.nb.1, hO.2.2.2.2.2.2.2.2.2.1.1⟩
theorem opd_lt {m1 : md_S} {D : PD} {d u p k : Nat} {s : List SH} {e : EN} (hE : TPL m1 (D.Λ u) (D.L u) (D.lo u) (D.P u) (D.E u) p s e) (hT : TE m1 (D.Λ u) (D.L u) (D.lo u) (D.P u) (D.E u)) (hO : EO m1 D d u e) (hb : TBL m1) (hd : d ≤ 8) (hL : D.L u ≤ 210) (hl : (D.bs u).length < 15000) (hk : e.1 = nI k) (h28 : k ≤ 28) (hn : nO k ≠ 0) : opd (D.lo u) (D.P u) e < 65536 := by
  unfold opd
  obtain ⟨-, o0, o2, o4, o5, o7, o8, o9, -, o25⟩ := hO
  obtain ⟨b1, b2, b3, b4, b5⟩ := hb
  by_cases h2 : e.1 = 2 ∨ e.1 = 3
  · rw [if_pos h2]; have := o2 h2; omega
  · rw [if_neg h2]
    by_cases h17 : e.1 = 17 ∨ e.1 = 18 ∨ e.1 = 19
    · rw [if_pos h17]
      obtain ⟨e', h'⟩ := hE.jump hT h17
      have := h'.bytes.1
      have hbs : ebs hd0 (D.L u) (D.lo u) (D.P u) (D.E u) = D.bs u := rfl
      rw [hbs] at this
      omega
    · rw [if_neg h17]
      have hm : e.1 ∈ o1L := Classical.byContradiction (fun q => hn ((nO_in k (by omega)).mpr (by rw [← hk]; exact q)))
      have fin : ∀ N : Nat, N ≤ 400 → (∃ a, e.2.1 = nI a ∧ a < N) → oN e.2.1 < 65536 := fun N hN ⟨a, a1, a2⟩ => by rw [a1, oN_nI (by omega)]; omega
      unfold o1L at hm
      simp only [List.mem_cons, List.not_mem_nil, or_false] at hm
      rcases hm with q | q | q | q | q | q | q | q | q | q | q | q | q | q | q
      · exact fin _ b4 (o0 q)
      · exact absurd (Or.inl q) h2
      · exact absurd (Or.inr q) h2
      · exact fin d (by omega) (o4 q)
      · exact fin _ b5 (o5 (Or.inl q))
      · exact fin _ b5 (o5 (Or.inr (Or.inl q)))
      · exact fin _ b5 (o5 (Or.inr (Or.inr q)))
      · obtain ⟨a, a1, a2⟩ := o8 q
        exact fin 4 (by omega) ⟨a, a1, by omega⟩
      · exact fin _ (by omega) (o9 (Or.inl q))
      · exact fin _ (by omega) (o9 (Or.inr q))
      · exact absurd (Or.inl q) h17
      · exact absurd (Or.inr (Or.inl q)) h17
      · exact absurd (Or.inr (Or.inr q)) h17
      · exact fin _ (by omega) (o25 (Or.inl q))
      · exact fin _ (by omega) (o25 (Or.inr q))
theorem RR.at {n mx d Z K st t : Nat} {C : Nat × Nat} {c c1 : cd_S} {b : cd_B} {m m1 : md_S} {D : PD} {h : HV} {Ls : List (List Int32)} {Fs : Nat → List FR} {f : FR} {r : List FR} (hr : RR n mx d Z C c b m c1 m1 D h Ls K st t Fs (f :: r)) : ∃ s e k, AT c m m1 D h d t f r s e k := by
  obtain ⟨⟨hG, ⟨ht, -⟩, -⟩, hB, hC, hM, ⟨hfi, ⟨s, e, t1, t2⟩, hF⟩⟩ := hr
  have hPG := hG.1
  have h8 := hG.2.1.1
  obtain ⟨hb, hd8⟩ := hPG.tb
  have hSU := hPG.2.2.2.2.2 f.u hfi.1
  have hbd := FTS.bd (h := h) hPG.2.2.2.2.2 (F := f :: r) (pre := []) ⟨hfi, ⟨s, e, t1, t2⟩, hF⟩
  have hlen := hC.2.1
  rw [List.length_cons] at hlen hbd
  rw [List.nil_append] at t1
  have hme : e ∈ D.E f.u := by
    obtain ⟨a, b', h1, -⟩ := t1
    rw [h1]; simp
  have hEO := hSU.2.2.2.2.2.1 e hme
  obtain ⟨k, k1, k2⟩ := hEO.1.resolve_left (fun q => by
    obtain ⟨a, b', h1, h2, -⟩ := t1
    exact h2 q)
  have h60 : f.u < 60 := by have := hb.1; have := hfi.1; omega
  refine ⟨s, e, k, t1, t2, hfi, hF, hSU, ⟨k1, k2⟩, hEO, fun hn => opd_lt t1 hSU.1 hEO hb hd8 hSU.2.1.1 hSU.2.2.1.1 k1 k2 hn, fun x hx => ?_, ⟨h60, by omega, hb, hd8⟩, ⟨by omega, by omega, by omega, by omega, by omega⟩⟩
  obtain ⟨y, y1, y2⟩ := List.mem_flatMap.mp hx
  exact eb_256 (hSU.2.2.2.2.2.1 y y1).1 y2
/-- on to the next instruction -/
theorem TPL.nx {m1 : md_S} {D : PD} {u p k : Nat} {s : List SH} {e : EN} (h : TPL m1 (D.Λ u) (D.L u) (D.lo u) (D.P u) (D.E u) p s e) (hT : TE m1 (D.Λ u) (D.L u) (D.lo u) (D.P u) (D.E u)) (hk : e.1 = nI k) (h28 : k < 28) (h17 : k ≠ 17) (h18 : k ≠ 18) (h19 : k ≠ 19) (h20 : k ≠ 20) : ∃ r0 e', s = List.replicate (pops m1 e) none ++ r0 ∧ TPL m1 (D.Λ u) (D.L u) (D.lo u) (D.P u) (D.E u) (p + (1 + 2 * nO k)) (psh e ++ r0) e' := by
  have hne : ∀ j, j < 200 → j ≠ k → e.1 ≠ nI j := fun j hj hjk q => hjk ((nI_eq (by omega) (by omega)).mp (q.symm.trans hk))
  have n100 : e.1 ≠ 100 := hne 100 (by omega) (by omega)
  have n17 : e.1 ≠ 17 := hne 17 (by omega) (by omega)
  have n18 : e.1 ≠ 18 := hne 18 (by omega) (by omega)
  have n19 : e.1 ≠ 19 := hne 19 (by omega) (by omega)
  have n20 : e.1 ≠ 20 := hne 20 (by omega) (by omega)
  have n28 : e.1 ≠ 28 := hne 28 (by omega) (by omega)
  obtain ⟨r0, h0⟩ := (h.ok hT).2.2.2.2.2.2.2 n100 n20
  obtain ⟨e', h'⟩ := h.next hT n17 n28
  rw [eb_ql hk (by omega)] at h'
  refine ⟨r0, e', h0, ?_⟩
  have : (stp m1 (D.Λ u) (s, false) e).1 = psh e ++ r0 := by
    unfold stp
    rw [if_neg n100, if_neg n17, if_neg n18, if_neg n19, if_neg n20]
    show psh e ++ s.drop (pops m1 e) = _
    have hs : s = List.replicate (pops m1 e) none ++ r0 := h0
    rw [hs, List.drop_left' (by rw [List.length_replicate])]
  rw [this] at h'
  exact h'
theorem TC.step {n t j : Nat} {C : Nat × Nat} {c : cd_S} {b : cd_B} {f : FR} {r : List FR} (hB : Bd C c b) (h : TC c t (f :: r)) : ∃ c', f_X7_goTo n c t ((nI f.p + 1) + (2 : Int32) * nI j) = some (0, c') ∧ Bd C c' b ∧ TC c' t (f.sp (f.p + (1 + 2 * j)) :: r) ∧ OPC [225] t c c' := by
  obtain ⟨c', h1, h2, h3, h4⟩ := h.go (n := n) (p := f.p + (1 + 2 * j)) hB
  refine ⟨c', ?_, h2, h3, h4⟩
  rw [show (1 : Int32) = nI 1 from rfl, show (2 : Int32) = nI 2 from rfl, nI_add, nI_mul, nI_add, show f.p + 1 + 2 * j = f.p + (1 + 2 * j) by omega]
  exact h1
theorem TM.step {t j : Nat} {m : md_S} {rw : Bool} {cb : Nat → Nat} {f : FR} {r : List FR} (ht : t < 8) (h : TM m t rw cb (f :: r)) : ∃ m', mldA m 113 (nI (60 * t + r.length)) = some (nI (cb f.u + f.p)) ∧ mstA m 113 (nI (60 * t + r.length)) (nI (cb f.u + f.p) + nI j) = some m' ∧ TM m' t rw cb (f.sp (f.p + j) :: r) ∧ OPM [113] t m m' := by
  obtain ⟨p1, -, p3, -⟩ := h.pl ht
  obtain ⟨g1, g2⟩ := h.go (p := f.p + j)
  refine ⟨_, p1, p3 _, ?_, ?_⟩
  · rw [nI_add, Nat.add_assoc]; exact g1
  · rw [nI_add, Nat.add_assoc]; exact g2
