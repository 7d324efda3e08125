/-! frames of the class; the tape: feed, end; what needs no program -/
def cd_fr (L : List Nat) (R : List Nat) (s t : cd_S) : Prop := (∀ f, f ∉ L → f ≠ 193 → s.1 f = t.1 f ∧ s.2.1 f = t.2.1 f ∧ s.2.2.1 f = t.2.2.1 f ∧ s.2.2.2.1 f = t.2.2.2.1 f ∧ s.2.2.2.2.1 f = t.2.2.2.2.1 f) ∧ ∀ r, r ∉ R → s.1 193 r = t.1 193 r ∧ s.2.2.2.2.2.1 r = t.2.2.2.2.2.1 r ∧ s.2.2.2.2.2.2 r = t.2.2.2.2.2.2 r
theorem cd_fr_refl (s : cd_S) (L R : List Nat) : cd_fr L R s s := ⟨fun _ _ _ => ⟨rfl, rfl, rfl, rfl, rfl⟩, fun _ _ => ⟨rfl, rfl, rfl⟩⟩
theorem cd_fr_tr {L1 L2 L3 R1 R2 R3 : List Nat} {s t u : cd_S} (h1 : cd_fr L1 R1 s t) (h2 : cd_fr L2 R2 t u) (h : ∀ k, k ∉ L3 → k ∉ L1 ∧ k ∉ L2) (hR : ∀ k, k ∉ R3 → k ∉ R1 ∧ k ∉ R2) : cd_fr L3 R3 s u := ⟨fun k hk h9 => by
  obtain ⟨a1, a2, a3, a4, a5⟩ := h1.1 k (h k hk).1 h9
  obtain ⟨b1, b2, b3, b4, b5⟩ := h2.1 k (h k hk).2 h9
  exact ⟨a1.trans b1, a2.trans b2, a3.trans b3, a4.trans b4, a5.trans b5⟩, fun r hr => by
  obtain ⟨a1, a2, a3⟩ := h1.2 r (hR r hr).1
  obtain ⟨b1, b2, b3⟩ := h2.2 r (hR r hr).2
  exact ⟨a1.trans b1, a2.trans b2, a3.trans b3⟩⟩
theorem cd_fr_mono {L1 L3 R1 R3 : List Nat} {s t : cd_S} (h1 : cd_fr L1 R1 s t) (h : ∀ k, k ∈ L1 → k ∈ L3) (hR : ∀ k, k ∈ R1 → k ∈ R3) : cd_fr L3 R3 s t := ⟨fun k hk h9 => h1.1 k (fun q => hk (h k q)) h9, fun r hr => h1.2 r (fun q => hr (hR r q))⟩
theorem cd_frI {L R : List Nat} {s t : cd_S} (h : cd_fr L R s t) {f : Nat} (hf : f ∉ L) (h9 : f ≠ 193) (i : Nat) : cI t f i = cI s f i := by rw [cI, cI, (h.1 f hf h9).1]
theorem cd_frJ {L R : List Nat} {s t : cd_S} (h : cd_fr L R s t) {f : Nat} (hf : f ∉ L) (h9 : f ≠ 193) (i : Nat) : cJ t f i = cJ s f i := by rw [cJ, cJ, (h.1 f hf h9).2.1]
theorem cd_frA {L R : List Nat} {s t : cd_S} (h : cd_fr L R s t) {f : Nat} (hf : f ∉ L) (h9 : f ≠ 193) (i j : Nat) : cAr t f i j = cAr s f i j := by rw [cAr, cAr, (h.1 f hf h9).2.2.1]
theorem cd_frL {L R : List Nat} {s t : cd_S} (h : cd_fr L R s t) {f : Nat} (hf : f ∉ L) (h9 : f ≠ 193) (i j : Nat) : cLr t f i j = cLr s f i j := by rw [cLr, cLr, (h.1 f hf h9).2.2.2.1]
theorem cd_frP {L R : List Nat} {s t : cd_S} (h : cd_fr L R s t) {f : Nat} (hf : f ∉ L) (h9 : f ≠ 193) (i : Nat) : cP t f i = cP s f i := by rw [cP, cP, (h.1 f hf h9).2.2.2.2]
theorem cd_frz {L R : List Nat} {s t : cd_S} (h : cd_fr L R s t) {r : Nat} (hr : r ∉ R) : cI t 193 r = cI s 193 r := (h.2 r hr).1.symm
theorem cd_frC {L R : List Nat} {s t : cd_S} (h : cd_fr L R s t) {r : Nat} (hr : r ∉ R) : cRC t r = cRC s r := (h.2 r hr).2.1.symm
theorem cd_frF {L R : List Nat} {s t : cd_S} (h : cd_fr L R s t) {r : Nat} (hr : r ∉ R) (j : Nat) : cRF t r j = cRF s r j := by rw [cRF, cRF, (h.2 r hr).2.2]
theorem cd_fr_SI {L R : List Nat} {s t : cd_S} (h : cd_fr L R s t) {f : Nat} (hf : f ∈ L) (h9 : f ≠ 193) (i : Nat) (v : Int32) : cd_fr L R s (cSI t f i v) := ⟨fun g hg h8 => by
  obtain ⟨a1, a2, a3, a4, a5⟩ := h.1 g hg h8
  refine ⟨?_, a2, a3, a4, a5⟩
  funext j
  show s.1 g j = if g = f ∧ j = i then v else t.1 g j
  rw [if_neg (fun e => hg (by rw [e.1]; exact hf)), a1], fun r hr => by
  obtain ⟨a1, a2, a3⟩ := h.2 r hr
  refine ⟨?_, a2, a3⟩
  show s.1 193 r = if 193 = f ∧ r = i then v else t.1 193 r
  rw [if_neg (fun e => h9 e.1.symm), a1]⟩
theorem cd_fr_SZ {L R : List Nat} {s t : cd_S} (h : cd_fr L R s t) {r : Nat} (hr : r ∈ R) (v : Int32) : cd_fr L R s (cSI t 193 r v) := ⟨fun g hg h8 => by
  obtain ⟨a1, a2, a3, a4, a5⟩ := h.1 g hg h8
  refine ⟨?_, a2, a3, a4, a5⟩
  funext j
  show s.1 g j = if g = 193 ∧ j = r then v else t.1 g j
  rw [if_neg (fun e => h8 e.1), a1], fun i hi => by
  obtain ⟨a1, a2, a3⟩ := h.2 i hi
  refine ⟨?_, a2, a3⟩
  show s.1 193 i = if 193 = 193 ∧ i = r then v else t.1 193 i
  rw [if_neg (fun e => hi (by rw [e.2]; exact hr)), a1]⟩
theorem cd_fr_SJ {L R : List Nat} {s t : cd_S} (h : cd_fr L R s t) {f : Nat} (hf : f ∈ L) (i : Nat) (v : Int64) : cd_fr L R s (cSJ t f i v) := ⟨fun g hg h8 => by
  obtain ⟨a1, a2, a3, a4, a5⟩ := h.1 g hg h8
  refine ⟨a1, ?_, a3, a4, a5⟩
  funext j
  show s.2.1 g j = if g = f ∧ j = i then v else t.2.1 g j
  rw [if_neg (fun e => hg (by rw [e.1]; exact hf)), a2], fun r hr => h.2 r hr⟩
theorem cd_fr_SA {L R : List Nat} {s t : cd_S} (h : cd_fr L R s t) {f : Nat} (hf : f ∈ L) (i x : Nat) (v : Int32) : cd_fr L R s (cSA t f i x v) := ⟨fun g hg h8 => by
  obtain ⟨a1, a2, a3, a4, a5⟩ := h.1 g hg h8
  refine ⟨a1, a2, ?_, a4, a5⟩
  funext j
  show s.2.2.1 g j = if g = f ∧ j = i then upd (t.2.2.1 f i) x v else t.2.2.1 g j
  rw [if_neg (fun e => hg (by rw [e.1]; exact hf)), a3], fun r hr => h.2 r hr⟩
theorem cd_fr_SL {L R : List Nat} {s t : cd_S} (h : cd_fr L R s t) {f : Nat} (hf : f ∈ L) (i x : Nat) (v : Int64) : cd_fr L R s (cSL t f i x v) := ⟨fun g hg h8 => by
  obtain ⟨a1, a2, a3, a4, a5⟩ := h.1 g hg h8
  refine ⟨a1, a2, a3, ?_, a5⟩
  funext j
  show s.2.2.2.1 g j = if g = f ∧ j = i then vp_updL (t.2.2.2.1 f i) x v else t.2.2.2.1 g j
  rw [if_neg (fun e => hg (by rw [e.1]; exact hf)), a4], fun r hr => h.2 r hr⟩
theorem cd_fr_SP {L R : List Nat} {s t : cd_S} (h : cd_fr L R s t) {f : Nat} (hf : f ∈ L) (i v : Nat) : cd_fr L R s (cSP t f i v) := ⟨fun g hg h8 => by
  obtain ⟨a1, a2, a3, a4, a5⟩ := h.1 g hg h8
  refine ⟨a1, a2, a3, a4, ?_⟩
  funext j
  show s.2.2.2.2.1 g j = if g = f ∧ j = i then v else t.2.2.2.2.1 g j
  rw [if_neg (fun e => hg (by rw [e.1]; exact hf)), a5], fun r hr => h.2 r hr⟩
theorem cd_fr_SF {L R : List Nat} {s t : cd_S} (h : cd_fr L R s t) {r : Nat} (hr : r ∈ R) (x : Nat) (v : Int64) : cd_fr L R s (cSF t r x v) := ⟨h.1, fun i hi => by
  obtain ⟨a1, a2, a3⟩ := h.2 i hi
  refine ⟨a1, a2, ?_⟩
  show s.2.2.2.2.2.2 i = if i = r then vp_updL (t.2.2.2.2.2.2 r) x v else t.2.2.2.2.2.2 i
  rw [if_neg (fun e => hi (by rw [e]; exact hr)), a3]⟩
theorem cd_fr_add {L R : List Nat} {s t : cd_S} (h : cd_fr L R s t) {r : Nat} (hr : r ∈ R) (v : Int64) : cd_fr L R s (rAdd t r v) := by
  unfold rAdd
  refine cd_fr_SZ (cd_fr_SF ?_ hr _ _) hr _
  split
  · exact h
  · refine ⟨h.1, fun i hi => ?_⟩
    obtain ⟨a1, a2, a3⟩ := h.2 i hi
    refine ⟨a1, ?_, ?_⟩
    · show s.2.2.2.2.2.1 i = if i = r then _ else t.2.2.2.2.2.1 i
      rw [if_neg (fun e => hi (by rw [e]; exact hr)), a2]
    · show s.2.2.2.2.2.2 i = if i = r then _ else t.2.2.2.2.2.2 i
      rw [if_neg (fun e => hi (by rw [e]; exact hr)), a3]
theorem Bd.fr {C : Nat × Nat} {L : List Nat} {s t : cd_S} {b : cd_B} (h : Bd C s b) (hf : cd_fr L [] s t) : Bd C t b :=
  h.of (fun r _ => cd_frz hf (by simp)) (fun r _ => cd_frC hf (by simp))
/-- byte c / 8 of an int -/
def by8 (w : Int32) (c : Nat) : Int32 := (w >>> nI c) &&& 255
theorem by8_cls (w : Int32) (c : Nat) (hc : c = 24 ∨ c = 16 ∨ c = 8 ∨ c = 0) : vp_nar .byte ((w.toUInt32 >>> ((nI c).toUInt32 &&& Int32.toUInt32 31)).toInt32.toInt8.toInt32) &&& 255 = by8 w c := by
  sorry
