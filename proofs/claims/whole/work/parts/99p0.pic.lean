/-! WHAT A CONSTRUCTOR MAKES, whole: the cell h is filled, and the new cells L stand, all apart -/
def nw (h : Nat) (g u : hp_M) (L : List Nat) : Prop :=
  g h ≠ none ∧ u h ≠ none ∧ hp_extX h g u ∧ (∀ a ∈ L, g a = none ∧ u a ≠ none) ∧ L.Nodup
theorem nw.rf {h : Nat} {g : hp_M} (hh : g h ≠ none) : nw h g g [] :=
  ⟨hh, hh, fun _ _ _ q => q, fun _ q => (nomatch q), List.nodup_nil⟩
theorem hp_some {g : hp_M} {a : Nat} (h : g a ≠ none) : ∃ e, g a = some e := by
  cases q : g a with
  | none => exact absurd q h
  | some e => exact ⟨e, rfl⟩
theorem hp_up_nn {g u : hp_M} {a b : Nat} {e : va_E} (hu : u = hp_up g a e) (h : b = a ∨ g b ≠ none) : u b ≠ none := by
  rw [hu]
  unfold hp_up
  by_cases q : b = a
  · rw [if_pos q]; exact fun r => nomatch r
  · rw [if_neg q]; exact h.resolve_left q
theorem nw.nb {h : Nat} {g u : hp_M} {L : List Nat} (w : nw h g u L) {b : Nat} (hb : u b = none) : g b = none := by
  cases q : g b with
  | none => rfl
  | some e =>
    by_cases r : b = h
    · rw [r] at hb; exact absurd hb w.2.1
    · rw [w.2.2.1 b e r q] at hb; cases hb
theorem nw.nh {h : Nat} {g u : hp_M} {L : List Nat} (w : nw h g u L) {a : Nat} (ha : a ∈ L) : a ≠ h := fun q => by
  have := (w.2.2.2.1 a ha).1
  rw [q] at this
  exact w.1 this
theorem nw.new {h q : Nat} {g gi u : hp_M} {e : va_E} {L : List Nat} (w : nw h g gi L) (hq : gi q = none) (hu : u = hp_up gi q e) : nw h g u (q :: L) := by
  refine ⟨w.1, hp_up_nn hu (Or.inr w.2.1), fun b x hb hg => ?_, fun a ha => ?_, List.nodup_cons.mpr ⟨fun m => (w.2.2.2.1 q m).2 hq, w.2.2.2.2⟩⟩
  · have h1 := w.2.2.1 b x hb hg
    rw [hu]; exact (hp_up_ne _ _ (hp_neN h1 hq)).trans h1
  · rcases List.mem_cons.mp ha with r | r
    · rw [r]; exact ⟨w.nb hq, hp_up_nn hu (Or.inl rfl)⟩
    · exact ⟨(w.2.2.2.1 a r).1, hp_up_nn hu (Or.inr (w.2.2.2.1 a r).2)⟩
theorem nw.put {h b : Nat} {g gi u : hp_M} {e : va_E} {L : List Nat} (w : nw h g gi L) (hb : b = h ∨ b ∈ L) (hu : u = hp_up gi b e) : nw h g u L := by
  refine ⟨w.1, hp_up_nn hu (Or.inr w.2.1), fun c x hc hg => ?_, fun a ha => ⟨(w.2.2.2.1 a ha).1, hp_up_nn hu (Or.inr (w.2.2.2.1 a ha).2)⟩, w.2.2.2.2⟩
  have h1 := w.2.2.1 c x hc hg
  rw [hu]
  refine (hp_up_ne _ _ (fun r => ?_)).trans h1
  rcases hb with q | q
  · exact hc (r.trans q)
  · have := (w.2.2.2.1 b q).1
    rw [← r, hg] at this
    cases this
theorem nw.more {h : Nat} {g gi u : hp_M} {L R : List Nat} (w : nw h g gi L) (hh : u h ≠ none) (hx : ∀ b e, b ≠ h → g b = some e → u b = some e) (hL : ∀ a ∈ L, u a ≠ none) (hR : ∀ a ∈ R, gi a = none ∧ u a ≠ none) (hn : R.Nodup) : nw h g u (R ++ L) := by
  refine ⟨w.1, hh, hx, fun a ha => ?_, List.nodup_append.mpr ⟨hn, w.2.2.2.2, fun a ha b hb q => ?_⟩⟩
  · rcases List.mem_append.mp ha with r | r
    · exact ⟨w.nb (hR a r).1, (hR a r).2⟩
    · exact ⟨(w.2.2.2.1 a r).1, hL a r⟩
  · rw [q] at ha
    exact (w.2.2.2.1 b hb).2 (hR b ha).1
theorem nw.call {h q : Nat} {g gi u : hp_M} {L R : List Nat} (w : nw h g gi L) (hq : q ∈ L) (v : nw q gi u R) : nw h g u (R ++ L) := by
  have keep : ∀ b, gi b ≠ none → u b ≠ none := fun b hb => by
    by_cases r : b = q
    · rw [r]; exact v.2.1
    · obtain ⟨e, he⟩ := hp_some hb
      rw [v.2.2.1 b e r he]; exact fun r => nomatch r
  refine w.more (keep h w.2.1) (fun b e hb hg => v.2.2.1 b e (fun r => ?_) (w.2.2.1 b e hb hg)) (fun a ha => keep a (w.2.2.2.1 a ha).2) v.2.2.2.1 v.2.2.2.2
  have := (w.2.2.2.1 q hq).1
  rw [← r, hg] at this
  cases this
/-- the same of a method that writes nothing old -/
def nvv (g u : hp_M) (L : List Nat) : Prop := hp_ext g u ∧ (∀ a ∈ L, g a = none ∧ u a ≠ none) ∧ L.Nodup
theorem nw.ext {h : Nat} {g gi u : hp_M} {L R : List Nat} (w : nw h g gi L) (v : nvv gi u R) : nw h g u (R ++ L) := by
  have keep : ∀ b, gi b ≠ none → u b ≠ none := fun b hb => by
    obtain ⟨e, he⟩ := hp_some hb
    rw [v.1 b e he]; exact fun r => nomatch r
  exact w.more (keep h w.2.1) (fun b e hb hg => v.1 b e (w.2.2.1 b e hb hg)) (fun a ha => keep a (w.2.2.2.1 a ha).2) v.2.1 v.2.2
theorem nw.nvv {h : Nat} {g g1 u : hp_M} {e : va_E} {L : List Nat} (hq : g h = none) (e1 : g1 = hp_up g h e) (w : nw h g1 u L) : nvv g u (L ++ [h]) := by
  refine ⟨fun b x hg => w.2.2.1 b x (hp_neN hg hq) ?_, fun a ha => ?_, List.nodup_append.mpr ⟨w.2.2.2.2, by simp, fun a ha b hb q => ?_⟩⟩
  · rw [e1]; exact (hp_up_ne _ _ (hp_neN hg hq)).trans hg
  · rcases List.mem_append.mp ha with r | r
    · exact ⟨hp_up_none e1 (w.2.2.2.1 a r).1, (w.2.2.2.1 a r).2⟩
    · rw [List.mem_singleton.mp r]; exact ⟨hq, w.2.1⟩
  · exact w.nh ha (q.trans (List.mem_singleton.mp hb))
/-- a cell of L stays while only h and new cells are written -/
theorem nw.keep {h a : Nat} {g gi u : hp_M} {e : va_E} {L : List Nat} (w : nw h g gi L) (ha : a ∈ L) (he : gi a = some e) (hx : hp_extX h gi u) : u a = some e := hx a e (w.nh ha) he
/-- the addresses of a pool -/
def plL (w : Nat) (P : Nat → Nat → Nat) : Nat → List Nat
  | 0 => []
  | n + 1 => (List.range (w - 1)).map (fun j => P n (j + 1)) ++ (P n 0 :: plL w P n)
theorem plL_congr {w : Nat} {P Q : Nat → Nat → Nat} : ∀ n, (∀ a, a < n → P a = Q a) → plL w P n = plL w Q n
  | 0, _ => rfl
  | n + 1, h => by
    unfold plL
    rw [h n (Nat.lt_succ_self n), plL_congr n (fun a ha => h a (Nat.lt_succ_of_lt ha))]
theorem plL_mem {w : Nat} {P : Nat → Nat → Nat} {i j : Nat} (hj : j < w) : ∀ n, i < n → P i j ∈ plL w P n
  | 0, h => absurd h (Nat.not_lt_zero _)
  | n + 1, h => by
    unfold plL
    by_cases q : i = n
    · subst q
      cases j with
      | zero => exact List.mem_append_right _ List.mem_cons_self
      | succ j => exact List.mem_append_left _ (List.mem_map.mpr ⟨j, List.mem_range.mpr (by omega), rfl⟩)
    · exact List.mem_append_right _ (List.mem_cons_of_mem _ (plL_mem hj n (by omega)))
theorem nodup_mapI {f : Nat → Nat} : ∀ n, (∀ i j, i < n → j < n → f i = f j → i = j) → ((List.range n).map f).Nodup
  | 0, _ => by simp
  | n + 1, h => by
    rw [List.range_succ, List.map_append]
    refine List.nodup_append.mpr ⟨nodup_mapI n (fun i j a b => h i j (by omega) (by omega)), by simp, fun a ha b hb q => ?_⟩
    obtain ⟨i, hi, rfl⟩ := List.mem_map.mp ha
    have hb : b = f n := by simpa using hb
    have hi := List.mem_range.mp hi
    have := h i n (by omega) (by omega) (q.trans hb)
    omega
/-- what a constructor without parameters has made, by its parts -/
theorem pl_made.nw {w : Nat} {K : (Nat → Nat) → Nat → va_E} {h : Nat} {g u : hp_M} (hw : 0 < w) (hh : g h ≠ none) (m : pl_made w K h g u) : ∃ p : Nat → Nat, p 0 = h ∧ pl_is w K u p ∧ nw h g u ((List.range (w - 1)).map (fun j => p (j + 1))) := by
  obtain ⟨p, p0, his, hn, hij, hx⟩ := m
  have some_ : ∀ j, j < w → u (p j) ≠ none := fun j hj => by rw [his j hj]; exact fun r => nomatch r
  refine ⟨p, p0, his, hh, by rw [← p0]; exact some_ 0 hw, hx, fun a ha => ?_, nodup_mapI _ (fun i j a b q => ?_)⟩
  · obtain ⟨j, hj, rfl⟩ := List.mem_map.mp ha
    have hj := List.mem_range.mp hj
    exact ⟨hn (j + 1) (by omega) (by omega), some_ _ (by omega)⟩
  · have := hij (i + 1) (j + 1) (by omega) (by omega) q
    omega
/-- the cell of an array of things: exactly these -/
def pl_row (P : Nat → Nat → Nat) (n : Nat) : Nat → Option Nat := fun j => if j < n then some (P j 0) else none
/-- an array q of N places is being filled with new things; i are there -/
def pl_fil (w k N : Nat) (K : (Nat → Nat) → Nat → va_E) (cA : Nat → ClassId) (gE : hp_M) (q i : Nat) (gi : hp_M) : Prop :=
  ∃ P : Nat → Nat → Nat, gi q = some (.inl (cA k, N, .inr (.inr (.inr (.inr (pl_row P i)))))) ∧ (∀ a, a < i → pl_is w K gi (P a)) ∧ nw q gE gi (plL w P i)
theorem pl_row0 (P : Nat → Nat → Nat) : pl_row P 0 = fun _ => none := by
  funext j
  unfold pl_row
  rw [if_neg (Nat.not_lt_zero _)]
theorem pl_fil.start {w k N : Nat} {K : (Nat → Nat) → Nat → va_E} {cA : Nat → ClassId} {gE : hp_M} {q : Nat} (h : gE q = some (.inl (cA k, N, .inr (.inr (.inr (.inr (fun _ => none))))))) : pl_fil w k N K cA gE q 0 gE :=
  ⟨fun _ _ => 0, by rw [pl_row0]; exact h, fun _ h => absurd h (Nat.not_lt_zero _), nw.rf (by rw [h]; exact fun r => nomatch r)⟩
theorem pl_fil.step {w k N : Nat} {K : (Nat → Nat) → Nat → va_E} {cA : Nat → ClassId} {gE gi g1 u g2 : hp_M} {q i q2 : Nat} {e : va_E} {P : Nat → Nat → Nat} {r2 : Nat → Option Nat} (h1 : gi q = some (.inl (cA k, N, .inr (.inr (.inr (.inr (pl_row P i))))))) (h2 : ∀ a, a < i → pl_is w K gi (P a)) (h4 : nw q gE gi (plL w P i))
    (n2 : gi q2 = none) (e1 : g1 = hp_up gi q2 e) (hm : pl_made w K q2 g1 u) (hr : r2 = va_up (pl_row P i) i (some q2)) (e2 : g2 = hp_up u q (.inl (cA k, N, .inr (.inr (.inr (.inr r2)))))) (hw : 0 < w) : pl_fil w k N K cA gE q (i + 1) g2 := by
  obtain ⟨p, p0, his, hn⟩ := hm.nw hw (by rw [e1, hp_up_self]; exact fun r => nomatch r)
  have w1 := h4.new n2 e1
  have w2 := w1.call List.mem_cons_self hn
  have w3 := w2.put (Or.inl rfl) e2
  let P' : Nat → Nat → Nat := fun a => if a = i then p else P a
  have hP : ∀ a, a < i → P' a = P a := fun a ha => if_neg (by omega)
  have hPi : P' i = p := if_pos rfl
  have hL : plL w P' (i + 1) = (List.range (w - 1)).map (fun j => p (j + 1)) ++ (q2 :: plL w P i) := by
    show (List.range (w - 1)).map (fun j => P' i (j + 1)) ++ (P' i 0 :: plL w P' i) = _
    rw [hPi, p0, plL_congr i hP]
  rw [← hL] at w3 w2
  refine ⟨P', ?_, fun a ha j hj => ?_, w3⟩
  · have hrow : va_up (pl_row P i) i (some q2) = pl_row P' (i + 1) := by
      funext j
      unfold pl_row
      by_cases hj : j = i
      · rw [hj, va_up_self, if_pos (Nat.lt_succ_self i), hPi, p0]
      · rw [va_up_ne _ _ hj]
        by_cases hj2 : j < i
        · rw [if_pos hj2, if_pos (by omega), hP j hj2]
        · rw [if_neg hj2, if_neg (by omega)]
    rw [e2, hp_up_self, hr, hrow]
  · have hne := w2.nh (plL_mem (P := P') hj (i + 1) ha)
    rw [e2]
    refine (hp_up_ne _ _ hne).trans ?_
    by_cases hai : a = i
    · subst hai
      rw [hPi]; exact his j hj
    · have ha2 : a < i := by omega
      rw [hP a ha2]
      have hg := h2 a ha2 j hj
      have x1 : g1 (P a j) = some (K (P a) j) := by rw [e1]; exact (hp_up_ne _ _ (hp_neN hg n2)).trans hg
      exact hn.2.2.1 _ _ (hp_neN hg n2) x1
/-- a pool stays while only h and new cells are written -/
theorem nw.keepP {h w N : Nat} {K : (Nat → Nat) → Nat → va_E} {g gi u : hp_M} {P : Nat → Nat → Nat} {L : List Nat} (v : nw h g gi L) (hm : ∀ a ∈ plL w P N, a ∈ L) (hp : ∀ a, a < N → pl_is w K gi (P a)) (hx : hp_extX h gi u) : ∀ a, a < N → pl_is w K u (P a) :=
  fun a ha j hj => v.keep (hm _ (plL_mem hj N ha)) (hp a ha j hj) hx
theorem hp_neC {u : hp_M} {x y : Nat} {e f : va_E} (hx : u x = some e) (hy : u y = some f) (hn : e ≠ f) : x ≠ y := fun q => by
  rw [q, hy] at hx
  exact hn (Option.some.inj hx).symm
/-- the same of the words, whose cells are of different kinds -/
theorem nw_words {cA : Nat → ClassId} {h : Nat} {g u : hp_M} {a : Nat → Nat} {kf : Nat → Int64} {eh : va_E} (hh : g h ≠ none) (uh : u h = some eh) (hx : hp_extX h g u)
    (w0 : u (a 0) = some (.inl (cA 2, 23, .inr (.inl kf)))) (w1 : u (a 1) = some (.inr (6, [.ref (a 11), .int 0]))) (w11 : u (a 11) = some (.inl (cA 2, 192, .inr (.inl (fun _ => 0))))) (w2 : u (a 2) = some (.inr (6, [.ref (a 12), .int 0]))) (w12 : u (a 12) = some (.inl (cA 2, 64, .inr (.inl (fun _ => 0))))) (w3 : u (a 3) = some (.inl (cA 0, 1, .inl (fun _ => 0)))) (wne : a 1 ≠ a 2)
    (n0 : g (a 0) = none) (n1 : g (a 1) = none) (n2 : g (a 2) = none) (n3 : g (a 3) = none) (n11 : g (a 11) = none) (n12 : g (a 12) = none) : nw h g u [a 0, a 1, a 11, a 2, a 12, a 3] := by
  refine ⟨hh, (by rw [uh]; exact fun r => (nomatch r)), hx, fun x hm => ?_, ?_⟩
  · have hn : ∀ {e : va_E} {x : Nat}, u x = some e → u x ≠ none := fun q => by rw [q]; exact fun r => nomatch r
    rcases List.mem_cons.mp hm with r | hm
    · rw [r]; exact ⟨n0, hn w0⟩
    rcases List.mem_cons.mp hm with r | hm
    · rw [r]; exact ⟨n1, hn w1⟩
    rcases List.mem_cons.mp hm with r | hm
    · rw [r]; exact ⟨n11, hn w11⟩
    rcases List.mem_cons.mp hm with r | hm
    · rw [r]; exact ⟨n2, hn w2⟩
    rcases List.mem_cons.mp hm with r | hm
    · rw [r]; exact ⟨n12, hn w12⟩
    rcases List.mem_cons.mp hm with r | hm
    · rw [r]; exact ⟨n3, hn w3⟩
    · exact nomatch hm
  · have e01 := hp_neC w0 w1 (by simp)
    have e011 := hp_neC w0 w11 (by simp)
    have e02 := hp_neC w0 w2 (by simp)
    have e012 := hp_neC w0 w12 (by simp)
    have e03 := hp_neC w0 w3 (by simp)
    have e111 := hp_neC w1 w11 (by simp)
    have e112 := hp_neC w1 w12 (by simp)
    have e13 := hp_neC w1 w3 (by simp)
    have e112' := hp_neC w11 w2 (by simp)
    have e1112 := hp_neC w11 w12 (by simp)
    have e113 := hp_neC w11 w3 (by simp)
    have e212 := hp_neC w2 w12 (by simp)
    have e23 := hp_neC w2 w3 (by simp)
    have e123 := hp_neC w12 w3 (by simp)
    simp only [List.nodup_cons, List.mem_cons, List.not_mem_nil, not_or, List.nodup_nil, not_false_eq_true, and_true]
    exact ⟨⟨e01, e011, e02, e012, e03⟩, ⟨e111, wne, e112, e13⟩, ⟨e112', e1112, e113⟩, ⟨e212, e23⟩, e123⟩
theorem un_ix0 : un_ix 0 = 0 := by decide
/-- the same, with the cells -/
def nwc (h : Nat) (g u : hp_M) (L : List (Nat × va_E)) : Prop := nw h g u (L.map Prod.fst) ∧ ∀ x ∈ L, u x.1 = some x.2
theorem nwc.rf {h : Nat} {g : hp_M} (hh : g h ≠ none) : nwc h g g [] := ⟨nw.rf hh, fun _ q => nomatch q⟩
theorem nwc.new {h q : Nat} {g gi u : hp_M} {e : va_E} {L : List (Nat × va_E)} (w : nwc h g gi L) (hq : gi q = none) (hu : u = hp_up gi q e) : nwc h g u ((q, e) :: L) := by
  refine ⟨w.1.new hq hu, fun x hx => ?_⟩
  rcases List.mem_cons.mp hx with r | r
  · rw [r, hu]; exact hp_up_self _ _ _
  · rw [hu]; exact (hp_up_ne _ _ (hp_neN (w.2 x r) hq)).trans (w.2 x r)
theorem nwc.puth {h : Nat} {g gi u : hp_M} {e : va_E} {L : List (Nat × va_E)} (w : nwc h g gi L) (hu : u = hp_up gi h e) : nwc h g u L := by
  refine ⟨w.1.put (Or.inl rfl) hu, fun x hx => ?_⟩
  rw [hu]; exact (hp_up_ne _ _ (w.1.nh (List.mem_map.mpr ⟨x, hx, rfl⟩))).trans (w.2 x hx)
