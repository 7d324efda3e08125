/-! sets of bits: which of them are least; lists of them in order -/
def sbs (a b : Int32) : Prop := a &&& b = a
theorem sbs_rf (a : Int32) : sbs a a := Int32.and_self
theorem sbs.tr {a b c : Int32} (h1 : sbs a b) (h2 : sbs b c) : sbs a c := by
  unfold sbs at *
  calc a &&& c = (a &&& b) &&& c := by rw [h1]
    _ = a &&& (b &&& c) := Int32.and_assoc _ _ _
    _ = a &&& b := by rw [h2]
    _ = a := h1
theorem sbs.anti {a b : Int32} (h1 : sbs a b) (h2 : sbs b a) : a = b := by
  unfold sbs at *
  calc a = a &&& b := h1.symm
    _ = b &&& a := Int32.and_comm _ _
    _ = b := h2
theorem sbs_iff {a b : Int32} : sbs a b ↔ ∀ i, i < 32 → bt a i = true → bt b i = true := by
  constructor
  · intro h i _ hi
    rw [← show a &&& b = a from h, bt_and] at hi
    exact (Bool.and_eq_true _ _ ▸ hi).2
  · intro h
    refine bt_ext (fun i hi => ?_)
    rw [bt_and]
    cases e : bt a i
    · rfl
    · rw [h i hi e]; rfl
theorem sbs.or {a b : Int32} (d : Int32) (h : sbs a b) : sbs (a ||| d) (b ||| d) := by
  rw [sbs_iff] at *
  intro i hi e
  rw [bt_or] at *
  cases e1 : bt a i
  · rw [e1] at e
    cases e2 : bt d i
    · rw [e2] at e; exact absurd e (by decide)
    · cases bt b i <;> rfl
  · rw [h i hi e1]; rfl
theorem bt_m1 : ∀ i : Fin 32, bt (-1) i.val = true := by decide
theorem sbs_c {y x : Int32} : (y &&& (x ^^^ (-1)) = 0) ↔ sbs y x := by
  have hx : ∀ i, i < 32 → bt (x ^^^ (-1)) i = !(bt x i) := by
    intro i hi
    have e : bt (x ^^^ (-1)) i = (bt x i ^^ bt (-1) i) := by unfold bt; rw [Int32.toBitVec_xor, BitVec.getLsbD_xor]
    rw [e, bt_m1 ⟨i, hi⟩]
    cases bt x i <;> rfl
  rw [sbs_iff]
  constructor
  · intro h i hi e
    have h2 : bt (y &&& (x ^^^ (-1))) i = bt 0 i := by rw [h]
    rw [bt_and, hx i hi, e, bt_zero] at h2
    cases e3 : bt x i
    · rw [e3] at h2; exact absurd h2 (by decide)
    · rfl
  · intro h
    refine bt_ext (fun i hi => ?_)
    rw [bt_and, hx i hi, bt_zero]
    cases e : bt y i
    · rfl
    · rw [h i hi e]; rfl
def inc (x y : Int32) : Prop := ¬ sbs x y ∧ ¬ sbs y x
/-- R: what of S is least -/
def AC (S R : List Int32) : Prop := (∀ x, x ∈ R → x ∈ S) ∧ (∀ z, z ∈ S → ∃ y, y ∈ R ∧ sbs y z) ∧ R.Pairwise inc
def so (R : List Int32) : Prop := R.Pairwise (fun x y => x.toInt ≤ y.toInt)
theorem pw_mem {P : Int32 → Int32 → Prop} (hP : ∀ x y, P x y → P y x) : ∀ {l : List Int32}, l.Pairwise P → ∀ {x y : Int32}, x ∈ l → y ∈ l → x ≠ y → P x y
  | [], _, _, _, h, _, _ => absurd h (by simp)
  | a :: l, hp, x, y, hx, hy, hn => by
    rw [List.pairwise_cons] at hp
    rcases List.mem_cons.mp hx with e | hx
    · rcases List.mem_cons.mp hy with e2 | hy
      · exact absurd (e.trans e2.symm) hn
      · rw [e]; exact hp.1 y hy
    · rcases List.mem_cons.mp hy with e2 | hy
      · rw [e2]; exact hP _ _ (hp.1 x hx)
      · exact pw_mem hP hp.2 hx hy hn
theorem AC.un {S R : List Int32} (h : AC S R) {x y : Int32} (hx : x ∈ R) (hy : y ∈ R) (hs : sbs x y) : x = y := by
  by_cases e : x = y
  · exact e
  · exact absurd hs (pw_mem (fun _ _ q => ⟨q.2, q.1⟩) h.2.2 hx hy e).1
theorem AC.sub {S R R' : List Int32} (h : AC S R) (h' : AC S R') {x : Int32} (hx : x ∈ R) : x ∈ R' := by
  obtain ⟨y, hy, e1⟩ := h'.2.1 x (h.1 x hx)
  obtain ⟨z, hz, e2⟩ := h.2.1 y (h'.1 y hy)
  have e3 := h.un hz hx (e2.tr e1)
  rw [e3] at e2
  rw [e2.anti e1]
  exact hy
theorem srt_eq : ∀ {l l' : List Int32}, l.Pairwise (fun x y => x.toInt < y.toInt) → l'.Pairwise (fun x y => x.toInt < y.toInt) → (∀ x, x ∈ l ↔ x ∈ l') → l = l'
  | [], [], _, _, _ => rfl
  | [], y :: l', _, _, h => absurd ((h y).mpr (by simp)) (by simp)
  | x :: l, [], _, _, h => absurd ((h x).mp (by simp)) (by simp)
  | x :: l, y :: l', h1, h2, h => by
    rw [List.pairwise_cons] at h1 h2
    have e : x = y := by
      rcases List.mem_cons.mp ((h x).mp (by simp)) with e | e
      · exact e
      · rcases List.mem_cons.mp ((h y).mpr (by simp)) with e2 | e2
        · exact e2.symm
        · have := h1.1 y e2; have := h2.1 x e; omega
    subst e
    congr 1
    refine srt_eq h1.2 h2.2 (fun z => ⟨fun hz => ?_, fun hz => ?_⟩)
    · rcases List.mem_cons.mp ((h z).mp (by simp [hz])) with e | e
      · rw [e] at hz; have := h1.1 x hz; omega
      · exact e
    · rcases List.mem_cons.mp ((h z).mpr (by simp [hz])) with e | e
      · rw [e] at hz; have := h2.1 x hz; omega
      · exact e
theorem AC.st {S R : List Int32} (h : AC S R) (hs : so R) : R.Pairwise (fun x y => x.toInt < y.toInt) := by
  have h2 : R.Pairwise (fun x y => x.toInt ≤ y.toInt ∧ inc x y) := List.pairwise_and_iff.mpr ⟨hs, h.2.2⟩
  refine h2.imp (fun {x y} q => ?_)
  have hne : x.toInt ≠ y.toInt := fun e => by
    have e2 := Int32.toInt_inj.mp e
    rw [e2] at q
    exact q.2.1 (sbs_rf y)
  have := q.1
  omega
theorem AC.eq {S R R' : List Int32} (h : AC S R) (h' : AC S R') (hs : so R) (hs' : so R') : R = R' :=
  srt_eq (h.st hs) (h'.st hs') (fun _ => ⟨h.sub h', h'.sub h⟩)
theorem AC.perm {S R R' : List Int32} (h : AC S R) (p : R'.Perm R) : AC S R' :=
  ⟨fun x hx => h.1 x (p.mem_iff.mp hx), fun z hz => (by obtain ⟨y, hy, e⟩ := h.2.1 z hz; exact ⟨y, p.mem_iff.mpr hy, e⟩), (p.pairwise_iff (fun q => ⟨q.2, q.1⟩)).mpr h.2.2⟩
theorem AC.keep {S L : List Int32} {a y : Int32} (h : AC S L) (hy : y ∈ L) (hs : sbs y a) : AC (S ++ [a]) L := by
  refine ⟨fun x hx => List.mem_append_left _ (h.1 x hx), fun z hz => ?_, h.2.2⟩
  rcases List.mem_append.mp hz with q | q
  · exact h.2.1 z q
  · rw [List.mem_singleton.mp q]; exact ⟨y, hy, hs⟩
theorem AC.put {S L : List Int32} {a : Int32} (h : AC S L) (hn : ∀ y, y ∈ L → ¬ sbs y a) : AC (S ++ [a]) (a :: L.filter (fun x => decide (¬ (a &&& x = a)))) := by
  refine ⟨fun x hx => ?_, fun z hz => ?_, ?_⟩
  · rcases List.mem_cons.mp hx with q | q
    · rw [q]; simp
    · exact List.mem_append_left _ (h.1 x (List.mem_filter.mp q).1)
  · rcases List.mem_append.mp hz with q | q
    · obtain ⟨y, hy, e⟩ := h.2.1 z q
      by_cases ha : sbs a y
      · exact ⟨a, by simp, ha.tr e⟩
      · exact ⟨y, List.mem_cons_of_mem _ (List.mem_filter.mpr ⟨hy, decide_eq_true ha⟩), e⟩
    · rw [List.mem_singleton.mp q]; exact ⟨a, by simp, sbs_rf a⟩
  · rw [List.pairwise_cons]
    refine ⟨fun y hy => ?_, h.2.2.sublist List.filter_sublist⟩
    obtain ⟨h1, h2⟩ := List.mem_filter.mp hy
    have h3 : ¬ (a &&& y = a) := of_decide_eq_true h2
    exact ⟨h3, hn y h1⟩
theorem ins_so {l : List Int32} {a : Int32} {j : Nat} (hs : so l) (h1 : ∀ i (h : i < l.length), i < j → l[i].toInt ≤ a.toInt) (h2 : ∀ i (h : i < l.length), j ≤ i → a.toInt ≤ l[i].toInt) : so (l.take j ++ a :: l.drop j) := by
  have g1 : ∀ x, x ∈ l.take j → x.toInt ≤ a.toInt := fun x hx => by
    obtain ⟨i, hi, e⟩ := List.mem_take_iff_getElem.mp hx
    rw [← e]; exact h1 i (by omega) (by omega)
  have g2 : ∀ x, x ∈ l.drop j → a.toInt ≤ x.toInt := fun x hx => by
    obtain ⟨i, hi, e⟩ := List.mem_drop_iff_getElem.mp hx
    rw [← e]; exact h2 _ (by omega) (by omega)
  unfold so at *
  rw [List.pairwise_append]
  refine ⟨hs.sublist (List.take_sublist _ _), ?_, fun x hx y hy => ?_⟩
  · rw [List.pairwise_cons]
    exact ⟨g2, hs.sublist (List.drop_sublist _ _)⟩
  · rcases List.mem_cons.mp hy with q | q
    · rw [q]; exact g1 x hx
    · have := g1 x hx; have := g2 y q; omega
theorem ins_pm {l : List Int32} {a : Int32} {j : Nat} : (l.take j ++ a :: l.drop j).Perm (a :: l) := by
  have h := List.perm_middle (a := a) (l₁ := l.take j) (l₂ := l.drop j)
  rw [List.take_append_drop] at h
  exact h
/-- an array that begins with a list -/
def RLi (f : Nat → Int32) (l : List Int32) : Prop := ∀ i (h : i < l.length), f i = l[i]
theorem ins_rl {f : Nat → Int32} {l : List Int32} {a : Int32} {j : Nat} (hj : j ≤ l.length) (h1 : ∀ i (h : i < l.length), i < j → f i = l[i]) (h2 : f j = a) (h3 : ∀ i (h : i < l.length), j ≤ i → f (i + 1) = l[i]) : RLi f (l.take j ++ a :: l.drop j) := by
  intro i hi
  have hl : (l.take j).length = j := by rw [List.length_take]; omega
  have hl2 : (l.take j ++ a :: l.drop j).length = l.length + 1 := by rw [List.length_append, hl, List.length_cons, List.length_drop]; omega
  rw [hl2] at hi
  by_cases q : i < j
  · rw [List.getElem_append_left (by omega), List.getElem_take]
    exact h1 i (by omega) q
  · rw [List.getElem_append_right (by omega)]
    by_cases q2 : i = j
    · subst q2
      simp only [hl, Nat.sub_self, List.getElem_cons_zero]
      exact h2
    · obtain ⟨k, hk⟩ : ∃ k, i = k + 1 := ⟨i - 1, by omega⟩
      subst hk
      have e : k + 1 - (l.take j).length = (k - j) + 1 := by omega
      simp only [e, List.getElem_cons_succ, List.getElem_drop]
      rw [h3 k (by omega) (by omega)]
      congr 1
      omega
