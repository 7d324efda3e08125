/-! rows as lists -/
def rL (s : cd_S) (r : Nat) : List Int64 := (List.range (rsz s r)).map (cRF s r)
theorem rL_len (s : cd_S) (r : Nat) : (rL s r).length = rsz s r := by simp [rL]
theorem rL_get {s : cd_S} {r i : Nat} (h : i < rsz s r) : (rL s r).getD i 0 = cRF s r i := by
  simp [rL, List.getD_eq_getElem?_getD, h]
theorem rL_getn {s : cd_S} {r i : Nat} (h : ¬ i < rsz s r) : (rL s r).getD i 0 = 0 := by
  rw [List.getD_eq_getElem?_getD, List.getElem?_eq_none (by rw [rL_len]; omega)]; rfl
theorem rL_ext {s t : cd_S} {r : Nat} (h1 : cI t 193 r = cI s 193 r) (h2 : ∀ j, j < rsz s r → cRF t r j = cRF s r j) : rL t r = rL s r := by
  have hz : rsz t r = rsz s r := by unfold rsz; rw [h1]
  unfold rL
  rw [hz]
  exact List.map_congr_left (fun j hj => h2 j (List.mem_range.mp hj))
theorem rL_fr {L R : List Nat} {s t : cd_S} (h : cd_fr L R s t) {r : Nat} (hr : r ∉ R) : rL t r = rL s r := rL_ext (cd_frz h hr) (fun j _ => cd_frF h hr j)
theorem rL_add {s : cd_S} {r : Nat} {v : Int64} (h : RowOk s r) : rL (rAdd s r v) r = rL s r ++ [v] := by
  unfold rL
  rw [rAdd_sz h.szlt, List.range_succ, List.map_append, List.map_cons, List.map_nil, rAdd_Fe]
  congr 1
  exact List.map_congr_left (fun j hj => rAdd_Fl h.2.1 (List.mem_range.mp hj))
theorem rL_addo {s : cd_S} {r i : Nat} {v : Int64} (h : i ≠ r) : rL (rAdd s r v) i = rL s i := by
  refine rL_ext (by rw [rAdd_I, if_neg (fun q => h q.2)]) (fun j _ => rAdd_Fo h j)
theorem rL_SF {s : cd_S} {r i : Nat} {v : Int64} : rL (cSF s r i v) r = (rL s r).set i v := by
  have hz : rsz (cSF s r i v) r = rsz s r := rfl
  apply List.ext_getElem?
  intro j
  rw [List.getElem?_set, rL_len]
  unfold rL
  rw [hz, List.getElem?_map, List.getElem?_map]
  by_cases hj : j < rsz s r
  · rw [List.getElem?_range hj]
    simp only [Option.map_some]
    by_cases q : i = j
    · subst q; rw [if_pos rfl, if_pos hj, cF_SF, if_pos rfl, if_pos rfl]
    · rw [if_neg q, cF_SF, if_pos rfl, if_neg (fun e => q e.symm)]
  · rw [List.getElem?_eq_none (by simp; omega)]
    simp only [Option.map_none]
    by_cases q : i = j
    · subst q; rw [if_pos rfl, if_neg hj]
    · rw [if_neg q]
theorem rL_SI {s : cd_S} {f i r : Nat} {v : Int32} (h : f ≠ 193) : rL (cSI s f i v) r = rL s r := rL_ext (cI_SIo (fun e => h e.symm)) (fun _ _ => rfl)
theorem rL_cut0 {s : cd_S} {r : Nat} : rL (cSI s 193 r 0) r = [] := by
  have : rsz (cSI s 193 r 0) r = 0 := by show (cI (cSI s 193 r 0) 193 r).toNatClampNeg = 0; rw [cI_SIe]; decide
  unfold rL
  rw [this]; rfl
theorem c_atL {n : Nat} {s : cd_S} {r i : Nat} (h : RowOk s r) (hi : i < 2 ^ 31) : f_X6_at n s r (nI i) = some (((rL s r).getD i 0).toInt32, s) := by
  rw [c_at h hi]
  by_cases q : i < rsz s r
  · rw [if_pos q, rL_get q]
  · rw [if_neg q, rL_getn q]; rfl
theorem c_getL {n : Nat} {s : cd_S} {r i : Nat} (h : RowOk s r) (hi : i < 2 ^ 31) : f_X6_get n s r (nI i) = some ((rL s r).getD i 0, s) := by
  rw [c_get h hi]
  by_cases q : i < rsz s r
  · rw [if_pos q, rL_get q]
  · rw [if_neg q, rL_getn q]
theorem Bd.SI {C : Nat × Nat} {s : cd_S} {b : cd_B} (h : Bd C s b) {f : Nat} (hf : f ≠ 193) (i : Nat) (v : Int32) : Bd C (cSI s f i v) b := h.of (fun r _ => cI_SIo (fun e => hf e.symm)) (fun _ _ => rfl)
theorem Bd.SJ {C : Nat × Nat} {s : cd_S} {b : cd_B} (h : Bd C s b) (f i : Nat) (v : Int64) : Bd C (cSJ s f i v) b := h.of (fun _ _ => rfl) (fun _ _ => rfl)
theorem Bd.SF {C : Nat × Nat} {s : cd_S} {b : cd_B} (h : Bd C s b) (r i : Nat) (v : Int64) : Bd C (cSF s r i v) b := h.of (fun _ _ => rfl) (fun _ _ => rfl)
/-- the words of the class, when three cells more have come to row 0 -/
theorem aw_L {s : cd_S} {k f : Int32} {x : Int64} (h : RowOk s 0) (hz : rsz s 0 + 3 ≤ rcap 0) : rL (aw s k f x) 0 = rL s 0 ++ [k.toInt64, f.toInt64, x] := by
  have h1 := rAdd_ok (v := k.toInt64) h (by omega)
  have z1 := rAdd_sz (v := k.toInt64) h.szlt
  have h2 := rAdd_ok (v := f.toInt64) h1 (by omega)
  unfold aw
  rw [rL_add h2, rL_add h1, rL_add h, List.append_assoc, List.append_assoc]
  rfl
theorem aw_Lo {s : cd_S} {k f : Int32} {x : Int64} {r : Nat} (h : r ≠ 0) : rL (aw s k f x) r = rL s r := by
  unfold aw
  rw [rL_addo h, rL_addo h, rL_addo h]
theorem aw_fr {L R : List Nat} {s t : cd_S} {k f : Int32} {x : Int64} (h : cd_fr L R s t) (hr : 0 ∈ R) : cd_fr L R s (aw t k f x) := cd_fr_add (cd_fr_add (cd_fr_add h hr _) hr _) hr _
/-- how a pattern is read: its steps (where each begins and ends), and where they end -/
def ptS (B : Nat → Int32) (N : Nat) : Nat → Nat → List (Nat × Nat)
  | 0, _ => []
  | k + 1, p => if B p = 47 ∧ isA (B (p + 1)) then (p + 1, alE B (N - (p + 1)) (p + 1)) :: ptS B N k (alE B (N - (p + 1)) (p + 1)) else []
def ptE (B : Nat → Int32) (N : Nat) : Nat → Nat → Nat
  | 0, p => p
  | k + 1, p => if B p = 47 ∧ isA (B (p + 1)) then ptE B N k (alE B (N - (p + 1)) (p + 1)) else p
abbrev ptG (L : List (Nat × Nat)) : Prop := ∀ e ∈ L, e.2 - e.1 ≤ 6
def ptT (B : Nat → Int32) (e : Nat) : Nat := if B e = 47 then (if B (e + 1) = 42 then 1 else if B (e + 1) = 45 then 2 else 0) else 0
def ptC (B : Nat → Int32) (L : List (Nat × Nat)) : List Int64 := L.map (fun e => c64 B (e.2 - e.1) e.1 0)
abbrev isS (c : Int32) : Prop := c = 123 ∨ c = 125 ∨ c = 40 ∨ c = 41 ∨ c = 91 ∨ c = 93 ∨ c = 44 ∨ c = 59 ∨ c = 58 ∨ c = 61 ∨ c = 46 ∨ c = 43 ∨ c = 45 ∨ c = 42 ∨ c = 60
/-- a word of the text: what is found from place p on -/
def Tok (B : Nat → Int32) (N ms p kept : Nat) (k : Int32) (f q : Nat) (x : Int64) (PS : List Int64) : Prop :=
  f = skp B (N - p) false p ∧ q ≤ N ∧
  ((f = N ∧ k = 0 ∧ q = f ∧ x = 0 ∧ PS = []) ∨
   (f < N ∧ isL (B f) ∧ q = alE B (N - f) f ∧ x = c64 B (q - f) f 0 ∧ k = (if q - f ≤ 8 then kwk x else 1) ∧ PS = []) ∨
   (f < N ∧ isD (B f) ∧ q = dgE B (N - f) f ∧ x = lN (nv B (N - f) f 0) ∧ k = (if nv B (N - f) f 0 ≤ 2147483647 then 3 else 1) ∧ PS = []) ∨
   (f < N ∧ B f = 47 ∧ q = (if ptT B (ptE B N (N - f) f) = 0 then ptE B N (N - f) f else ptE B N (N - f) f + 2) ∧ x = lN kept ∧ k = (if ptG (ptS B N (N - f) f) ∧ (ptS B N (N - f) f).length ≤ ms ∧ ((ptS B N (N - f) f).length ≠ 0 ∨ ptT B (ptE B N (N - f) f) ≠ 0) then 4 else 1) ∧ PS = lN (ptS B N (N - f) f).length :: lN (ptT B (ptE B N (N - f) f)) :: ptC B (ptS B N (N - f) f)) ∨
   (f < N ∧ ¬ isA (B f) ∧ ¬ B f = 47 ∧ q = (if B (f + 1) = 61 ∧ (B f = 58 ∨ B f = 61) then f + 2 else f + 1) ∧ x = 0 ∧ k = (if B (f + 1) = 61 ∧ (B f = 58 ∨ B f = 61) then (if B f = 58 then 200 else 201) else if isS (B f) then B f else 1) ∧ PS = []))
theorem c_findName {n : Nat} {C : Nat × Nat} {s : cd_S} {b : cd_B} {B : Nat → Int32} {N f : Nat} (hC : BC C) (hn : 5000 ≤ n) (hT : TB B N) (h : CT s B N) (hK : KWs s) (hB : Bd C s b) (hp : cI s 326 0 = nI f) (hf : f ≤ N) (hz : rsz s 0 + 3 ≤ rcap 0) :
    ∃ b', f_X10_findName n s b = some (0, aw (cSI s 326 0 (nI (alE B (N - f) f))) (if alE B (N - f) f - f ≤ 8 then kwk (c64 B (alE B (N - f) f - f) f 0) else 1) (nI f) (c64 B (alE B (N - f) f - f) f 0), b') ∧ Bd C (aw (cSI s 326 0 (nI (alE B (N - f) f))) (if alE B (N - f) f - f ≤ 8 then kwk (c64 B (alE B (N - f) f - f) f 0) else 1) (nI f) (c64 B (alE B (N - f) f - f) f 0)) b' ∧ b'.1 ≤ b.1 ∧ b'.2 ≤ b.2 := by
  have hN := hT.1
  have hq := alE_b B (N - f) f
  have hK1 : KWs (cSI s 326 0 (nI (alE B (N - f) f))) := fun i hi => hK i hi
  obtain ⟨b', e1, B1, l1, l2⟩ := c_addWord (n := n) (k := if alE B (N - f) f - f ≤ 8 then kwk (c64 B (alE B (N - f) f - f) f 0) else 1) (f := nI f) (x := c64 B (alE B (N - f) f - f) f 0) hC (hB.SI (f := 326) (by decide) 0 (nI (alE B (N - f) f))) hz
  refine ⟨b', ?_, B1, l1, l2⟩
  have hkl := c_kwL (n := n) hK1 (nI f) (c64 B (alE B (N - f) f - f) f 0) b 23 n 0 2 rfl (by omega)
  unfold f_X10_findName
  refine c_ck ?_ l1 l2
  rw [hp, c_nameL hT (nI f) b (N - f) n f s 0 (by omega) (by omega) h hp, bs_some]
  dsimp only
  refine c_ck ?_ l1 l2
  rw [show f_X10_findName_L61 n (nI f) (c64 B (alE B (N - f) f - f) f 0) n (cSI s 326 0 (nI (alE B (N - f) f))) b 2 0 = _ from hkl, bs_some]
  dsimp only
  refine c_ck ?_ l1 l2
  unfold f_X10_findName_J117
  rw [cI_SIe, nI_sub hq.1]
  by_cases h8 : alE B (N - f) f - f ≤ 8
  · rw [if_pos (show nI (alE B (N - f) f - f) ≤ (8 : Int32) from (nI_leI (b := 8) (by omega) (by decide)).mpr h8)]
    rw [if_pos h8] at e1
    rw [show f_X10_addWord n (cSI s 326 0 (nI (alE B (N - f) f))) b (if kwx (c64 B (alE B (N - f) f - f) f 0) 23 0 < 23 then nI (210 + kwx (c64 B (alE B (N - f) f - f) f 0) 23 0) else 2) (nI f) (c64 B (alE B (N - f) f - f) f 0) = _ from e1, bs_some]
    dsimp only
    rw [if_pos h8]
    exact c_ck rfl (Nat.le_refl _) (Nat.le_refl _)
  · rw [if_neg (show ¬ nI (alE B (N - f) f - f) ≤ (8 : Int32) from fun z => h8 ((nI_leI (b := 8) (by omega) (by decide)).mp z))]
    rw [if_neg h8] at e1
    rw [e1, bs_some]
    dsimp only
    rw [if_neg h8]
    exact c_ck rfl (Nat.le_refl _) (Nat.le_refl _)
theorem c_findNumber {n : Nat} {C : Nat × Nat} {s : cd_S} {b : cd_B} {B : Nat → Int32} {N f : Nat} (hC : BC C) (hn : 5000 ≤ n) (hT : TB B N) (h : CT s B N) (hB : Bd C s b) (hp : cI s 326 0 = nI f) (hf : f ≤ N) (hz : rsz s 0 + 3 ≤ rcap 0) :
    ∃ b', f_X10_findNumber n s b = some (0, aw (cSI s 326 0 (nI (dgE B (N - f) f))) (if nv B (N - f) f 0 ≤ 2147483647 then 3 else 1) (nI f) (lN (nv B (N - f) f 0)), b') ∧ Bd C (aw (cSI s 326 0 (nI (dgE B (N - f) f))) (if nv B (N - f) f 0 ≤ 2147483647 then 3 else 1) (nI f) (lN (nv B (N - f) f 0))) b' ∧ b'.1 ≤ b.1 ∧ b'.2 ≤ b.2 := by
  have hN := hT.1
  have hv := nv_lt B (N - f) f 0 (by decide)
  obtain ⟨b', e1, B1, l1, l2⟩ := c_addWord (n := n) (k := if nv B (N - f) f 0 ≤ 2147483647 then 3 else 1) (f := nI f) (x := lN (nv B (N - f) f 0)) hC (hB.SI (f := 326) (by decide) 0 (nI (dgE B (N - f) f))) hz
  refine ⟨b', ?_, B1, l1, l2⟩
  unfold f_X10_findNumber
  refine c_ck ?_ l1 l2
  rw [hp, show f_X10_findNumber_L7 n (nI f) n s b 0 = _ from c_numL hT (nI f) b (N - f) n f s 0 (by decide) (by omega) (by omega) h hp, bs_some]
  dsimp only
  refine c_ck ?_ l1 l2
  unfold f_X10_findNumber_J86
  have h63 : (lg_cmp (lN (nv B (N - f) f 0)) 2147483647 ≤ 0) ↔ nv B (N - f) f 0 ≤ 2147483647 := by
    rw [lg_cmp_le]; exact lN_le63 (b := 2147483647) (by omega) (by decide)
  by_cases h8 : nv B (N - f) f 0 ≤ 2147483647
  · rw [if_pos (h63.mpr h8)]
    rw [if_pos h8] at e1
    rw [e1, bs_some]
    dsimp only
    rw [if_pos h8]
    exact c_ck rfl (Nat.le_refl _) (Nat.le_refl _)
  · rw [if_neg (fun z => h8 (h63.mp z))]
    rw [if_neg h8] at e1
    rw [e1, bs_some]
    dsimp only
    rw [if_neg h8]
    exact c_ck rfl (Nat.le_refl _) (Nat.le_refl _)
