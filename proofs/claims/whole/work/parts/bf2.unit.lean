/-! Unit.write: a unit's code, in the class -/
/-- what a code begins with -/
def PRE (c : cd_S) (u : Nat) (R : Bool) (pre : List Nat) : Prop :=
  (R = true ∧ cI c 301 u ≠ 0 → ∃ s dom lim, s ≤ 4 ∧ cI c 289 u = nI s ∧ cI c 291 u = nI dom ∧ dom < 2 ^ 31 ∧ (s = 3 → cI c 296 u = nI lim ∧ lim < 2 ^ 31) ∧ pre = enB s dom lim) ∧ (¬ (R = true ∧ cI c 301 u ≠ 0) → pre = [])
theorem PRE.len {c : cd_S} {u : Nat} {R : Bool} {pre : List Nat} (h : PRE c u R pre) : pre.length ≤ 5 := by
  by_cases q : R = true ∧ cI c 301 u ≠ 0
  · obtain ⟨s, dom, lim, -, -, -, -, -, e⟩ := h.1 q
    rw [e]; exact enB_len _ _ _
  · rw [h.2 q]; simp
theorem c_head {n : Nat} {C : Nat × Nat} {c0 c : cd_S} {b : cd_B} {u r : Nat} {R : Bool} {pre : List Nat} {l2 l5 : Int32} {lp : cd_S → cd_B → Int32 → Option (cd_S × cd_B × Int32)} (hC : BC C) (hr : r < 197) (hrc : 5 ≤ rcap r) (hP : PRE c0 u R pre) (hf : cd_fr [79] [r] c0 c) (hBd : Bd C c b) (hl2 : l2 = if R = true then 1 else 0) : ∃ c1 b1, Bd C c1 b1 ∧ ble b1 b ∧ cd_fr [79] [r] c0 c1 ∧ (∀ l, cAr c1 79 0 l = cAr c 79 0 l) ∧ rL c1 r = pre.map i64 ∧ ∀ q : cd_S × cd_B × Int32, f_X9_write_J49 n u l2 r lp c1 b1 l5 = some q → ble q.2.1 b1 → (Option.bind (f_X6_cut n c r (0 : Int32)) fun p6 => if l2 = 0 then (f_X9_write_J49 n u l2 r lp p6.2 b l5) else (if (cI p6.2 301 u) = 0 then (f_X9_write_J49 n u l2 r lp p6.2 b l5) else (Option.bind (f_X9_writeEntry n p6.2 b u r) fun p7 => cd_ck (fun (q : cd_S × cd_B × Int32) => q.2.1) (p7.2.2) <| f_X9_write_J49 n u l2 r lp p7.2.1 (p7.2.2) l5))) = some q := by
  have fcut : cd_fr [79] [r] c (cSI c 193 r 0) := cd_fr_SZ (cd_fr_refl _ _ _) (List.mem_singleton.mpr rfl) _
  have fc : cd_fr [79] [r] c0 (cSI c 193 r 0) := cd_fr_tr hf fcut (fun k hk => ⟨hk, hk⟩) (fun k hk => ⟨hk, hk⟩)
  have hB1 : Bd C (cSI c 193 r 0) b := hBd.cut r
  have e301 : cI (cSI c 193 r 0) 301 u = cI c0 301 u := cd_frI fc (by decide) (by decide) u
  have h79 : ∀ l, cAr (cSI c 193 r 0) 79 0 l = cAr c 79 0 l := fun l => rfl
  have hz : rsz (cSI c 193 r 0) r = 0 := by rw [← rL_len, rL_cut0]; rfl
  by_cases q : R = true ∧ cI c0 301 u ≠ 0
  · obtain ⟨s, dom, lim, s1, s2, s3, s4, s5, s6⟩ := hP.1 q
    obtain ⟨c1, b1, a1, a2⟩ := c_entry (n := n) (u := u) (r := r) hC hB1 hr (by omega) s1 (by rw [cd_frI fc (by decide) (by decide)]; exact s2) (by rw [cd_frI fc (by decide) (by decide)]; exact s3) s4 (lim := lim) (fun y => by rw [cd_frI fc (by decide) (by decide)]; exact s5 y)
    refine ⟨c1, b1, a2.1, a2.2.1, cd_fr_tr fc a2.2.2.1 (fun k hk => ⟨hk, hk⟩) (fun k hk => ⟨hk, hk⟩), fun l => (a2.2.2.2.1 l).trans (h79 l), ?_, fun q' e1 e2 => ?_⟩
    · rw [a2.2.2.2.2, rL_cut0, List.nil_append, s6]
    · rw [c_cut0 (hBd.1 r hr), bs_some]
      dsimp only
      rw [hl2, if_pos q.1, if_neg (by decide), e301, if_neg q.2, a1, bs_some]
      rw [hl2, if_pos q.1] at e1
      exact c_ck e1 e2.1 e2.2
  · refine ⟨cSI c 193 r 0, b, hB1, ble.refl _, fc, h79, by rw [rL_cut0, hP.2 q]; rfl, fun q' e1 e2 => ?_⟩
    rw [c_cut0 (hBd.1 r hr), bs_some]
    dsimp only
    by_cases h0 : l2 = 0
    · rw [if_pos h0]; exact e1
    · rw [if_neg h0]
      have hR : R = true := by
        cases hR : R
        · rw [hR, if_neg (by decide)] at hl2; exact absurd hl2 h0
        · rfl
      rw [e301, if_pos (by
        by_cases h3 : cI c0 301 u = 0
        · exact h3
        · exact absurd ⟨hR, h3⟩ q)]
      exact e1
