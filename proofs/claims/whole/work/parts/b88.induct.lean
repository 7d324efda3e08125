/-! all expressions, by induction on the depth -/
theorem EX.le {C : Nat × Nat} {B : Nat → Int32} {N : Nat} {fc : cd_S → cd_B → Option Th} {fm : md_S → Option (Int32 × md_S)} {dm kd kd2 pw : Nat} (h : EX C B N fc fm dm kd pw) (hk : kd2 ≤ kd) : EX C B N fc fm dm kd2 pw := fun c0 m0 c m b w L O mc k kl h1 h2 h3 h4 h5 h6 => h c0 m0 c m b w L O mc k kl h1 h2 h3 h4 h5 (Nat.le_trans h6 hk)
section
variable {n : Nat} {C : Nat × Nat} {B : Nat → Int32} {N : Nat}
theorem nfG0 {h : Nat} (hh : 1 ≤ h) : NFX (fun m => md_Ge n h 0 0 0 0 m) := by
  obtain ⟨h, rfl⟩ : ∃ q, h = q + 1 := ⟨h - 1, by omega⟩
  exact nf_e
theorem nfG1 {h : Nat} (hh : 1 ≤ h) : NFX (fun m => md_Ge n h 1 0 0 0 m) := by
  obtain ⟨h, rfl⟩ : ∃ q, h = q + 1 := ⟨h - 1, by omega⟩
  exact nf_inner
theorem nfG5 {h : Nat} (hh : 1 ≤ h) : NFX (fun m => md_Ge n h 5 0 0 0 m) := by
  obtain ⟨h, rfl⟩ : ∃ q, h = q + 1 := ⟨h - 1, by omega⟩
  exact nf_any
theorem nfG4 {h : Nat} (hn : 5000 ≤ n) (hh : 2 ≤ h) : NFX (fun m => md_Ge n h 4 0 0 0 m) := by
  obtain ⟨h, rfl⟩ : ∃ q, h = q + 1 := ⟨h - 1, by omega⟩
  exact nf_prod (by omega) (nfG5 (by omega))
theorem nfG3 {h : Nat} (hn : 5000 ≤ n) (hh : 3 ≤ h) : NFX (fun m => md_Ge n h 3 0 0 0 m) := by
  obtain ⟨h, rfl⟩ : ∃ q, h = q + 1 := ⟨h - 1, by omega⟩
  exact nf_sum (by omega) (nfG4 hn (by omega))
theorem nfG7 {h : Nat} (hh : 1 ≤ h) (v i : Int32) : NFX (fun m => md_Ge n h 7 v i 0 m) := by
  obtain ⟨h, rfl⟩ : ∃ q, h = q + 1 := ⟨h - 1, by omega⟩
  exact nf_around v i
theorem nfG12 {h : Nat} (hh : 1 ≤ h) (v : Int32) : NFX (fun m => md_Ge n h 12 v 0 0 m) := by
  obtain ⟨h, rfl⟩ : ∃ q, h = q + 1 := ⟨h - 1, by omega⟩
  exact nf_body v
theorem nfG16 {h : Nat} (hn : 5000 ≤ n) (hh : 1 ≤ h) (v : Int32) : NFX (fun m => md_Ge n h 16 v 0 0 m) := by
  obtain ⟨h, rfl⟩ : ∃ q, h = q + 1 := ⟨h - 1, by omega⟩
  exact nf_args (by omega)
theorem bwG0 {g : Nat} {a : Int32} (hC : BC C) (hg : 1 ≤ g) : BWX C (fun c b => cd_Gr n g 0 0 a 0 c b) := by
  obtain ⟨g, rfl⟩ : ∃ q, g = q + 1 := ⟨g - 1, by omega⟩
  exact bw_expr hC
theorem bwG8 {g : Nat} {a : Int32} (hC : BC C) (hg : 1 ≤ g) : BWX C (fun c b => cd_Gr n g 8 0 a 0 c b) := by
  obtain ⟨g, rfl⟩ : ∃ q, g = q + 1 := ⟨g - 1, by omega⟩
  exact bw_inner hC
theorem bwG9 {g : Nat} {a : Int32} (hC : BC C) (hg : 1 ≤ g) : BWX C (fun c b => cd_Gr n g 9 0 a 0 c b) := by
  obtain ⟨g, rfl⟩ : ∃ q, g = q + 1 := ⟨g - 1, by omega⟩
  exact bw_prefix hC
theorem bwG7 {g : Nat} {a : Int32} (hC : BC C) (hg : 2 ≤ g) : BWX C (fun c b => cd_Gr n g 7 0 a 0 c b) := by
  obtain ⟨g, rfl⟩ : ∃ q, g = q + 1 := ⟨g - 1, by omega⟩
  exact bw_prod (bwG9 hC (by omega))
theorem bwG6 {g : Nat} {a : Int32} (hC : BC C) (hg : 3 ≤ g) : BWX C (fun c b => cd_Gr n g 6 0 a 0 c b) := by
  obtain ⟨g, rfl⟩ : ∃ q, g = q + 1 := ⟨g - 1, by omega⟩
  exact bw_sum (bwG7 hC (by omega))
/-- all that is at depth d + 1, given what is deeper -/
theorem level {d G : Nat} (hC : BC C) (hn : 5000 ≤ n) (hd : d + 1 ≤ 24) (hG : 1 ≤ G) (hR : ∀ g h, G ≤ g → G ≤ h → EX C B N (fun c b => cd_Gr n g 0 0 (nI (d + 1) + 1) 0 c b) (fun m => md_Ge n h 0 0 0 0 m) (d + 1) (d + 1) 6 ∧ EX C B N (fun c b => cd_Gr n g 8 0 (nI (d + 1) + 1) 0 c b) (fun m => md_Ge n h 1 0 0 0 m) (d + 1) (d + 1) 6) (hR2 : ∀ g h, G ≤ g → G ≤ h → EX C B (N + 2048 * 2) (fun c b => cd_Gr n g 0 0 (nI (d + 1) + 1) 0 c b) (fun m => md_Ge n h 0 0 0 0 m) (d + 1) (d + 1) 6) : (∀ g h, G + 10 ≤ g → G + 11 ≤ h → EX C B N (exC (cd_Gr n g) (nI (d + 1))) (fun m => md_Ge n h 2 0 0 0 m) (d + 1) d 0) ∧ ∀ g h, G + 6 ≤ g → G + 6 ≤ h → EXw C B N (fun k => k ∈ bpL) (fun c b => cd_Gr n g 9 0 (nI (d + 1)) 0 c b) (fun m => md_Ge n h 10 0 0 0 m) (d + 1) d 3 := by
  have hk30 : d ≤ 30 := by omega
  have hrow : ∀ g h, G + 1 ≤ g → G + 1 ≤ h → EXw C B N (fun k => k = 123) (fun c b => cd_Gr n g 18 0 (nI (d + 1)) 0 c b) (fun m => md_Ge n h 19 0 0 0 m) (d + 1) d 6 := by
    intro g h hg hh
    obtain ⟨g, rfl⟩ : ∃ q, g = q + 1 := ⟨g - 1, by omega⟩
    obtain ⟨h, rfl⟩ : ∃ q, h = q + 1 := ⟨h - 1, by omega⟩
    exact row_ok (rc := cd_Gr n g) (rm := md_Ge n h) hC hn hk30 ((hR g h (by omega) (by omega)).1.le (by omega)) (nfG0 (by omega)) (bwG0 hC (by omega))
  have hfun : ∀ g h, G + 2 ≤ g → G + 2 ≤ h → EXw C B N (fun k => k = 222) (fun c b => cd_Gr n g 17 0 (nI (d + 1)) 0 c b) (fun m => md_Ge n h 18 0 0 0 m) (d + 1) d 3 := by
    intro g h hg hh
    obtain ⟨g, rfl⟩ : ∃ q, g = q + 1 := ⟨g - 1, by omega⟩
    obtain ⟨h, rfl⟩ : ∃ q, h = q + 1 := ⟨h - 1, by omega⟩
    exact fun_ok (rc := cd_Gr n g) (rm := md_Ge n h) hC hn hk30 (hrow g h (by omega) (by omega))
  have hask : ∀ t kk, (kk = 227 ∧ t = 25 ∨ kk = 228 ∧ t = 26) → ∀ g h, G + 1 ≤ g → G + 1 ≤ h → EXw C B N (fun k => k = kk) (fun c b => cd_Gr n g 19 0 t (nI (d + 1)) c b) (fun m => md_Ge n h 20 0 0 0 m) (d + 1) d 3 := by
    intro t kk ht g h hg hh
    obtain ⟨g, rfl⟩ : ∃ q, g = q + 1 := ⟨g - 1, by omega⟩
    obtain ⟨h, rfl⟩ : ∃ q, h = q + 1 := ⟨h - 1, by omega⟩
    exact asking_ok (rc := cd_Gr n g) (rm := md_Ge n h) hC hn hk30 ht ((hR g h (by omega) (by omega)).1.le (by omega)) (nfG0 (by omega)) (bwG0 hC (by omega))
  have hatom : ∀ g h, G + 3 ≤ g → G + 3 ≤ h → EXw C B N atP (fun c b => cd_Gr n g 16 0 (nI (d + 1)) 0 c b) (fun m => md_Ge n h 17 0 0 0 m) (d + 1) d 3 := by
    intro g h hg hh
    obtain ⟨g, rfl⟩ : ∃ q, g = q + 1 := ⟨g - 1, by omega⟩
    obtain ⟨h, rfl⟩ : ∃ q, h = q + 1 := ⟨h - 1, by omega⟩
    exact atom_ok (rc := cd_Gr n g) (rm := md_Ge n h) hC hn hk30 ((hR g h (by omega) (by omega)).1.le (by omega)) (nfG0 (by omega)) (bwG0 hC (by omega)) (hrow g h (by omega) (by omega)) (hfun g h (by omega) (by omega)) (hask 25 227 (Or.inl ⟨rfl, rfl⟩) g h (by omega) (by omega)) (hask 26 228 (Or.inr ⟨rfl, rfl⟩) g h (by omega) (by omega))
  have harg : ∀ g h, G + 1 ≤ g → G + 1 ≤ h → ARG C B N (fun c b => cd_Gr n g 15 0 (nI (d + 1)) 0 c b) (fun i m => md_Ge n h 16 i 0 0 m) (d + 1) d := by
    intro g h hg hh
    obtain ⟨g, rfl⟩ : ∃ q, g = q + 1 := ⟨g - 1, by omega⟩
    obtain ⟨h, rfl⟩ : ∃ q, h = q + 1 := ⟨h - 1, by omega⟩
    obtain ⟨h', hh'⟩ : ∃ q, h = q + 1 := ⟨h - 1, by omega⟩
    intro c0 c c1 m0 m m1 b w L O mc k kl k0 kl0 i l1 t x y lc0 l0 ch ess ns pre h1 h2 h3 h4 h5 h6 h7 h8
    exact args_ok (rc := cd_Gr n g) (rm := md_Ge n h) hC hn hk30 ((hR g h (by omega) (by omega)).1.le (by omega)) (nfG0 (by omega)) (by rw [hh']; exact nex_e) h1 h2 h3 h4 h5 h6 h7 h8
  have hmem : ∀ g h, G + 2 ≤ g → G + 2 ≤ h → MEM C B N (fun c b => cd_Gr n g 14 0 (nI (d + 1)) 0 c b) (fun x m => md_Ge n h 15 x 0 0 m) (d + 1) d := by
    intro g h hg hh
    obtain ⟨g, rfl⟩ : ∃ q, g = q + 1 := ⟨g - 1, by omega⟩
    obtain ⟨h, rfl⟩ : ∃ q, h = q + 1 := ⟨h - 1, by omega⟩
    intro c0 c c1 m0 m m1 b v0 x1 w L1 L O mc k kl k0 kl0 h1 h2 h3 h4 h5 h6 h7 h8 h9
    exact member_ok (rc := cd_Gr n g) (rm := md_Ge n h) hC hn hk30 ((hR g h (by omega) (by omega)).2.le (by omega)) (nfG1 (by omega)) (bwG8 hC (by omega)) (harg g h (by omega) (by omega)) (nfG16 hn (by omega)) h1 h2 h3 h4 h5 h6 h7 h8 h9
  have hpost : ∀ g h, G + 4 ≤ g → G + 4 ≤ h → EXw C B N atP (fun c b => cd_Gr n g 13 0 (nI (d + 1)) 0 c b) (fun m => md_Ge n h 14 0 0 0 m) (d + 1) d 3 := by
    intro g h hg hh
    obtain ⟨g, rfl⟩ : ∃ q, g = q + 1 := ⟨g - 1, by omega⟩
    obtain ⟨h, rfl⟩ : ∃ q, h = q + 1 := ⟨h - 1, by omega⟩
    exact post_ok (rc := cd_Gr n g) (rm := md_Ge n h) hC hn hk30 (hatom g h (by omega) (by omega)) (hmem g h (by omega) (by omega)) (harg g h (by omega) (by omega))
  have hbody : ∀ g h, G ≤ g → G + 1 ≤ h → BDY n C B N (fun c b => cd_Gr n g 8 0 (nI (d + 1) + 1) 0 c b) (fun u m => md_Ge n h 12 u 0 0 m) (d + 1) d := by
    intro g h hg hh
    obtain ⟨h, rfl⟩ : ∃ q, h = q + 1 := ⟨h - 1, by omega⟩
    exact body_ok (rm := md_Ge n h) hC hn ((hR g h (by omega) (by omega)).2.le (by omega))
  have hpriv : ∀ g h, G + 2 ≤ g → G + 2 ≤ h → EXw C B N (fun k => k = 220) (fun c b => cd_Gr n g 11 0 (nI (d + 1)) 0 c b) (fun m => md_Ge n h 11 0 0 0 m) (d + 1) d 3 := by
    intro g h hg hh
    obtain ⟨g, rfl⟩ : ∃ q, g = q + 1 := ⟨g - 1, by omega⟩
    obtain ⟨h, rfl⟩ : ∃ q, h = q + 1 := ⟨h - 1, by omega⟩
    exact priv_ok (rc := cd_Gr n g) (rm := md_Ge n h) hC hn hk30 (bwG8 hC (by omega)) (hbody g h (by omega) (by omega)) (nfG12 (by omega))
  have hunder : ∀ g h, G + 2 ≤ g → G + 2 ≤ h → EXw C B N (fun k => k = 221) (fun c b => cd_Gr n g 12 0 (nI (d + 1)) 0 c b) (fun m => md_Ge n h 13 0 0 0 m) (d + 1) d 3 := by
    intro g h hg hh
    obtain ⟨g, rfl⟩ : ∃ q, g = q + 1 := ⟨g - 1, by omega⟩
    obtain ⟨h, rfl⟩ : ∃ q, h = q + 1 := ⟨h - 1, by omega⟩
    exact under_ok (rc := cd_Gr n g) (rm := md_Ge n h) hC hn hk30 ((hR g h (by omega) (by omega)).2.le (by omega)) (nfG1 (by omega)) (bwG8 hC (by omega)) (hbody g h (by omega) (by omega)) (nfG12 (by omega))
  have hword : ∀ t kk, (kk = 229 ∧ t = 21 ∨ kk = 232 ∧ t = 22 ∨ kk = 230 ∧ t = 23 ∨ kk = 231 ∧ t = 24) → ∀ g h, G + 1 ≤ g → G ≤ h → EXw C B N (fun k => k = kk) (fun c b => cd_Gr n g 10 0 t (nI (d + 1)) c b) (fun m => f_X12_prefix_J36 n (md_Ge n h) m) (d + 1) d 3 := by
    intro t kk ht g h hg hh
    obtain ⟨g, rfl⟩ : ∃ q, g = q + 1 := ⟨g - 1, by omega⟩
    exact word_ok (rc := cd_Gr n g) (rm := md_Ge n h) hC hn hk30 ht ((hR g h (by omega) (by omega)).2.le (by omega)) (nfG1 (by omega)) (bwG8 hC (by omega))
  have hpre : ∀ g h, G + 5 ≤ g → G + 5 ≤ h → EXw C B N (fun k => k ∈ bpL) (fun c b => cd_Gr n g 9 0 (nI (d + 1)) 0 c b) (fun m => md_Ge n h 10 0 0 0 m) (d + 1) d 3 := by
    intro g h hg hh
    obtain ⟨g, rfl⟩ : ∃ q, g = q + 1 := ⟨g - 1, by omega⟩
    obtain ⟨h, rfl⟩ : ∃ q, h = q + 1 := ⟨h - 1, by omega⟩
    exact prefix_ok (rc := cd_Gr n g) (rm := md_Ge n h) (hword 21 229 (by simp) g h (by omega) (by omega)) (hword 22 232 (by simp) g h (by omega) (by omega)) (hword 23 230 (by simp) g h (by omega) (by omega)) (hword 24 231 (by simp) g h (by omega) (by omega)) (hpriv g h (by omega) (by omega)) (hunder g h (by omega) (by omega)) (hpost g h (by omega) (by omega))
  have hany : ∀ g h, G + 5 ≤ g → G + 6 ≤ h → EX C B N (fun c b => cd_Gr n g 9 0 (nI (d + 1)) 0 c b) (fun m => md_Ge n h 5 0 0 0 m) (d + 1) d 3 := by
    intro g h hg hh
    obtain ⟨h, rfl⟩ : ∃ q, h = q + 1 := ⟨h - 1, by omega⟩
    have hp := hpre g h (by omega) (by omega)
    obtain ⟨g, rfl⟩ : ∃ q, g = q + 1 := ⟨g - 1, by omega⟩
    exact any_pre (rm := md_Ge n h) hC (fun c b => rfl) hp
  have hprod : ∀ g h, G + 6 ≤ g → G + 7 ≤ h → EX C B N (fun c b => cd_Gr n g 7 0 (nI (d + 1)) 0 c b) (fun m => md_Ge n h 4 0 0 0 m) (d + 1) d 2 := by
    intro g h hg hh
    obtain ⟨g, rfl⟩ : ∃ q, g = q + 1 := ⟨g - 1, by omega⟩
    obtain ⟨h, rfl⟩ : ∃ q, h = q + 1 := ⟨h - 1, by omega⟩
    exact prod_ok (rc := cd_Gr n g) (rm := md_Ge n h) hC hn hk30 (hany g h (by omega) (by omega)) (nfG5 (by omega)) (bwG9 hC (by omega))
  have hsum : ∀ g h, G + 7 ≤ g → G + 8 ≤ h → EX C B N (fun c b => cd_Gr n g 6 0 (nI (d + 1)) 0 c b) (fun m => md_Ge n h 3 0 0 0 m) (d + 1) d 1 := by
    intro g h hg hh
    obtain ⟨g, rfl⟩ : ∃ q, g = q + 1 := ⟨g - 1, by omega⟩
    obtain ⟨h, rfl⟩ : ∃ q, h = q + 1 := ⟨h - 1, by omega⟩
    exact sum_ok (rc := cd_Gr n g) (rm := md_Ge n h) hC hn hk30 (hprod g h (by omega) (by omega)) (nfG4 hn (by omega)) (bwG7 hC (by omega))
  have hcmp : ∀ g h, G + 8 ≤ g → G + 8 ≤ h → EX C B N (fun c b => cd_Gr n g 5 0 (nI (d + 1)) 0 c b) (cmpM n (md_Ge n h)) (d + 1) d 0 := by
    intro g h hg hh
    obtain ⟨g, rfl⟩ : ∃ q, g = q + 1 := ⟨g - 1, by omega⟩
    exact cmp_ok (rc := cd_Gr n g) (rm := md_Ge n h) hC hn hk30 (hsum g h (by omega) (by omega)) (nfG3 hn (by omega)) (bwG6 hC (by omega))
  have hif : ∀ g h, G + 1 ≤ g → G + 1 ≤ h → EXw C B N (fun k => k = 215) (fun c b => cd_Gr n g 3 0 (nI (d + 1)) 0 c b) (fun m => md_Ge n h 8 0 0 0 m) (d + 1) d 3 := by
    intro g h hg hh
    obtain ⟨g, rfl⟩ : ∃ q, g = q + 1 := ⟨g - 1, by omega⟩
    obtain ⟨h, rfl⟩ : ∃ q, h = q + 1 := ⟨h - 1, by omega⟩
    exact if_ok (rc := cd_Gr n g) (rm := md_Ge n h) hC hn hk30 (hR g h (by omega) (by omega)).1 (nfG0 (by omega)) (bwG0 hC (by omega))
  have hbnd : ∀ g h, G + 1 ≤ g → G + 1 ≤ h → BND C B N (fun nm key c b => cd_Gr n g 2 nm key (nI (d + 1)) c b) (fun v i m => md_Ge n h 7 v i 0 m) (d + 1) d := by
    intro g h hg hh
    obtain ⟨g, rfl⟩ : ∃ q, g = q + 1 := ⟨g - 1, by omega⟩
    obtain ⟨h, rfl⟩ : ∃ q, h = q + 1 := ⟨h - 1, by omega⟩
    exact bound_ok (rc := cd_Gr n g) (rm := md_Ge n h) hC hn ((hR g h (by omega) (by omega)).1.le (by omega))
  have hbwb : ∀ g, G + 1 ≤ g → BWB C (fun nm key c b => cd_Gr n g 2 nm key (nI (d + 1)) c b) := by
    intro g hg
    obtain ⟨g, rfl⟩ : ∃ q, g = q + 1 := ⟨g - 1, by omega⟩
    exact bw_bound (rc := cd_Gr n g) hC (bwG0 hC (by omega))
  have hlet : ∀ g h, G + 2 ≤ g → G + 2 ≤ h → EXw C B N (fun k => k = 213) (fun c b => cd_Gr n g 1 0 (nI (d + 1)) 0 c b) (fun m => md_Ge n h 6 0 0 0 m) (d + 1) d 3 := by
    intro g h hg hh
    obtain ⟨g, rfl⟩ : ∃ q, g = q + 1 := ⟨g - 1, by omega⟩
    obtain ⟨h, rfl⟩ : ∃ q, h = q + 1 := ⟨h - 1, by omega⟩
    exact let_ok (rc := cd_Gr n g) (rm := md_Ge n h) hC hn hk30 (hR2 g h (by omega) (by omega)) (nfG0 (by omega)) (bwG0 hC (by omega)) (hbnd g h (by omega) (by omega)) (nfG7 (by omega)) (hbwb g (by omega))
  have htry : ∀ g h, G + 2 ≤ g → G + 2 ≤ h → EXw C B N (fun k => k = 218) (fun c b => cd_Gr n g 4 0 (nI (d + 1)) 0 c b) (fun m => md_Ge n h 9 0 0 0 m) (d + 1) d 3 := by
    intro g h hg hh
    obtain ⟨g, rfl⟩ : ∃ q, g = q + 1 := ⟨g - 1, by omega⟩
    obtain ⟨h, rfl⟩ : ∃ q, h = q + 1 := ⟨h - 1, by omega⟩
    exact try_ok (rc := cd_Gr n g) (rm := md_Ge n h) hC hn hk30 (hR g h (by omega) (by omega)).1 (nfG0 (by omega)) (bwG0 hC (by omega)) (hbnd g h (by omega) (by omega)) (nfG7 (by omega)) (hbwb g (by omega))
  refine ⟨fun g h hg hh => ?_, fun g h hg hh => hpre g h (by omega) (by omega)⟩
  obtain ⟨h, rfl⟩ : ∃ q, h = q + 1 := ⟨h - 1, by omega⟩
  exact whole_ok (rc := cd_Gr n g) (rm := md_Ge n h) (hlet g h (by omega) (by omega)) (hif g h (by omega) (by omega)) (htry g h (by omega) (by omega)) (hcmp g h (by omega) (by omega))
end
