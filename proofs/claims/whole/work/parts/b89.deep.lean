/-! the induction itself -/
section
variable {n : Nat} {C : Nat × Nat} {B : Nat → Int32} {N : Nat}
def BTH (n : Nat) (C : Nat × Nat) (B : Nat → Int32) (N g h d : Nat) : Prop := EX C B N (fun c b => cd_Gr n g 0 0 (nI (d + 1)) 0 c b) (fun m => md_Ge n h 0 0 0 0 m) d d 6 ∧ EX C B N (fun c b => cd_Gr n g 8 0 (nI (d + 1)) 0 c b) (fun m => md_Ge n h 1 0 0 0 m) d d 6
theorem step0 {g h : Nat} (hC : BC C) : BTH n C B N (g + 1) (h + 1) 24 :=
  ⟨e_ok (rc := cd_Gr n g) (rm := md_Ge n h) hC (by omega) (fun y => absurd y (by omega)), inner_ok (pw := 3) (rc := cd_Gr n g) (rm := md_Ge n h) hC (by omega) (fun y => absurd y (by omega))⟩
theorem step1 {d g h : Nat} (hC : BC C) (hd : d ≤ 24) (h1 : EX C B N (exC (cd_Gr n g) (nI (d + 1))) (fun m => md_Ge n h 2 0 0 0 m) (d + 1) d 0) (h2 : EXw C B N (fun k => k ∈ bpL) (fun c b => cd_Gr n g 9 0 (nI (d + 1)) 0 c b) (fun m => md_Ge n h 10 0 0 0 m) (d + 1) d 3) : BTH n C B N (g + 1) (h + 1) d :=
  ⟨e_ok (rc := cd_Gr n g) (rm := md_Ge n h) hC hd (fun _ => h1), inner_ok (rc := cd_Gr n g) (rm := md_Ge n h) hC hd (fun _ => h2)⟩
theorem step2 {d G : Nat} (hC : BC C) (hn : 5000 ≤ n) (hd : d + 1 ≤ 24) (hG : 1 ≤ G) (hR : ∀ N g h, G ≤ g → G ≤ h → BTH n C B N g h (d + 1)) (N g h : Nat) (hg : G + 16 ≤ g) (hh : G + 16 ≤ h) : BTH n C B N g h d := by
  have e1 : nI (d + 1) + 1 = nI (d + 1 + 1) := nI_1 _
  have hl := level (n := n) (C := C) (B := B) (N := N) (d := d) (G := G) hC hn hd hG (by rw [e1]; exact hR N) (by rw [e1]; exact fun g h a b => (hR (N + 2048 * 2) g h a b).1)
  obtain ⟨g, rfl⟩ : ∃ q, g = q + 1 := ⟨g - 1, by omega⟩
  obtain ⟨h, rfl⟩ : ∃ q, h = q + 1 := ⟨h - 1, by omega⟩
  exact step1 hC (by omega) (hl.1 g h (by omega) (by omega)) (hl.2 g h (by omega) (by omega))
theorem deep_ok (hC : BC C) (hn : 5000 ≤ n) : ∀ (t d : Nat), d + t = 24 → ∀ N g h, t * 16 + 16 ≤ g → t * 16 + 16 ≤ h → BTH n C B N g h d
  | 0, d, hd, N, g, h, hg, hh => by
    obtain ⟨g, rfl⟩ : ∃ q, g = q + 1 := ⟨g - 1, by omega⟩
    obtain ⟨h, rfl⟩ : ∃ q, h = q + 1 := ⟨h - 1, by omega⟩
    obtain rfl : d = 24 := by omega
    exact step0 hC
  | t + 1, d, hd, N, g, h, hg, hh => step2 hC hn (by omega) (Nat.le_add_left 1 (t * 16 + 15)) (deep_ok hC hn t (d + 1) (by omega)) N g h (by omega) (by omega)
/-- an expression from outside -/
theorem expr_ok (hC : BC C) (hn : 5000 ≤ n) : EX C B N (fun c b => cd_Gr n 400 0 0 1 0 c b) (fun m => md_Ge n 400 0 0 0 0 m) 0 0 6 := (deep_ok hC hn 24 0 (by omega) N 400 400 (by omega) (by omega)).1
end
