/-! THE FIRST PICTURE OF THE HOUSE -/
def adR (a : Nat → Nat) (P0 P1 P2 : Nat → Nat → Nat) (j b i : Nat) : Nat := if i < 8 then P0 i j else if i < 168 then P1 (i - 8) j else if i < 192 then P2 (i - 168) j else a (b + i)
def adW (a : Nat → Nat) (P3 P4 : Nat → Nat → Nat) (j b i : Nat) : Nat := if i < 9 then a (b + i) else if i < 17 then P4 (i - 9) (7 + j) else P3 ((i - 17) / 3) (2 + 2 * ((i - 17) % 3) + j)
def ad0 (h : Nat) (a : Nat → Nat) (P0 P1 P2 P3 P4 : Nat → Nat → Nat) (c i : Nat) : Nat :=
  if c = 5 then adR a P0 P1 P2 0 3000 i else if c = 261 then adR a P0 P1 P2 1 4000 i else if c = 6 then adW a P3 P4 0 1000 i
  else if c = 7 then P4 i 0 else if c = 324 then P4 i 1 else if c = 325 then P4 i 2 else if c = 326 then P4 i 3 else if c = 327 then P4 i 4 else if c = 328 then P4 i 5 else if c = 329 then P4 i 6
  else if c = 9 then P3 i 0 else if c = 400 then P3 i 1 else if c = 11 then h else a c
def ca0 (a : Nat → Nat) (P3 P4 : Nat → Nat → Nat) (i : Nat) : Nat := adW a P3 P4 1 2000 i
def rcp (i : Nat) : Nat := if i < 9 then [192, 64, 16, 32, 16, 48, 32, 64, 80].getD i 0 else if i < 17 then 32 else if (i - 17) % 3 = 0 then 24 else 16
/-- the first state of the house; kf: its key words -/
def cd_s0 (kf : Nat → Int64) : cd_S := (fun f _ => if f = 140 then -1 else 0, fun _ _ => 0, fun _ _ _ => 0, fun f _ => if f = 320 then kf else fun _ => 0, fun f _ => if f = 50 then 1 else if f = 135 then 1 else if f = 136 then 1 else 0, rcp, fun _ _ => 0)
theorem adR0 {a P0 P1 P2 j b i} (h : i < 8) : adR a P0 P1 P2 j b (0 + i) = P0 i j := by
  unfold adR
  rw [Nat.zero_add, if_pos h]
theorem adR1 {a P0 P1 P2 j b i} (h : i < 160) : adR a P0 P1 P2 j b (8 + i) = P1 i j := by
  unfold adR
  rw [if_neg (by omega), if_pos (by omega), show 8 + i - 8 = i by omega]
theorem adR2 {a P0 P1 P2 j b i} (h : i < 24) : adR a P0 P1 P2 j b (168 + i) = P2 i j := by
  unfold adR
  rw [if_neg (by omega), if_neg (by omega), if_pos (by omega), show 168 + i - 168 = i by omega]
theorem adWs {a P3 P4 j b i} (h : i < 8) : adW a P3 P4 j b (9 + i) = P4 i (7 + j) := by
  unfold adW
  rw [if_neg (by omega), if_pos (by omega), show 9 + i - 9 = i by omega]
theorem adW0 {a P3 P4 j b i} : adW a P3 P4 j b (17 + 3 * i) = P3 i (2 + j) := by
  unfold adW
  rw [if_neg (by omega), if_neg (by omega), show (17 + 3 * i - 17) / 3 = i by omega, show (17 + 3 * i - 17) % 3 = 0 by omega]
theorem adW1 {a P3 P4 j b i} : adW a P3 P4 j b (18 + 3 * i) = P3 i (4 + j) := by
  unfold adW
  rw [if_neg (by omega), if_neg (by omega), show (18 + 3 * i - 17) / 3 = i by omega, show (18 + 3 * i - 17) % 3 = 1 by omega]
theorem adW2 {a P3 P4 j b i} : adW a P3 P4 j b (19 + 3 * i) = P3 i (6 + j) := by
  unfold adW
  rw [if_neg (by omega), if_neg (by omega), show (19 + 3 * i - 17) / 3 = i by omega, show (19 + 3 * i - 17) % 3 = 2 by omega]
theorem rc0s {i : Nat} (h : i < 8) : rcp (9 + i) = 32 := by
  unfold rcp
  rw [if_neg (by omega), if_pos (by omega)]
theorem rc00 {i : Nat} : rcp (17 + 3 * i) = 24 := by
  unfold rcp
  rw [if_neg (by omega), if_neg (by omega), if_pos (by omega)]
theorem rc01 {i : Nat} : rcp (18 + 3 * i) = 16 := by
  unfold rcp
  rw [if_neg (by omega), if_neg (by omega), if_neg (by omega)]
theorem rc02 {i : Nat} : rcp (19 + 3 * i) = 16 := by
  unfold rcp
  rw [if_neg (by omega), if_neg (by omega), if_neg (by omega)]
/-- places of a pool -/
def qR (b i j : Nat) : Nat × Nat := match j with
  | 0 => (5, b + i)
  | _ => (261, b + i)
def qS (i j : Nat) : Nat × Nat := match j with
  | 0 => (7, i)
  | 1 => (324, i)
  | 2 => (325, i)
  | 3 => (326, i)
  | 4 => (327, i)
  | 5 => (328, i)
  | 6 => (329, i)
  | 7 => (6, 9 + i)
  | _ => (98, 9 + i)
def qU (i j : Nat) : Nat × Nat := match j with
  | 0 => (9, i)
  | 1 => (400, i)
  | 2 => (6, 17 + 3 * i)
  | 3 => (98, 17 + 3 * i)
  | 4 => (6, 18 + 3 * i)
  | 5 => (98, 18 + 3 * i)
  | 6 => (6, 19 + 3 * i)
  | _ => (98, 19 + 3 * i)
def plG (w : Nat) (q : Nat → Nat → Nat × Nat) : Nat → List (Nat × Nat)
  | 0 => []
  | n + 1 => (List.range (w - 1)).map (fun j => q n (j + 1)) ++ (q n 0 :: plG w q n)
theorem plG_map {w : Nat} {q : Nat → Nat → Nat × Nat} {P : Nat → Nat → Nat} {f : Nat × Nat → Nat} (hw : 0 < w) : ∀ n, (∀ i j, i < n → j < w → f (q i j) = P i j) → (plG w q n).map f = plL w P n
  | 0, _ => rfl
  | n + 1, h => by
    unfold plG plL
    rw [List.map_append, List.map_cons, plG_map hw n (fun i j hi hj => h i j (by omega) hj), h n 0 (by omega) hw, List.map_map]
    congr 1
    refine List.map_congr_left (fun j hj => ?_)
    exact h n (j + 1) (by omega) (by have := List.mem_range.mp hj; omega)
theorem plG_all {w : Nat} {q : Nat → Nat → Nat × Nat} {Q : Nat × Nat → Prop} : ∀ {n : Nat}, (∀ i j, i < n → j < w + 1 → Q (q i j)) → ∀ x ∈ plG (w + 1) q n, Q x
  | 0, _ => fun _ h => nomatch h
  | n + 1, h => fun x hx => by
    unfold plG at hx
    rcases List.mem_append.mp hx with r | r
    · obtain ⟨j, hj, rfl⟩ := List.mem_map.mp r
      exact h n (j + 1) (by omega) (by have := List.mem_range.mp hj; omega)
    · rcases List.mem_cons.mp r with r | r
      · rw [r]; exact h n 0 (by omega) (by omega)
      · exact plG_all (fun i j hi hj => h i j (by omega) hj) x r
theorem fm_n {Q : Nat × Nat → Prop} : ∀ x ∈ ([] : List (Nat × Nat)), Q x := fun _ h => nomatch h
theorem fm_c {Q : Nat × Nat → Prop} {a : Nat × Nat} {l : List (Nat × Nat)} (h1 : Q a) (h2 : ∀ x ∈ l, Q x) : ∀ x ∈ a :: l, Q x := fun x hx => (List.mem_cons.mp hx).elim (fun e => e ▸ h1) (h2 x)
theorem fm_a {Q : Nat × Nat → Prop} {l m : List (Nat × Nat)} (h1 : ∀ x ∈ l, Q x) (h2 : ∀ x ∈ m, Q x) : ∀ x ∈ l ++ m, Q x := fun x hx => (List.mem_append.mp hx).elim (h1 x) (h2 x)
theorem nodup_inj {α : Type} {f : α → Nat} : ∀ {l : List α}, (l.map f).Nodup → ∀ x ∈ l, ∀ y ∈ l, f x = f y → x = y
  | [], _ => fun _ h => nomatch h
  | a :: l, hn => fun x hx y hy q => by
    rw [List.map_cons] at hn
    obtain ⟨h1, h2⟩ := List.nodup_cons.mp hn
    rcases List.mem_cons.mp hx with rx | rx <;> rcases List.mem_cons.mp hy with ry | ry
    · rw [rx, ry]
    · exact absurd (List.mem_map.mpr ⟨y, ry, by rw [← q, rx]⟩) h1
    · exact absurd (List.mem_map.mpr ⟨x, rx, by rw [q, ry]⟩) h1
    · exact nodup_inj h2 x rx y ry q
def LCp : List (Nat × Nat) := (11, 0) :: (((261, 195) :: []) ++ ((5, 195) :: (((261, 194) :: []) ++ ((5, 194) :: (((98, 8) :: ((6, 8) :: ((98, 7) :: ((6, 7) :: ((98, 6) :: ((6, 6) :: ((98, 5) :: ((6, 5) :: (plG 9 (qS) 8 ++ ((135, 0) :: (((104, 0) :: ((103, 0) :: ((98, 4) :: ((6, 4) :: ((98, 3) :: ((6, 3) :: ((98, 2) :: ((6, 2) :: [])))))))) ++ ((0, 0) :: [])))))))))))) ++ ((1, 0) :: (((357, 0) :: []) ++ ((8, 0) :: (((233, 0) :: ((232, 0) :: (((261, 193) :: []) ++ ((5, 193) :: [])))) ++ ((4, 0) :: (((179, 0) :: ((177, 0) :: ((175, 0) :: ((173, 0) :: ((172, 0) :: ((171, 0) :: ((170, 0) :: ((169, 0) :: ((168, 0) :: ((167, 0) :: (plG 8 (qU) 60 ++ ((165, 0) :: [])))))))))))) ++ ((2, 0) :: ((((261, 192) :: []) ++ ((5, 192) :: ((204, 0) :: ((203, 0) :: ((plG 2 (qR 168) 24 ++ ((202, 0) :: [])) ++ ((201, 0) :: ((200, 0) :: ((199, 0) :: ((198, 0) :: ((plG 2 (qR 8) 160 ++ ((197, 0) :: [])) ++ ((plG 2 (qR 0) 8 ++ ((196, 0) :: [])) ++ []))))))))))) ++ ((3, 0) :: (((420, 0) :: ((6, 0) :: ((98, 0) :: ((6, 1) :: ((98, 1) :: ((99, 0) :: [])))))) ++ ((10, 0) :: ((452, 0) :: [])))))))))))))))))

def LCs : List (Nat × Nat) := [(11, 0), (261, 195), (5, 195), (261, 194), (5, 194), (98, 8), (6, 8), (98, 7), (6, 7), (98, 6), (6, 6), (98, 5), (6, 5), (135, 0), (104, 0), (103, 0), (98, 4), (6, 4), (98, 3), (6, 3), (98, 2), (6, 2), (0, 0), (1, 0), (357, 0), (8, 0), (233, 0), (232, 0), (261, 193), (5, 193), (4, 0), (179, 0), (177, 0), (175, 0), (173, 0), (172, 0), (171, 0), (170, 0), (169, 0), (168, 0), (167, 0), (165, 0), (2, 0), (261, 192), (5, 192), (204, 0), (203, 0), (202, 0), (201, 0), (200, 0), (199, 0), (198, 0), (197, 0), (196, 0), (3, 0), (420, 0), (6, 0), (98, 0), (6, 1), (98, 1), (99, 0), (10, 0), (452, 0)]
set_option maxRecDepth 100000 in
theorem LCs_all : LCs.all (fun x => LCp.contains x) = true := by decide +kernel
theorem LCs_in {x : Nat × Nat} (h : LCs.contains x = true) : x ∈ LCp := by
  have := List.all_eq_true.mp LCs_all x (by simpa using h)
  simpa using this
theorem plG_mem {w : Nat} {q : Nat → Nat → Nat × Nat} {i j : Nat} (hj : j < w) : ∀ n, i < n → q i j ∈ plG w q n
  | 0, h => absurd h (Nat.not_lt_zero _)
  | n + 1, h => by
    unfold plG
    by_cases r : i = n
    · subst r
      cases j with
      | zero => exact List.mem_append_right _ List.mem_cons_self
      | succ j => exact List.mem_append_left _ (List.mem_map.mpr ⟨j, List.mem_range.mpr (by omega), rfl⟩)
    · exact List.mem_append_right _ (List.mem_cons_of_mem _ (plG_mem hj n (by omega)))
theorem in_P0 {x : Nat × Nat} (h : x ∈ plG 2 (qR 0) 8) : x ∈ LCp := List.mem_cons_of_mem _ (List.mem_append_right _ (List.mem_cons_of_mem _ (List.mem_append_right _ (List.mem_cons_of_mem _ (List.mem_append_right _ (List.mem_cons_of_mem _ (List.mem_append_right _ (List.mem_cons_of_mem _ (List.mem_append_right _ (List.mem_cons_of_mem _ (List.mem_append_right _ (List.mem_cons_of_mem _ (List.mem_append_left _ (List.mem_append_right _ (List.mem_cons_of_mem _ (List.mem_cons_of_mem _ (List.mem_cons_of_mem _ (List.mem_append_right _ (List.mem_cons_of_mem _ (List.mem_cons_of_mem _ (List.mem_cons_of_mem _ (List.mem_cons_of_mem _ (List.mem_append_right _ (List.mem_append_left _ (List.mem_append_left _ h)))))))))))))))))))))))))
theorem in_P1 {x : Nat × Nat} (h : x ∈ plG 2 (qR 8) 160) : x ∈ LCp := List.mem_cons_of_mem _ (List.mem_append_right _ (List.mem_cons_of_mem _ (List.mem_append_right _ (List.mem_cons_of_mem _ (List.mem_append_right _ (List.mem_cons_of_mem _ (List.mem_append_right _ (List.mem_cons_of_mem _ (List.mem_append_right _ (List.mem_cons_of_mem _ (List.mem_append_right _ (List.mem_cons_of_mem _ (List.mem_append_left _ (List.mem_append_right _ (List.mem_cons_of_mem _ (List.mem_cons_of_mem _ (List.mem_cons_of_mem _ (List.mem_append_right _ (List.mem_cons_of_mem _ (List.mem_cons_of_mem _ (List.mem_cons_of_mem _ (List.mem_cons_of_mem _ (List.mem_append_left _ (List.mem_append_left _ h))))))))))))))))))))))))
theorem in_P2 {x : Nat × Nat} (h : x ∈ plG 2 (qR 168) 24) : x ∈ LCp := List.mem_cons_of_mem _ (List.mem_append_right _ (List.mem_cons_of_mem _ (List.mem_append_right _ (List.mem_cons_of_mem _ (List.mem_append_right _ (List.mem_cons_of_mem _ (List.mem_append_right _ (List.mem_cons_of_mem _ (List.mem_append_right _ (List.mem_cons_of_mem _ (List.mem_append_right _ (List.mem_cons_of_mem _ (List.mem_append_left _ (List.mem_append_right _ (List.mem_cons_of_mem _ (List.mem_cons_of_mem _ (List.mem_cons_of_mem _ (List.mem_append_left _ (List.mem_append_left _ h)))))))))))))))))))
theorem in_P3 {x : Nat × Nat} (h : x ∈ plG 8 (qU) 60) : x ∈ LCp := List.mem_cons_of_mem _ (List.mem_append_right _ (List.mem_cons_of_mem _ (List.mem_append_right _ (List.mem_cons_of_mem _ (List.mem_append_right _ (List.mem_cons_of_mem _ (List.mem_append_right _ (List.mem_cons_of_mem _ (List.mem_append_right _ (List.mem_cons_of_mem _ (List.mem_append_left _ (List.mem_cons_of_mem _ (List.mem_cons_of_mem _ (List.mem_cons_of_mem _ (List.mem_cons_of_mem _ (List.mem_cons_of_mem _ (List.mem_cons_of_mem _ (List.mem_cons_of_mem _ (List.mem_cons_of_mem _ (List.mem_cons_of_mem _ (List.mem_cons_of_mem _ (List.mem_append_left _ h))))))))))))))))))))))
theorem in_P4 {x : Nat × Nat} (h : x ∈ plG 9 (qS) 8) : x ∈ LCp := List.mem_cons_of_mem _ (List.mem_append_right _ (List.mem_cons_of_mem _ (List.mem_append_right _ (List.mem_cons_of_mem _ (List.mem_append_left _ (List.mem_cons_of_mem _ (List.mem_cons_of_mem _ (List.mem_cons_of_mem _ (List.mem_cons_of_mem _ (List.mem_cons_of_mem _ (List.mem_cons_of_mem _ (List.mem_cons_of_mem _ (List.mem_cons_of_mem _ (List.mem_append_left _ h))))))))))))))
set_option maxRecDepth 100000 in
theorem LCp_mem {x : Nat × Nat} (h : x ∈ cd_LC) : x ∈ LCp := by
  have hR5 : ∀ i, i < 196 → (5, i) ∈ LCp := fun i hi => by
    by_cases h1 : i < 8
    · have := in_P0 (plG_mem (q := qR 0) (i := i) (j := 0) (by decide) 8 h1)
      rwa [show qR 0 i 0 = (5, i) from congrArg (fun z => (5, z)) (Nat.zero_add i)] at this
    by_cases h2 : i < 168
    · have := in_P1 (plG_mem (q := qR 8) (i := i - 8) (j := 0) (by decide) 160 (by omega))
      rwa [show qR 8 (i - 8) 0 = (5, i) from congrArg (fun z => (5, z)) (by omega)] at this
    by_cases h3 : i < 192
    · have := in_P2 (plG_mem (q := qR 168) (i := i - 168) (j := 0) (by decide) 24 (by omega))
      rwa [show qR 168 (i - 168) 0 = (5, i) from congrArg (fun z => (5, z)) (by omega)] at this
    rcases (show i = 192 ∨ i = 193 ∨ i = 194 ∨ i = 195 by omega) with rfl | rfl | rfl | rfl
    · exact LCs_in (by decide)
    · exact LCs_in (by decide)
    · exact LCs_in (by decide)
    · exact LCs_in (by decide)
  have hR261 : ∀ i, i < 196 → (261, i) ∈ LCp := fun i hi => by
    by_cases h1 : i < 8
    · have := in_P0 (plG_mem (q := qR 0) (i := i) (j := 1) (by decide) 8 h1)
      rwa [show qR 0 i 1 = (261, i) from congrArg (fun z => (261, z)) (Nat.zero_add i)] at this
    by_cases h2 : i < 168
    · have := in_P1 (plG_mem (q := qR 8) (i := i - 8) (j := 1) (by decide) 160 (by omega))
      rwa [show qR 8 (i - 8) 1 = (261, i) from congrArg (fun z => (261, z)) (by omega)] at this
    by_cases h3 : i < 192
    · have := in_P2 (plG_mem (q := qR 168) (i := i - 168) (j := 1) (by decide) 24 (by omega))
      rwa [show qR 168 (i - 168) 1 = (261, i) from congrArg (fun z => (261, z)) (by omega)] at this
    rcases (show i = 192 ∨ i = 193 ∨ i = 194 ∨ i = 195 by omega) with rfl | rfl | rfl | rfl
    · exact LCs_in (by decide)
    · exact LCs_in (by decide)
    · exact LCs_in (by decide)
    · exact LCs_in (by decide)
  have hW6 : ∀ i, i < 197 → (6, i) ∈ LCp := fun i hi => by
    by_cases h1 : i < 9
    · rcases (show i = 0 ∨ i = 1 ∨ i = 2 ∨ i = 3 ∨ i = 4 ∨ i = 5 ∨ i = 6 ∨ i = 7 ∨ i = 8 by omega) with rfl | rfl | rfl | rfl | rfl | rfl | rfl | rfl | rfl <;> exact LCs_in (by decide)
    by_cases h2 : i < 17
    · have := in_P4 (plG_mem (q := qS) (i := i - 9) (j := 7) (by decide) 8 (by omega))
      rwa [show qS (i - 9) 7 = (6, i) from congrArg (fun z => (6, z)) (by omega)] at this
    rcases (show (i - 17) % 3 = 0 ∨ (i - 17) % 3 = 1 ∨ (i - 17) % 3 = 2 by omega) with h3 | h3 | h3
    · have := in_P3 (plG_mem (q := qU) (i := (i - 17) / 3) (j := 2) (by decide) 60 (by omega))
      rwa [show qU ((i - 17) / 3) 2 = (6, i) from congrArg (fun z => (6, z)) (by omega)] at this
    · have := in_P3 (plG_mem (q := qU) (i := (i - 17) / 3) (j := 4) (by decide) 60 (by omega))
      rwa [show qU ((i - 17) / 3) 4 = (6, i) from congrArg (fun z => (6, z)) (by omega)] at this
    · have := in_P3 (plG_mem (q := qU) (i := (i - 17) / 3) (j := 6) (by decide) 60 (by omega))
      rwa [show qU ((i - 17) / 3) 6 = (6, i) from congrArg (fun z => (6, z)) (by omega)] at this
  have hW98 : ∀ i, i < 197 → (98, i) ∈ LCp := fun i hi => by
    by_cases h1 : i < 9
    · rcases (show i = 0 ∨ i = 1 ∨ i = 2 ∨ i = 3 ∨ i = 4 ∨ i = 5 ∨ i = 6 ∨ i = 7 ∨ i = 8 by omega) with rfl | rfl | rfl | rfl | rfl | rfl | rfl | rfl | rfl <;> exact LCs_in (by decide)
    by_cases h2 : i < 17
    · have := in_P4 (plG_mem (q := qS) (i := i - 9) (j := 8) (by decide) 8 (by omega))
      rwa [show qS (i - 9) 8 = (98, i) from congrArg (fun z => (98, z)) (by omega)] at this
    rcases (show (i - 17) % 3 = 0 ∨ (i - 17) % 3 = 1 ∨ (i - 17) % 3 = 2 by omega) with h3 | h3 | h3
    · have := in_P3 (plG_mem (q := qU) (i := (i - 17) / 3) (j := 3) (by decide) 60 (by omega))
      rwa [show qU ((i - 17) / 3) 3 = (98, i) from congrArg (fun z => (98, z)) (by omega)] at this
    · have := in_P3 (plG_mem (q := qU) (i := (i - 17) / 3) (j := 5) (by decide) 60 (by omega))
      rwa [show qU ((i - 17) / 3) 5 = (98, i) from congrArg (fun z => (98, z)) (by omega)] at this
    · have := in_P3 (plG_mem (q := qU) (i := (i - 17) / 3) (j := 7) (by decide) 60 (by omega))
      rwa [show qU ((i - 17) / 3) 7 = (98, i) from congrArg (fun z => (98, z)) (by omega)] at this
  unfold cd_LC at h
  rcases List.mem_append.mp h with h | h
  · obtain ⟨c, hc, h⟩ := List.mem_flatMap.mp h
    obtain ⟨i, hi, rfl⟩ := List.mem_map.mp h
    have hc := List.mem_range.mp hc
    have hi := List.mem_range.mp hi
    rcases (show c = 0 ∨ c = 1 ∨ c = 2 ∨ c = 3 ∨ c = 4 ∨ c = 5 ∨ c = 6 ∨ c = 7 ∨ c = 8 ∨ c = 9 ∨ c = 10 ∨ c = 11 by omega) with rfl | rfl | rfl | rfl | rfl | rfl | rfl | rfl | rfl | rfl | rfl | rfl
    · obtain rfl : i = 0 := Nat.lt_one_iff.mp hi
      exact LCs_in (by decide)
    · obtain rfl : i = 0 := Nat.lt_one_iff.mp hi
      exact LCs_in (by decide)
    · obtain rfl : i = 0 := Nat.lt_one_iff.mp hi
      exact LCs_in (by decide)
    · obtain rfl : i = 0 := Nat.lt_one_iff.mp hi
      exact LCs_in (by decide)
    · obtain rfl : i = 0 := Nat.lt_one_iff.mp hi
      exact LCs_in (by decide)
    · exact hR5 i hi
    · exact hW6 i hi
    · exact in_P4 (plG_mem (q := qS) (i := i) (j := 0) (by decide) 8 hi)
    · obtain rfl : i = 0 := Nat.lt_one_iff.mp hi
      exact LCs_in (by decide)
    · exact in_P3 (plG_mem (q := qU) (i := i) (j := 0) (by decide) 60 hi)
    · obtain rfl : i = 0 := Nat.lt_one_iff.mp hi
      exact LCs_in (by decide)
    · obtain rfl : i = 0 := Nat.lt_one_iff.mp hi
      exact LCs_in (by decide)
  rcases List.mem_append.mp h with h | h
  · obtain ⟨f, hf, h⟩ := List.mem_flatMap.mp h
    obtain ⟨i, hi, rfl⟩ := List.mem_map.mp h
    have hi := List.mem_range.mp hi
    simp only [cd_arrs, List.mem_cons, List.not_mem_nil, or_false] at hf
    rcases hf with rfl | rfl | rfl | rfl | rfl | rfl | rfl | rfl | rfl | rfl | rfl | rfl | rfl | rfl | rfl | rfl | rfl | rfl | rfl | rfl | rfl | rfl | rfl | rfl | rfl | rfl | rfl | rfl | rfl | rfl | rfl | rfl | rfl | rfl | rfl | rfl
    · obtain rfl : i = 0 := Nat.lt_one_iff.mp hi
      exact LCs_in (by decide)
    · obtain rfl : i = 0 := Nat.lt_one_iff.mp hi
      exact LCs_in (by decide)
    · obtain rfl : i = 0 := Nat.lt_one_iff.mp hi
      exact LCs_in (by decide)
    · obtain rfl : i = 0 := Nat.lt_one_iff.mp hi
      exact LCs_in (by decide)
    · obtain rfl : i = 0 := Nat.lt_one_iff.mp hi
      exact LCs_in (by decide)
    · obtain rfl : i = 0 := Nat.lt_one_iff.mp hi
      exact LCs_in (by decide)
    · obtain rfl : i = 0 := Nat.lt_one_iff.mp hi
      exact LCs_in (by decide)
    · obtain rfl : i = 0 := Nat.lt_one_iff.mp hi
      exact LCs_in (by decide)
    · obtain rfl : i = 0 := Nat.lt_one_iff.mp hi
      exact LCs_in (by decide)
    · obtain rfl : i = 0 := Nat.lt_one_iff.mp hi
      exact LCs_in (by decide)
    · obtain rfl : i = 0 := Nat.lt_one_iff.mp hi
      exact LCs_in (by decide)
    · obtain rfl : i = 0 := Nat.lt_one_iff.mp hi
      exact LCs_in (by decide)
    · obtain rfl : i = 0 := Nat.lt_one_iff.mp hi
      exact LCs_in (by decide)
    · obtain rfl : i = 0 := Nat.lt_one_iff.mp hi
      exact LCs_in (by decide)
    · obtain rfl : i = 0 := Nat.lt_one_iff.mp hi
      exact LCs_in (by decide)
    · obtain rfl : i = 0 := Nat.lt_one_iff.mp hi
      exact LCs_in (by decide)
    · obtain rfl : i = 0 := Nat.lt_one_iff.mp hi
      exact LCs_in (by decide)
    · obtain rfl : i = 0 := Nat.lt_one_iff.mp hi
      exact LCs_in (by decide)
    · obtain rfl : i = 0 := Nat.lt_one_iff.mp hi
      exact LCs_in (by decide)
    · obtain rfl : i = 0 := Nat.lt_one_iff.mp hi
      exact LCs_in (by decide)
    · obtain rfl : i = 0 := Nat.lt_one_iff.mp hi
      exact LCs_in (by decide)
    · obtain rfl : i = 0 := Nat.lt_one_iff.mp hi
      exact LCs_in (by decide)
    · obtain rfl : i = 0 := Nat.lt_one_iff.mp hi
      exact LCs_in (by decide)
    · obtain rfl : i = 0 := Nat.lt_one_iff.mp hi
      exact LCs_in (by decide)
    · obtain rfl : i = 0 := Nat.lt_one_iff.mp hi
      exact LCs_in (by decide)
    · exact hR261 i hi
    · exact in_P4 (plG_mem (q := qS) (i := i) (j := 1) (by decide) 8 hi)
    · exact in_P4 (plG_mem (q := qS) (i := i) (j := 2) (by decide) 8 hi)
    · exact in_P4 (plG_mem (q := qS) (i := i) (j := 3) (by decide) 8 hi)
    · exact in_P4 (plG_mem (q := qS) (i := i) (j := 4) (by decide) 8 hi)
    · exact in_P4 (plG_mem (q := qS) (i := i) (j := 5) (by decide) 8 hi)
    · exact in_P4 (plG_mem (q := qS) (i := i) (j := 6) (by decide) 8 hi)
    · obtain rfl : i = 0 := Nat.lt_one_iff.mp hi
      exact LCs_in (by decide)
    · exact in_P3 (plG_mem (q := qU) (i := i) (j := 1) (by decide) 60 hi)
    · obtain rfl : i = 0 := Nat.lt_one_iff.mp hi
      exact LCs_in (by decide)
    · obtain rfl : i = 0 := Nat.lt_one_iff.mp hi
      exact LCs_in (by decide)
  rcases List.mem_append.mp h with h | h
  · obtain ⟨i, hi, rfl⟩ := List.mem_map.mp h
    exact hW98 i (List.mem_range.mp hi)
  · rw [List.mem_singleton.mp h]
    exact LCs_in (by decide)

section
variable {cA : Nat → ClassId} {kf : Nat → Int64} {h : Nat} {u : hp_M} {a : Nat → Nat} {P0 P1 P2 P3 P4 : Nat → Nat → Nat}
/-- place x holds its first contents -/
def Q0 (cA : Nat → ClassId) (kf : Nat → Int64) (h : Nat) (u : hp_M) (a : Nat → Nat) (P0 P1 P2 P3 P4 : Nat → Nat → Nat) (x : Nat × Nat) : Prop :=
  u (cd_AD (ad0 h a P0 P1 P2 P3 P4) (ca0 a P3 P4) x) = some (cd_cell cA (ad0 h a P0 P1 P2 P3 P4) (ca0 a P3 P4) (cd_s0 kf) x)

set_option maxRecDepth 100000 in
theorem Q_P0 (hp : ∀ i, i < 8 → pl_is 2 (K_Right cA) u (P0 i)) (i j : Nat) (hi : i < 8) (hj : j < 2) : Q0 cA kf h u a P0 P1 P2 P3 P4 (qR 0 i j) := by
  rcases (show j = 0 ∨ j = 1 by omega) with rfl | rfl
  · show u (adR a P0 P1 P2 0 3000 (0 + i)) = some (.inr (5, [.long 0, .ref (adR a P0 P1 P2 1 4000 (0 + i)), .int 0, .int 0]))
    rw [adR0 hi, adR0 hi]
    exact hp i hi 0 (by decide)
  · show u (adR a P0 P1 P2 1 4000 (0 + i)) = some (.inl (cA 2, 5, .inr (.inl (fun _ => 0))))
    rw [adR0 hi]
    exact hp i hi 1 (by decide)
set_option maxRecDepth 100000 in
theorem Q_P1 (hp : ∀ i, i < 160 → pl_is 2 (K_Right cA) u (P1 i)) (i j : Nat) (hi : i < 160) (hj : j < 2) : Q0 cA kf h u a P0 P1 P2 P3 P4 (qR 8 i j) := by
  rcases (show j = 0 ∨ j = 1 by omega) with rfl | rfl
  · show u (adR a P0 P1 P2 0 3000 (8 + i)) = some (.inr (5, [.long 0, .ref (adR a P0 P1 P2 1 4000 (8 + i)), .int 0, .int 0]))
    rw [adR1 hi, adR1 hi]
    exact hp i hi 0 (by decide)
  · show u (adR a P0 P1 P2 1 4000 (8 + i)) = some (.inl (cA 2, 5, .inr (.inl (fun _ => 0))))
    rw [adR1 hi]
    exact hp i hi 1 (by decide)
set_option maxRecDepth 100000 in
theorem Q_P2 (hp : ∀ i, i < 24 → pl_is 2 (K_Right cA) u (P2 i)) (i j : Nat) (hi : i < 24) (hj : j < 2) : Q0 cA kf h u a P0 P1 P2 P3 P4 (qR 168 i j) := by
  rcases (show j = 0 ∨ j = 1 by omega) with rfl | rfl
  · show u (adR a P0 P1 P2 0 3000 (168 + i)) = some (.inr (5, [.long 0, .ref (adR a P0 P1 P2 1 4000 (168 + i)), .int 0, .int 0]))
    rw [adR2 hi, adR2 hi]
    exact hp i hi 0 (by decide)
  · show u (adR a P0 P1 P2 1 4000 (168 + i)) = some (.inl (cA 2, 5, .inr (.inl (fun _ => 0))))
    rw [adR2 hi]
    exact hp i hi 1 (by decide)
set_option maxRecDepth 100000 in
theorem Q_P4 (hp : ∀ i, i < 8 → pl_is 9 (K_Strand cA) u (P4 i)) (i j : Nat) (hi : i < 8) (hj : j < 9) : Q0 cA kf h u a P0 P1 P2 P3 P4 (qS i j) := by
  rcases (show j = 0 ∨ j = 1 ∨ j = 2 ∨ j = 3 ∨ j = 4 ∨ j = 5 ∨ j = 6 ∨ j = 7 ∨ j = 8 by omega) with rfl | rfl | rfl | rfl | rfl | rfl | rfl | rfl | rfl
  · show u (P4 i 0) = some (.inr (7, [.ref (P4 i 1), .ref (P4 i 2), .ref (P4 i 3), .ref (P4 i 4), .ref (P4 i 5), .ref (P4 i 6), .ref (adW a P3 P4 0 1000 (9 + 1 * i)), .int 0, .int 0, .int 0, .int 0, .int 0, .long 0, .int 0, .null, .int 0, .int 0, .int 0]))
    rw [Nat.one_mul, adWs hi]
    exact hp i hi 0 (by decide)
  · exact hp i hi 1 (by decide)
  · exact hp i hi 2 (by decide)
  · exact hp i hi 3 (by decide)
  · exact hp i hi 4 (by decide)
  · exact hp i hi 5 (by decide)
  · exact hp i hi 6 (by decide)
  · show u (adW a P3 P4 0 1000 (9 + i)) = some (.inr (6, [.ref (adW a P3 P4 1 2000 (9 + i)), .int 0]))
    rw [adWs hi, adWs hi]
    exact hp i hi 7 (by decide)
  · show u (adW a P3 P4 1 2000 (9 + i)) = some (.inl (cA 2, rcp (9 + i), .inr (.inl (fun _ => 0))))
    rw [adWs hi, rc0s hi]
    exact hp i hi 8 (by decide)
set_option maxRecDepth 100000 in
theorem Q_P3 (hp : ∀ i, i < 60 → pl_is 8 (K_Unit cA) u (P3 i)) (i j : Nat) (hi : i < 60) (hj : j < 8) : Q0 cA kf h u a P0 P1 P2 P3 P4 (qU i j) := by
  rcases (show j = 0 ∨ j = 1 ∨ j = 2 ∨ j = 3 ∨ j = 4 ∨ j = 5 ∨ j = 6 ∨ j = 7 by omega) with rfl | rfl | rfl | rfl | rfl | rfl | rfl | rfl
  · show u (P3 i 0) = some (.inr (9, [.int 0, .int 0, .int 0, .int 0, .int 0, .long 0, .int 0, .int 0, .int 0, .int 0, .int 0, .int 0, .ref (P3 i 1), .int 0, .int 0, .ref (adW a P3 P4 0 1000 (17 + 3 * i)), .ref (adW a P3 P4 0 1000 (18 + 3 * i)), .ref (adW a P3 P4 0 1000 (19 + 3 * i))]))
    rw [adW0, adW1, adW2]
    exact hp i hi 0 (by decide)
  · exact hp i hi 1 (by decide)
  · show u (adW a P3 P4 0 1000 (17 + 3 * i)) = some (.inr (6, [.ref (adW a P3 P4 1 2000 (17 + 3 * i)), .int 0]))
    rw [adW0, adW0]
    exact hp i hi 2 (by decide)
  · show u (adW a P3 P4 1 2000 (17 + 3 * i)) = some (.inl (cA 2, rcp (17 + 3 * i), .inr (.inl (fun _ => 0))))
    rw [adW0, rc00]
    exact hp i hi 3 (by decide)
  · show u (adW a P3 P4 0 1000 (18 + 3 * i)) = some (.inr (6, [.ref (adW a P3 P4 1 2000 (18 + 3 * i)), .int 0]))
    rw [adW1, adW1]
    exact hp i hi 4 (by decide)
  · show u (adW a P3 P4 1 2000 (18 + 3 * i)) = some (.inl (cA 2, rcp (18 + 3 * i), .inr (.inl (fun _ => 0))))
    rw [adW1, rc01]
    exact hp i hi 5 (by decide)
  · show u (adW a P3 P4 0 1000 (19 + 3 * i)) = some (.inr (6, [.ref (adW a P3 P4 1 2000 (19 + 3 * i)), .int 0]))
    rw [adW2, adW2]
    exact hp i hi 6 (by decide)
  · show u (adW a P3 P4 1 2000 (19 + 3 * i)) = some (.inl (cA 2, rcp (19 + 3 * i), .inr (.inl (fun _ => 0))))
    rw [adW2, rc02]
    exact hp i hi 7 (by decide)
theorem row_P0 : pl_row P0 8 = fun j => if j < 8 then some (adR a P0 P1 P2 0 3000 (0 + j)) else none := by
  funext j
  unfold pl_row
  by_cases q : j < 8
  · rw [if_pos q, if_pos q, adR0 q]
  · rw [if_neg q, if_neg q]
theorem row_P1 : pl_row P1 160 = fun j => if j < 160 then some (adR a P0 P1 P2 0 3000 (8 + j)) else none := by
  funext j
  unfold pl_row
  by_cases q : j < 160
  · rw [if_pos q, if_pos q, adR1 q]
  · rw [if_neg q, if_neg q]
theorem row_P2 : pl_row P2 24 = fun j => if j < 24 then some (adR a P0 P1 P2 0 3000 (168 + j)) else none := by
  funext j
  unfold pl_row
  by_cases q : j < 24
  · rw [if_pos q, if_pos q, adR2 q]
  · rw [if_neg q, if_neg q]
theorem row_P3 : pl_row P3 60 = fun j => if j < 60 then some (P3 (0 + j) 0) else none := by
  funext j
  unfold pl_row
  rw [Nat.zero_add]
theorem row_P4 : pl_row P4 8 = fun j => if j < 8 then some (P4 (0 + j) 0) else none := by
  funext j
  unfold pl_row
  rw [Nat.zero_add]
set_option maxRecDepth 100000 in
set_option maxHeartbeats 4000000 in
theorem q_4195 (f : u (a 4195) = some (.inl (cA 2, 5, .inr (.inl (fun _ => 0))))) : Q0 cA kf h u a P0 P1 P2 P3 P4 (261, 195) := f
set_option maxRecDepth 100000 in
set_option maxHeartbeats 4000000 in
theorem q_3195 (f : u (a 3195) = some (.inr (5, [.long 0, .ref (a 4195), .int 0, .int 0]))) : Q0 cA kf h u a P0 P1 P2 P3 P4 (5, 195) := f
set_option maxRecDepth 100000 in
set_option maxHeartbeats 4000000 in
theorem q_4194 (f : u (a 4194) = some (.inl (cA 2, 5, .inr (.inl (fun _ => 0))))) : Q0 cA kf h u a P0 P1 P2 P3 P4 (261, 194) := f
set_option maxRecDepth 100000 in
set_option maxHeartbeats 4000000 in
theorem q_3194 (f : u (a 3194) = some (.inr (5, [.long 0, .ref (a 4194), .int 0, .int 0]))) : Q0 cA kf h u a P0 P1 P2 P3 P4 (5, 194) := f
set_option maxRecDepth 100000 in
set_option maxHeartbeats 4000000 in
theorem q_2008 (f : u (a 2008) = some (.inl (cA 2, 80, .inr (.inl (fun _ => 0))))) : Q0 cA kf h u a P0 P1 P2 P3 P4 (98, 8) := f
set_option maxRecDepth 100000 in
set_option maxHeartbeats 4000000 in
theorem q_1008 (f : u (a 1008) = some (.inr (6, [.ref (a 2008), .int 0]))) : Q0 cA kf h u a P0 P1 P2 P3 P4 (6, 8) := f
set_option maxRecDepth 100000 in
set_option maxHeartbeats 4000000 in
theorem q_2007 (f : u (a 2007) = some (.inl (cA 2, 64, .inr (.inl (fun _ => 0))))) : Q0 cA kf h u a P0 P1 P2 P3 P4 (98, 7) := f
set_option maxRecDepth 100000 in
set_option maxHeartbeats 4000000 in
theorem q_1007 (f : u (a 1007) = some (.inr (6, [.ref (a 2007), .int 0]))) : Q0 cA kf h u a P0 P1 P2 P3 P4 (6, 7) := f
set_option maxRecDepth 100000 in
set_option maxHeartbeats 4000000 in
theorem q_2006 (f : u (a 2006) = some (.inl (cA 2, 32, .inr (.inl (fun _ => 0))))) : Q0 cA kf h u a P0 P1 P2 P3 P4 (98, 6) := f
set_option maxRecDepth 100000 in
set_option maxHeartbeats 4000000 in
theorem q_1006 (f : u (a 1006) = some (.inr (6, [.ref (a 2006), .int 0]))) : Q0 cA kf h u a P0 P1 P2 P3 P4 (6, 6) := f
set_option maxRecDepth 100000 in
set_option maxHeartbeats 4000000 in
theorem q_2005 (f : u (a 2005) = some (.inl (cA 2, 48, .inr (.inl (fun _ => 0))))) : Q0 cA kf h u a P0 P1 P2 P3 P4 (98, 5) := f
set_option maxRecDepth 100000 in
set_option maxHeartbeats 4000000 in
theorem q_1005 (f : u (a 1005) = some (.inr (6, [.ref (a 2005), .int 0]))) : Q0 cA kf h u a P0 P1 P2 P3 P4 (6, 5) := f
set_option maxRecDepth 100000 in
set_option maxHeartbeats 4000000 in
theorem q_135 (f : u (a 135) = some (.inl (cA 5, 8, .inr (.inr (.inr (.inr (pl_row P4 8))))))) : Q0 cA kf h u a P0 P1 P2 P3 P4 (135, 0) := by
  rw [row_P4] at f
  exact f
set_option maxRecDepth 100000 in
set_option maxHeartbeats 4000000 in
theorem q_104 (f : u (a 104) = some (.inl (cA 1, 14, .inl (fun _ => 0)))) : Q0 cA kf h u a P0 P1 P2 P3 P4 (104, 0) := f
set_option maxRecDepth 100000 in
set_option maxHeartbeats 4000000 in
theorem q_103 (f : u (a 103) = some (.inl (cA 1, 256, .inl (fun _ => 0)))) : Q0 cA kf h u a P0 P1 P2 P3 P4 (103, 0) := f
set_option maxRecDepth 100000 in
set_option maxHeartbeats 4000000 in
theorem q_2004 (f : u (a 2004) = some (.inl (cA 2, 16, .inr (.inl (fun _ => 0))))) : Q0 cA kf h u a P0 P1 P2 P3 P4 (98, 4) := f
set_option maxRecDepth 100000 in
set_option maxHeartbeats 4000000 in
theorem q_1004 (f : u (a 1004) = some (.inr (6, [.ref (a 2004), .int 0]))) : Q0 cA kf h u a P0 P1 P2 P3 P4 (6, 4) := f
set_option maxRecDepth 100000 in
set_option maxHeartbeats 4000000 in
theorem q_2003 (f : u (a 2003) = some (.inl (cA 2, 32, .inr (.inl (fun _ => 0))))) : Q0 cA kf h u a P0 P1 P2 P3 P4 (98, 3) := f
set_option maxRecDepth 100000 in
set_option maxHeartbeats 4000000 in
theorem q_1003 (f : u (a 1003) = some (.inr (6, [.ref (a 2003), .int 0]))) : Q0 cA kf h u a P0 P1 P2 P3 P4 (6, 3) := f
set_option maxRecDepth 100000 in
set_option maxHeartbeats 4000000 in
theorem q_2002 (f : u (a 2002) = some (.inl (cA 2, 16, .inr (.inl (fun _ => 0))))) : Q0 cA kf h u a P0 P1 P2 P3 P4 (98, 2) := f
set_option maxRecDepth 100000 in
set_option maxHeartbeats 4000000 in
theorem q_1002 (f : u (a 1002) = some (.inr (6, [.ref (a 2002), .int 0]))) : Q0 cA kf h u a P0 P1 P2 P3 P4 (6, 2) := f
set_option maxRecDepth 100000 in
set_option maxHeartbeats 4000000 in
theorem q_0 (f : u (a 0) = some (.inr (0, [.ref (a 1002), .ref (a 1003), .ref (a 1004), .ref (a 103), .ref (a 104), .int 0]))) : Q0 cA kf h u a P0 P1 P2 P3 P4 (0, 0) := f
set_option maxRecDepth 100000 in
set_option maxHeartbeats 4000000 in
theorem q_1 (f : u (a 1) = some (.inr (1, [.ref (a 2), .ref (a 3), .ref (a 0), .ref (a 135), .ref (a 1005), .ref (a 1006), .ref (a 1007), .ref (a 1008), .int 0, .int 0, .int 0, .int 0, .int 0, .int 0, .int 0, .int 0, .int 0, .int 0, .ref (P4 0 0), .int 0]))) : Q0 cA kf h u a P0 P1 P2 P3 P4 (1, 0) := f
set_option maxRecDepth 100000 in
set_option maxHeartbeats 4000000 in
theorem q_357 (f : u (a 357) = some (.inl (cA 1, 60, .inl (fun _ => 0)))) : Q0 cA kf h u a P0 P1 P2 P3 P4 (357, 0) := f
set_option maxRecDepth 100000 in
set_option maxHeartbeats 4000000 in
theorem q_8 (f : u (a 8) = some (.inr (8, [.ref (a 2), .ref (a 357), .int 0, .int 0, .int 0]))) : Q0 cA kf h u a P0 P1 P2 P3 P4 (8, 0) := f
set_option maxRecDepth 100000 in
set_option maxHeartbeats 4000000 in
theorem q_233 (f : u (a 233) = some (.inl (cA 1, 12, .inl (fun _ => 0)))) : Q0 cA kf h u a P0 P1 P2 P3 P4 (233, 0) := f
set_option maxRecDepth 100000 in
set_option maxHeartbeats 4000000 in
theorem q_232 (f : u (a 232) = some (.inl (cA 2, 12, .inr (.inl (fun _ => 0))))) : Q0 cA kf h u a P0 P1 P2 P3 P4 (232, 0) := f
set_option maxRecDepth 100000 in
set_option maxHeartbeats 4000000 in
theorem q_4193 (f : u (a 4193) = some (.inl (cA 2, 5, .inr (.inl (fun _ => 0))))) : Q0 cA kf h u a P0 P1 P2 P3 P4 (261, 193) := f
set_option maxRecDepth 100000 in
set_option maxHeartbeats 4000000 in
theorem q_3193 (f : u (a 3193) = some (.inr (5, [.long 0, .ref (a 4193), .int 0, .int 0]))) : Q0 cA kf h u a P0 P1 P2 P3 P4 (5, 193) := f
set_option maxRecDepth 100000 in
set_option maxHeartbeats 4000000 in
theorem q_4 (f : u (a 4) = some (.inr (4, [.ref (a 10), .ref (a 2), .ref (a 3), .ref (a 3193), .ref (a 232), .ref (a 233), .int 0, .ref (P3 (un_ix 0) 0), .ref (P3 (un_ix 0) 0), .int 0, .int 0, .int 0, .int (-1)]))) : Q0 cA kf h u a P0 P1 P2 P3 P4 (4, 0) := by
  rw [un_ix0] at f
  exact f
set_option maxRecDepth 100000 in
set_option maxHeartbeats 4000000 in
theorem q_179 (f : u (a 179) = some (.inl (cA 1, 400, .inl (fun _ => 0)))) : Q0 cA kf h u a P0 P1 P2 P3 P4 (179, 0) := f
set_option maxRecDepth 100000 in
set_option maxHeartbeats 4000000 in
theorem q_177 (f : u (a 177) = some (.inl (cA 2, 400, .inr (.inl (fun _ => 0))))) : Q0 cA kf h u a P0 P1 P2 P3 P4 (177, 0) := f
set_option maxRecDepth 100000 in
set_option maxHeartbeats 4000000 in
theorem q_175 (f : u (a 175) = some (.inl (cA 1, 400, .inl (fun _ => 0)))) : Q0 cA kf h u a P0 P1 P2 P3 P4 (175, 0) := f
set_option maxRecDepth 100000 in
set_option maxHeartbeats 4000000 in
theorem q_173 (f : u (a 173) = some (.inl (cA 1, 8, .inl (fun _ => 0)))) : Q0 cA kf h u a P0 P1 P2 P3 P4 (173, 0) := f
set_option maxRecDepth 100000 in
set_option maxHeartbeats 4000000 in
theorem q_172 (f : u (a 172) = some (.inl (cA 1, 96, .inl (fun _ => 0)))) : Q0 cA kf h u a P0 P1 P2 P3 P4 (172, 0) := f
set_option maxRecDepth 100000 in
set_option maxHeartbeats 4000000 in
theorem q_171 (f : u (a 171) = some (.inl (cA 1, 8, .inl (fun _ => 0)))) : Q0 cA kf h u a P0 P1 P2 P3 P4 (171, 0) := f
set_option maxRecDepth 100000 in
set_option maxHeartbeats 4000000 in
theorem q_170 (f : u (a 170) = some (.inl (cA 1, 8, .inl (fun _ => 0)))) : Q0 cA kf h u a P0 P1 P2 P3 P4 (170, 0) := f
set_option maxRecDepth 100000 in
set_option maxHeartbeats 4000000 in
theorem q_169 (f : u (a 169) = some (.inl (cA 2, 32, .inr (.inl (fun _ => 0))))) : Q0 cA kf h u a P0 P1 P2 P3 P4 (169, 0) := f
set_option maxRecDepth 100000 in
set_option maxHeartbeats 4000000 in
theorem q_168 (f : u (a 168) = some (.inl (cA 1, 8, .inl (fun _ => 0)))) : Q0 cA kf h u a P0 P1 P2 P3 P4 (168, 0) := f
set_option maxRecDepth 100000 in
set_option maxHeartbeats 4000000 in
theorem q_167 (f : u (a 167) = some (.inl (cA 2, 8, .inr (.inl (fun _ => 0))))) : Q0 cA kf h u a P0 P1 P2 P3 P4 (167, 0) := f
set_option maxRecDepth 100000 in
set_option maxHeartbeats 4000000 in
theorem q_165 (f : u (a 165) = some (.inl (cA 6, 60, .inr (.inr (.inr (.inr (pl_row P3 60))))))) : Q0 cA kf h u a P0 P1 P2 P3 P4 (165, 0) := by
  rw [row_P3] at f
  exact f
set_option maxRecDepth 100000 in
set_option maxHeartbeats 4000000 in
theorem q_2 (f : u (a 2) = some (.inr (2, [.ref (a 3), .ref (a 165), .int 0, .ref (a 167), .ref (a 168), .ref (a 169), .ref (a 170), .ref (a 171), .ref (a 172), .ref (a 173), .int 0, .ref (a 175), .int 0, .ref (a 177), .int 0, .ref (a 179)]))) : Q0 cA kf h u a P0 P1 P2 P3 P4 (2, 0) := f
set_option maxRecDepth 100000 in
set_option maxHeartbeats 4000000 in
theorem q_4192 (f : u (a 4192) = some (.inl (cA 2, 5, .inr (.inl (fun _ => 0))))) : Q0 cA kf h u a P0 P1 P2 P3 P4 (261, 192) := f
set_option maxRecDepth 100000 in
set_option maxHeartbeats 4000000 in
theorem q_3192 (f : u (a 3192) = some (.inr (5, [.long 0, .ref (a 4192), .int 0, .int 0]))) : Q0 cA kf h u a P0 P1 P2 P3 P4 (5, 192) := f
set_option maxRecDepth 100000 in
set_option maxHeartbeats 4000000 in
theorem q_204 (f : u (a 204) = some (.inl (cA 1, 24, .inl (fun _ => 0)))) : Q0 cA kf h u a P0 P1 P2 P3 P4 (204, 0) := f
set_option maxRecDepth 100000 in
set_option maxHeartbeats 4000000 in
theorem q_203 (f : u (a 203) = some (.inl (cA 3, 24, .inl (fun _ => 0)))) : Q0 cA kf h u a P0 P1 P2 P3 P4 (203, 0) := f
set_option maxRecDepth 100000 in
set_option maxHeartbeats 4000000 in
theorem q_202 (f : u (a 202) = some (.inl (cA 4, 24, .inr (.inr (.inr (.inr (pl_row P2 24))))))) : Q0 cA kf h u a P0 P1 P2 P3 P4 (202, 0) := by
  rw [row_P2 (a := a) (P0 := P0) (P1 := P1) (P2 := P2)] at f
  exact f
set_option maxRecDepth 100000 in
set_option maxHeartbeats 4000000 in
theorem q_201 (f : u (a 201) = some (.inl (cA 1, 8, .inl (fun _ => 0)))) : Q0 cA kf h u a P0 P1 P2 P3 P4 (201, 0) := f
set_option maxRecDepth 100000 in
set_option maxHeartbeats 4000000 in
theorem q_200 (f : u (a 200) = some (.inl (cA 1, 8, .inl (fun _ => 0)))) : Q0 cA kf h u a P0 P1 P2 P3 P4 (200, 0) := f
set_option maxRecDepth 100000 in
set_option maxHeartbeats 4000000 in
theorem q_199 (f : u (a 199) = some (.inl (cA 1, 12, .inl (fun _ => 0)))) : Q0 cA kf h u a P0 P1 P2 P3 P4 (199, 0) := f
set_option maxRecDepth 100000 in
set_option maxHeartbeats 4000000 in
theorem q_198 (f : u (a 198) = some (.inl (cA 1, 8, .inl (fun _ => 0)))) : Q0 cA kf h u a P0 P1 P2 P3 P4 (198, 0) := f
set_option maxRecDepth 100000 in
set_option maxHeartbeats 4000000 in
theorem q_197 (f : u (a 197) = some (.inl (cA 4, 160, .inr (.inr (.inr (.inr (pl_row P1 160))))))) : Q0 cA kf h u a P0 P1 P2 P3 P4 (197, 0) := by
  rw [row_P1 (a := a) (P0 := P0) (P1 := P1) (P2 := P2)] at f
  exact f
set_option maxRecDepth 100000 in
set_option maxHeartbeats 4000000 in
theorem q_196 (f : u (a 196) = some (.inl (cA 4, 8, .inr (.inr (.inr (.inr (pl_row P0 8))))))) : Q0 cA kf h u a P0 P1 P2 P3 P4 (196, 0) := by
  rw [row_P0 (a := a) (P0 := P0) (P1 := P1) (P2 := P2)] at f
  exact f
set_option maxRecDepth 100000 in
set_option maxHeartbeats 4000000 in
theorem q_3 (f : u (a 3) = some (.inr (3, [.ref (a 196), .ref (a 197), .ref (a 198), .ref (a 199), .ref (a 200), .ref (a 201), .ref (a 202), .ref (a 203), .ref (a 204), .ref (a 3192), .int 0, .int 0, .int 0, .int 0]))) : Q0 cA kf h u a P0 P1 P2 P3 P4 (3, 0) := f
set_option maxRecDepth 100000 in
set_option maxHeartbeats 4000000 in
theorem q_420 (f : u (a 420) = some (.inl (cA 2, 23, .inr (.inl kf)))) : Q0 cA kf h u a P0 P1 P2 P3 P4 (420, 0) := f
set_option maxRecDepth 100000 in
set_option maxHeartbeats 4000000 in
theorem q_1000 (f : u (a 1000) = some (.inr (6, [.ref (a 2000), .int 0]))) : Q0 cA kf h u a P0 P1 P2 P3 P4 (6, 0) := f
set_option maxRecDepth 100000 in
set_option maxHeartbeats 4000000 in
theorem q_2000 (f : u (a 2000) = some (.inl (cA 2, 192, .inr (.inl (fun _ => 0))))) : Q0 cA kf h u a P0 P1 P2 P3 P4 (98, 0) := f
set_option maxRecDepth 100000 in
set_option maxHeartbeats 4000000 in
theorem q_1001 (f : u (a 1001) = some (.inr (6, [.ref (a 2001), .int 0]))) : Q0 cA kf h u a P0 P1 P2 P3 P4 (6, 1) := f
set_option maxRecDepth 100000 in
set_option maxHeartbeats 4000000 in
theorem q_2001 (f : u (a 2001) = some (.inl (cA 2, 64, .inr (.inl (fun _ => 0))))) : Q0 cA kf h u a P0 P1 P2 P3 P4 (98, 1) := f
set_option maxRecDepth 100000 in
set_option maxHeartbeats 4000000 in
theorem q_99 (f : u (a 99) = some (.inl (cA 0, 1, .inl (fun _ => 0)))) : Q0 cA kf h u a P0 P1 P2 P3 P4 (99, 0) := f
set_option maxRecDepth 100000 in
set_option maxHeartbeats 4000000 in
theorem q_10 (f : u (a 10) = some (.inr (10, [.ref (a 420), .ref (a 1000), .ref (a 1001), .ref (a 99), .int 0, .int 0, .int 0, .int 0, .int 0, .int 0, .long 0]))) : Q0 cA kf h u a P0 P1 P2 P3 P4 (10, 0) := f
set_option maxRecDepth 100000 in
set_option maxHeartbeats 4000000 in
theorem q_452 (f : u (a 452) = some (.inl (cA 0, 3000, .inl (fun _ => 0)))) : Q0 cA kf h u a P0 P1 P2 P3 P4 (452, 0) := f
set_option maxRecDepth 100000 in
set_option maxHeartbeats 4000000 in
theorem q_h (f : u h = some (.inr (11, [.ref (a 452), .int 0, .ref (a 10), .ref (a 3), .ref (a 2), .ref (a 4), .ref (a 8), .ref (a 1), .ref (a 3194), .ref (a 3195), .int 0, .int 0]))) : Q0 cA kf h u a P0 P1 P2 P3 P4 (11, 0) := f
set_option maxRecDepth 100000 in
set_option maxHeartbeats 4000000 in
theorem cd_first {g : hp_M} (hp : nw h g u (((a 4195) :: []) ++ ((a 3195) :: (((a 4194) :: []) ++ ((a 3194) :: (((a 2008) :: ((a 1008) :: ((a 2007) :: ((a 1007) :: ((a 2006) :: ((a 1006) :: ((a 2005) :: ((a 1005) :: (plL 9 P4 8 ++ ((a 135) :: (((a 104) :: ((a 103) :: ((a 2004) :: ((a 1004) :: ((a 2003) :: ((a 1003) :: ((a 2002) :: ((a 1002) :: [])))))))) ++ ((a 0) :: [])))))))))))) ++ ((a 1) :: (((a 357) :: []) ++ ((a 8) :: (((a 233) :: ((a 232) :: (((a 4193) :: []) ++ ((a 3193) :: [])))) ++ ((a 4) :: (((a 179) :: ((a 177) :: ((a 175) :: ((a 173) :: ((a 172) :: ((a 171) :: ((a 170) :: ((a 169) :: ((a 168) :: ((a 167) :: (plL 8 P3 60 ++ ((a 165) :: [])))))))))))) ++ ((a 2) :: ((((a 4192) :: []) ++ ((a 3192) :: ((a 204) :: ((a 203) :: ((plL 2 P2 24 ++ ((a 202) :: [])) ++ ((a 201) :: ((a 200) :: ((a 199) :: ((a 198) :: ((plL 2 P1 160 ++ ((a 197) :: [])) ++ ((plL 2 P0 8 ++ ((a 196) :: [])) ++ []))))))))))) ++ ((a 3) :: (((a 420) :: ((a 1000) :: ((a 2000) :: ((a 1001) :: ((a 2001) :: ((a 99) :: [])))))) ++ ((a 10) :: ((a 452) :: []))))))))))))))))) ∧ u h = some (.inr (11, [.ref (a 452), .int 0, .ref (a 10), .ref (a 3), .ref (a 2), .ref (a 4), .ref (a 8), .ref (a 1), .ref (a 3194), .ref (a 3195), .int 0, .int 0])) ∧ u (a 4195) = some (.inl (cA 2, 5, .inr (.inl (fun _ => 0)))) ∧ u (a 3195) = some (.inr (5, [.long 0, .ref (a 4195), .int 0, .int 0])) ∧ u (a 4194) = some (.inl (cA 2, 5, .inr (.inl (fun _ => 0)))) ∧ u (a 3194) = some (.inr (5, [.long 0, .ref (a 4194), .int 0, .int 0])) ∧ u (a 2008) = some (.inl (cA 2, 80, .inr (.inl (fun _ => 0)))) ∧ u (a 1008) = some (.inr (6, [.ref (a 2008), .int 0])) ∧ u (a 2007) = some (.inl (cA 2, 64, .inr (.inl (fun _ => 0)))) ∧ u (a 1007) = some (.inr (6, [.ref (a 2007), .int 0])) ∧ u (a 2006) = some (.inl (cA 2, 32, .inr (.inl (fun _ => 0)))) ∧ u (a 1006) = some (.inr (6, [.ref (a 2006), .int 0])) ∧ u (a 2005) = some (.inl (cA 2, 48, .inr (.inl (fun _ => 0)))) ∧ u (a 1005) = some (.inr (6, [.ref (a 2005), .int 0])) ∧ u (a 135) = some (.inl (cA 5, 8, .inr (.inr (.inr (.inr (pl_row P4 8)))))) ∧ u (a 104) = some (.inl (cA 1, 14, .inl (fun _ => 0))) ∧ u (a 103) = some (.inl (cA 1, 256, .inl (fun _ => 0))) ∧ u (a 2004) = some (.inl (cA 2, 16, .inr (.inl (fun _ => 0)))) ∧ u (a 1004) = some (.inr (6, [.ref (a 2004), .int 0])) ∧ u (a 2003) = some (.inl (cA 2, 32, .inr (.inl (fun _ => 0)))) ∧ u (a 1003) = some (.inr (6, [.ref (a 2003), .int 0])) ∧ u (a 2002) = some (.inl (cA 2, 16, .inr (.inl (fun _ => 0)))) ∧ u (a 1002) = some (.inr (6, [.ref (a 2002), .int 0])) ∧ u (a 0) = some (.inr (0, [.ref (a 1002), .ref (a 1003), .ref (a 1004), .ref (a 103), .ref (a 104), .int 0])) ∧ u (a 1) = some (.inr (1, [.ref (a 2), .ref (a 3), .ref (a 0), .ref (a 135), .ref (a 1005), .ref (a 1006), .ref (a 1007), .ref (a 1008), .int 0, .int 0, .int 0, .int 0, .int 0, .int 0, .int 0, .int 0, .int 0, .int 0, .ref (P4 0 0), .int 0])) ∧ u (a 357) = some (.inl (cA 1, 60, .inl (fun _ => 0))) ∧ u (a 8) = some (.inr (8, [.ref (a 2), .ref (a 357), .int 0, .int 0, .int 0])) ∧ u (a 233) = some (.inl (cA 1, 12, .inl (fun _ => 0))) ∧ u (a 232) = some (.inl (cA 2, 12, .inr (.inl (fun _ => 0)))) ∧ u (a 4193) = some (.inl (cA 2, 5, .inr (.inl (fun _ => 0)))) ∧ u (a 3193) = some (.inr (5, [.long 0, .ref (a 4193), .int 0, .int 0])) ∧ u (a 4) = some (.inr (4, [.ref (a 10), .ref (a 2), .ref (a 3), .ref (a 3193), .ref (a 232), .ref (a 233), .int 0, .ref (P3 (un_ix 0) 0), .ref (P3 (un_ix 0) 0), .int 0, .int 0, .int 0, .int (-1)])) ∧ u (a 179) = some (.inl (cA 1, 400, .inl (fun _ => 0))) ∧ u (a 177) = some (.inl (cA 2, 400, .inr (.inl (fun _ => 0)))) ∧ u (a 175) = some (.inl (cA 1, 400, .inl (fun _ => 0))) ∧ u (a 173) = some (.inl (cA 1, 8, .inl (fun _ => 0))) ∧ u (a 172) = some (.inl (cA 1, 96, .inl (fun _ => 0))) ∧ u (a 171) = some (.inl (cA 1, 8, .inl (fun _ => 0))) ∧ u (a 170) = some (.inl (cA 1, 8, .inl (fun _ => 0))) ∧ u (a 169) = some (.inl (cA 2, 32, .inr (.inl (fun _ => 0)))) ∧ u (a 168) = some (.inl (cA 1, 8, .inl (fun _ => 0))) ∧ u (a 167) = some (.inl (cA 2, 8, .inr (.inl (fun _ => 0)))) ∧ u (a 165) = some (.inl (cA 6, 60, .inr (.inr (.inr (.inr (pl_row P3 60)))))) ∧ u (a 2) = some (.inr (2, [.ref (a 3), .ref (a 165), .int 0, .ref (a 167), .ref (a 168), .ref (a 169), .ref (a 170), .ref (a 171), .ref (a 172), .ref (a 173), .int 0, .ref (a 175), .int 0, .ref (a 177), .int 0, .ref (a 179)])) ∧ u (a 4192) = some (.inl (cA 2, 5, .inr (.inl (fun _ => 0)))) ∧ u (a 3192) = some (.inr (5, [.long 0, .ref (a 4192), .int 0, .int 0])) ∧ u (a 204) = some (.inl (cA 1, 24, .inl (fun _ => 0))) ∧ u (a 203) = some (.inl (cA 3, 24, .inl (fun _ => 0))) ∧ u (a 202) = some (.inl (cA 4, 24, .inr (.inr (.inr (.inr (pl_row P2 24)))))) ∧ u (a 201) = some (.inl (cA 1, 8, .inl (fun _ => 0))) ∧ u (a 200) = some (.inl (cA 1, 8, .inl (fun _ => 0))) ∧ u (a 199) = some (.inl (cA 1, 12, .inl (fun _ => 0))) ∧ u (a 198) = some (.inl (cA 1, 8, .inl (fun _ => 0))) ∧ u (a 197) = some (.inl (cA 4, 160, .inr (.inr (.inr (.inr (pl_row P1 160)))))) ∧ u (a 196) = some (.inl (cA 4, 8, .inr (.inr (.inr (.inr (pl_row P0 8)))))) ∧ u (a 3) = some (.inr (3, [.ref (a 196), .ref (a 197), .ref (a 198), .ref (a 199), .ref (a 200), .ref (a 201), .ref (a 202), .ref (a 203), .ref (a 204), .ref (a 3192), .int 0, .int 0, .int 0, .int 0])) ∧ u (a 420) = some (.inl (cA 2, 23, .inr (.inl kf))) ∧ u (a 1000) = some (.inr (6, [.ref (a 2000), .int 0])) ∧ u (a 2000) = some (.inl (cA 2, 192, .inr (.inl (fun _ => 0)))) ∧ u (a 1001) = some (.inr (6, [.ref (a 2001), .int 0])) ∧ u (a 2001) = some (.inl (cA 2, 64, .inr (.inl (fun _ => 0)))) ∧ u (a 99) = some (.inl (cA 0, 1, .inl (fun _ => 0))) ∧ u (a 10) = some (.inr (10, [.ref (a 420), .ref (a 1000), .ref (a 1001), .ref (a 99), .int 0, .int 0, .int 0, .int 0, .int 0, .int 0, .long 0])) ∧ u (a 452) = some (.inl (cA 0, 3000, .inl (fun _ => 0))) ∧ (∀ a, a < 8 → pl_is 2 (K_Right cA) u (P0 a)) ∧ (∀ a, a < 160 → pl_is 2 (K_Right cA) u (P1 a)) ∧ (∀ a, a < 24 → pl_is 2 (K_Right cA) u (P2 a)) ∧ (∀ a, a < 60 → pl_is 8 (K_Unit cA) u (P3 a)) ∧ (∀ a, a < 8 → pl_is 9 (K_Strand cA) u (P4 a))) :
    ∃ (ad : Nat → Nat → Nat) (ca : Nat → Nat), ad 11 0 = h ∧ cd_inj ad ca ∧ (∀ x ∈ cd_LC, u (cd_AD ad ca x) = some (cd_cell cA ad ca (cd_s0 kf) x)) ∧ ∀ x ∈ cd_LC, cd_AD ad ca x = h ∨ g (cd_AD ad ca x) = none := by
  obtain ⟨v, fh, f4195, f3195, f4194, f3194, f2008, f1008, f2007, f1007, f2006, f1006, f2005, f1005, f135, f104, f103, f2004, f1004, f2003, f1003, f2002, f1002, f0, f1, f357, f8, f233, f232, f4193, f3193, f4, f179, f177, f175, f173, f172, f171, f170, f169, f168, f167, f165, f2, f4192, f3192, f204, f203, f202, f201, f200, f199, f198, f197, f196, f3, f420, f1000, f2000, f1001, f2001, f99, f10, f452, pP0, pP1, pP2, pP3, pP4⟩ := hp
  have all : ∀ x ∈ LCp, Q0 cA kf h u a P0 P1 P2 P3 P4 x := fm_c (q_h fh) (fm_a (fm_c (q_4195 f4195) fm_n) (fm_c (q_3195 f3195) (fm_a (fm_c (q_4194 f4194) fm_n) (fm_c (q_3194 f3194) (fm_a (fm_c (q_2008 f2008) (fm_c (q_1008 f1008) (fm_c (q_2007 f2007) (fm_c (q_1007 f1007) (fm_c (q_2006 f2006) (fm_c (q_1006 f1006) (fm_c (q_2005 f2005) (fm_c (q_1005 f1005) (fm_a (plG_all (Q_P4 pP4)) (fm_c (q_135 f135) (fm_a (fm_c (q_104 f104) (fm_c (q_103 f103) (fm_c (q_2004 f2004) (fm_c (q_1004 f1004) (fm_c (q_2003 f2003) (fm_c (q_1003 f1003) (fm_c (q_2002 f2002) (fm_c (q_1002 f1002) fm_n)))))))) (fm_c (q_0 f0) fm_n)))))))))))) (fm_c (q_1 f1) (fm_a (fm_c (q_357 f357) fm_n) (fm_c (q_8 f8) (fm_a (fm_c (q_233 f233) (fm_c (q_232 f232) (fm_a (fm_c (q_4193 f4193) fm_n) (fm_c (q_3193 f3193) fm_n)))) (fm_c (q_4 f4) (fm_a (fm_c (q_179 f179) (fm_c (q_177 f177) (fm_c (q_175 f175) (fm_c (q_173 f173) (fm_c (q_172 f172) (fm_c (q_171 f171) (fm_c (q_170 f170) (fm_c (q_169 f169) (fm_c (q_168 f168) (fm_c (q_167 f167) (fm_a (plG_all (Q_P3 pP3)) (fm_c (q_165 f165) fm_n)))))))))))) (fm_c (q_2 f2) (fm_a (fm_a (fm_c (q_4192 f4192) fm_n) (fm_c (q_3192 f3192) (fm_c (q_204 f204) (fm_c (q_203 f203) (fm_a (fm_a (plG_all (Q_P2 pP2)) (fm_c (q_202 f202) fm_n)) (fm_c (q_201 f201) (fm_c (q_200 f200) (fm_c (q_199 f199) (fm_c (q_198 f198) (fm_a (fm_a (plG_all (Q_P1 pP1)) (fm_c (q_197 f197) fm_n)) (fm_a (fm_a (plG_all (Q_P0 pP0)) (fm_c (q_196 f196) fm_n)) fm_n))))))))))) (fm_c (q_3 f3) (fm_a (fm_c (q_420 f420) (fm_c (q_1000 f1000) (fm_c (q_2000 f2000) (fm_c (q_1001 f1001) (fm_c (q_2001 f2001) (fm_c (q_99 f99) fm_n)))))) (fm_c (q_10 f10) (fm_c (q_452 f452) fm_n)))))))))))))))))
  have hL : LCp.map (cd_AD (ad0 h a P0 P1 P2 P3 P4) (ca0 a P3 P4)) = h :: (((a 4195) :: []) ++ ((a 3195) :: (((a 4194) :: []) ++ ((a 3194) :: (((a 2008) :: ((a 1008) :: ((a 2007) :: ((a 1007) :: ((a 2006) :: ((a 1006) :: ((a 2005) :: ((a 1005) :: (plL 9 P4 8 ++ ((a 135) :: (((a 104) :: ((a 103) :: ((a 2004) :: ((a 1004) :: ((a 2003) :: ((a 1003) :: ((a 2002) :: ((a 1002) :: [])))))))) ++ ((a 0) :: [])))))))))))) ++ ((a 1) :: (((a 357) :: []) ++ ((a 8) :: (((a 233) :: ((a 232) :: (((a 4193) :: []) ++ ((a 3193) :: [])))) ++ ((a 4) :: (((a 179) :: ((a 177) :: ((a 175) :: ((a 173) :: ((a 172) :: ((a 171) :: ((a 170) :: ((a 169) :: ((a 168) :: ((a 167) :: (plL 8 P3 60 ++ ((a 165) :: [])))))))))))) ++ ((a 2) :: ((((a 4192) :: []) ++ ((a 3192) :: ((a 204) :: ((a 203) :: ((plL 2 P2 24 ++ ((a 202) :: [])) ++ ((a 201) :: ((a 200) :: ((a 199) :: ((a 198) :: ((plL 2 P1 160 ++ ((a 197) :: [])) ++ ((plL 2 P0 8 ++ ((a 196) :: [])) ++ []))))))))))) ++ ((a 3) :: (((a 420) :: ((a 1000) :: ((a 2000) :: ((a 1001) :: ((a 2001) :: ((a 99) :: [])))))) ++ ((a 10) :: ((a 452) :: []))))))))))))))))) := by
    unfold LCp
    simp only [List.map_cons, List.map_append, List.map_nil]
    rw [plG_map (w := 2) (q := qR 0) (P := P0) (by decide) 8 ?_, plG_map (w := 2) (q := qR 8) (P := P1) (by decide) 160 ?_, plG_map (w := 2) (q := qR 168) (P := P2) (by decide) 24 ?_, plG_map (w := 8) (q := qU) (P := P3) (by decide) 60 ?_, plG_map (w := 9) (q := qS) (P := P4) (by decide) 8 ?_]
    · rfl
    · intro i j hi hj
      rcases (show j = 0 ∨ j = 1 ∨ j = 2 ∨ j = 3 ∨ j = 4 ∨ j = 5 ∨ j = 6 ∨ j = 7 ∨ j = 8 by omega) with rfl | rfl | rfl | rfl | rfl | rfl | rfl | rfl | rfl
      · rfl
      · rfl
      · rfl
      · rfl
      · rfl
      · rfl
      · rfl
      · exact adWs hi
      · exact adWs hi
    · intro i j hi hj
      rcases (show j = 0 ∨ j = 1 ∨ j = 2 ∨ j = 3 ∨ j = 4 ∨ j = 5 ∨ j = 6 ∨ j = 7 by omega) with rfl | rfl | rfl | rfl | rfl | rfl | rfl | rfl
      · rfl
      · rfl
      · exact adW0
      · exact adW0
      · exact adW1
      · exact adW1
      · exact adW2
      · exact adW2
    · intro i j hi hj
      rcases (show j = 0 ∨ j = 1 by omega) with rfl | rfl
      · exact adR2 hi
      · exact adR2 hi
    · intro i j hi hj
      rcases (show j = 0 ∨ j = 1 by omega) with rfl | rfl
      · exact adR1 hi
      · exact adR1 hi
    · intro i j hi hj
      rcases (show j = 0 ∨ j = 1 by omega) with rfl | rfl
      · exact adR0 hi
      · exact adR0 hi
  have hN : (LCp.map (cd_AD (ad0 h a P0 P1 P2 P3 P4) (ca0 a P3 P4))).Nodup := by
    rw [hL]
    exact List.nodup_cons.mpr ⟨fun m => v.nh m rfl, v.2.2.2.2⟩
  refine ⟨ad0 h a P0 P1 P2 P3 P4, ca0 a P3 P4, rfl, fun x hx y hy q => nodup_inj hN x (LCp_mem hx) y (LCp_mem hy) q, fun x hx => all x (LCp_mem hx), fun x hx => ?_⟩
  have hm : cd_AD (ad0 h a P0 P1 P2 P3 P4) (ca0 a P3 P4) x ∈ LCp.map (cd_AD (ad0 h a P0 P1 P2 P3 P4) (ca0 a P3 P4)) := List.mem_map.mpr ⟨x, LCp_mem hx, rfl⟩
  rw [hL] at hm
  rcases List.mem_cons.mp hm with r | r
  · exact Or.inl r
  · exact Or.inr (v.2.2.2.1 _ r).1
end
