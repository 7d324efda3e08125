noncomputable def f_J7_fill_3_L5 (n : Nat) (l1 : Int32) (l3 : Int32) (j : Nat) : cd_S → Int32 → Option (cd_S × Int32) :=
  Nat.rec (motive := fun _ => cd_S → Int32 → Option (cd_S × Int32)) (fun _ _ => none) (fun _ lp => fun (σ : cd_S) (l2 : Int32) =>
  if l3 ≤ l2 then (some (σ, l2)) else (Option.bind (cstA σ 3 0 l2 l1) fun σ1 => lp σ1 ((l2 + 1)))) j
noncomputable def f_J7_fill_3 (n : Nat) (σ0 : cd_S) (a1 : Int32) : Option (Int32 × cd_S) :=
  Option.bind (f_J7_fill_3_L5 n a1 256 n σ0 0) fun q2 => some (((0 : Int32), q2.1))
noncomputable def f_J7_fill_257_L5 (n : Nat) (l1 : Int32) (l3 : Int32) (j : Nat) : cd_S → Int32 → Option (cd_S × Int32) :=
  Nat.rec (motive := fun _ => cd_S → Int32 → Option (cd_S × Int32)) (fun _ _ => none) (fun _ lp => fun (σ : cd_S) (l2 : Int32) =>
  if l3 ≤ l2 then (some (σ, l2)) else (Option.bind (cstA σ 257 0 l2 l1) fun σ1 => lp σ1 ((l2 + 1)))) j
noncomputable def f_J7_fill_257 (n : Nat) (σ0 : cd_S) (a1 : Int32) : Option (Int32 × cd_S) :=
  Option.bind (f_J7_fill_257_L5 n a1 60 n σ0 0) fun q2 => some (((0 : Int32), q2.1))
noncomputable def f_X6_cut (n : Nat) (σ0 : cd_S) (a0 : Nat) (a1 : Int32) : Option (Int32 × cd_S) :=
  if a1 < 0 then (some (((0 : Int32), σ0))) else (if (cI σ0 193 a0) ≤ a1 then (some (((0 : Int32), σ0))) else (Option.bind (some (cSI σ0 193 a0 a1)) fun σ1 => some (((0 : Int32), σ1))))
noncomputable def f_X0_clear (n : Nat) (σ0 : cd_S) : Option (Int32 × cd_S) :=
  Option.bind (f_X6_cut n σ0 2 (0 : Int32)) fun p1 => Option.bind (f_X6_cut n p1.2 3 (0 : Int32)) fun p2 => Option.bind (f_X6_cut n p2.2 4 (0 : Int32)) fun p3 => Option.bind (f_J7_fill_3 n p3.2 (((-1) : Int32))) fun p4 => some (((0 : Int32), p4.2))
noncomputable def f_X0_made (n : Nat) (σ0 : cd_S) : Option (Int32 × cd_S) :=
  some (((cI σ0 193 2), σ0))
noncomputable def f_X6_at (n : Nat) (σ0 : cd_S) (a0 : Nat) (a1 : Int32) : Option (Int32 × cd_S) :=
  if a1 < 0 then (some (((0 : Int32), σ0))) else (if (cI σ0 193 a0) ≤ a1 then (some (((0 : Int32), σ0))) else (Option.bind (cldF σ0 a0 a1) fun v1 => some (((v1.toInt32), σ0))))
noncomputable def f_X0_productCount_J33 (n : Nat) (σ : cd_S) (l1 : Int32) (t0 : Int32) : Option (Int32 × cd_S) :=
  Option.bind (f_X6_at n σ 2 l1) fun p1 => some (((t0 - p1.1), p1.2))
noncomputable def f_X0_productCount (n : Nat) (σ0 : cd_S) (a1 : Int32) : Option (Int32 × cd_S) :=
  if (cI σ0 193 2) ≤ (a1 + 1) then (f_X0_productCount_J33 n σ0 a1 ((cI σ0 193 3))) else (Option.bind (f_X6_at n σ0 2 ((a1 + 1))) fun p2 => f_X0_productCount_J33 n p2.2 a1 (p2.1))
noncomputable def f_X0_product (n : Nat) (σ0 : cd_S) (a1 : Int32) (a2 : Int32) : Option (Int32 × cd_S) :=
  Option.bind (f_X6_at n σ0 2 a1) fun p1 => Option.bind (f_X6_at n p1.2 3 ((p1.1 + a2))) fun p2 => some ((p2.1, p2.2))
noncomputable def f_X0_grants_J47 (n : Nat) (l1 : Int32) (l2 : Int32) (lp : cd_S → Int32 → Int32 → Option (cd_S × Int32 × Int32)) (σ : cd_S) (l4 : Int32) (t0 : Int32) : Option (cd_S × Int32 × Int32) :=
  lp σ t0 ((l4 + 1))
noncomputable def f_X0_grants_L14 (n : Nat) (l1 : Int32) (l2 : Int32) (j : Nat) : cd_S → Int32 → Int32 → Option (cd_S × Int32 × Int32) :=
  Nat.rec (motive := fun _ => cd_S → Int32 → Int32 → Option (cd_S × Int32 × Int32)) (fun _ _ _ => none) (fun _ lp => fun (σ : cd_S) (l3 : Int32) (l4 : Int32) =>
  if l3 = 0 then (Option.bind (f_X0_productCount n σ l1) fun p1 => if p1.1 ≤ l4 then (some (p1.2, l3, l4)) else (Option.bind (f_X0_product n p1.2 l1 l4) fun p2 => if (p2.1 &&& (l2 ^^^ (-1))) = 0 then (f_X0_grants_J47 n l1 l2 lp p2.2 l4 1) else (f_X0_grants_J47 n l1 l2 lp p2.2 l4 0))) else (some (σ, l3, l4))) j
noncomputable def f_X0_grants_J10 (n : Nat) (σ : cd_S) (l1 : Int32) (l2 : Int32) (t0 : Int32) : Option (Int32 × cd_S) :=
  Option.bind (f_X0_grants_L14 n l1 l2 n σ t0 0) fun q3 => Option.bind (md_zb (q3.2.1)) fun z4 => some ((z4, q3.1))
noncomputable def f_X0_grants (n : Nat) (σ0 : cd_S) (a1 : Int32) (a2 : Int32) : Option (Int32 × cd_S) :=
  if a1 = ((-1) : Int32) then (f_X0_grants_J10 n σ0 a1 a2 1) else (f_X0_grants_J10 n σ0 a1 a2 0)
noncomputable def f_X0_addDraft (n : Nat) (σ0 : cd_S) (a1 : Int32) : Option (Int32 × cd_S) :=
  if (14 : Int32) ≤ (cI σ0 5 0) then (some (((0 : Int32), σ0))) else (Option.bind (cstA σ0 4 0 ((cI σ0 5 0)) a1) fun σ1 => Option.bind (some (cSI σ1 5 0 (((cI σ1 5 0) + 1)))) fun σ2 => some (((0 : Int32), σ2)))
noncomputable def f_X0_load_L18 (n : Nat) (l1 : Int32) (j : Nat) : cd_S → Int32 → Option (cd_S × Int32) :=
  Nat.rec (motive := fun _ => cd_S → Int32 → Option (cd_S × Int32)) (fun _ _ => none) (fun _ lp => fun (σ : cd_S) (l2 : Int32) =>
  Option.bind (f_X0_productCount n σ l1) fun p2 => if p2.1 ≤ l2 then (some (p2.2, l2)) else (Option.bind (f_X0_product n p2.2 l1 l2) fun p3 => Option.bind (f_X0_addDraft n p3.2 (p3.1)) fun p4 => lp p4.2 ((l2 + 1)))) j
noncomputable def f_X0_load (n : Nat) (σ0 : cd_S) (a1 : Int32) : Option (Int32 × cd_S) :=
  Option.bind (some (cSI σ0 5 0 0)) fun σ1 => if a1 = ((-1) : Int32) then (Option.bind (f_X0_addDraft n σ1 (0 : Int32)) fun p6 => some (((0 : Int32), p6.2))) else (Option.bind (f_X0_load_L18 n a1 n σ1 0) fun q5 => some (((0 : Int32), q5.1)))
noncomputable def f_X0_bucketOf_L7 (n : Nat) (j : Nat) : cd_S → Int32 → Int32 → Option (cd_S × Int32 × Int32) :=
  Nat.rec (motive := fun _ => cd_S → Int32 → Int32 → Option (cd_S × Int32 × Int32)) (fun _ _ _ => none) (fun _ lp => fun (σ : cd_S) (l1 : Int32) (l2 : Int32) =>
  if (cI σ 5 0) ≤ l2 then (some (σ, l1, l2)) else (Option.bind (cldA σ 4 0 l2) fun v1 => lp σ (((l1 * 31) + v1)) ((l2 + 1)))) j
noncomputable def f_X0_bucketOf (n : Nat) (σ0 : cd_S) : Option (Int32 × cd_S) :=
  Option.bind (f_X0_bucketOf_L7 n n σ0 ((cI σ0 5 0)) 0) fun q2 => some ((((q2.2.1 ^^^ ((q2.2.1.toUInt32 >>> ((13 : Int32).toUInt32 &&& Int32.toUInt32 31)).toInt32)) &&& 255), q2.1))
noncomputable def f_X0_isDraft_J103 (n : Nat) (l2 : Int32) (lp : cd_S → Int32 → Int32 → Option (cd_S × Int32 × Int32)) (σ : cd_S) (l5 : Int32) (t0 : Int32) : Option (cd_S × Int32 × Int32) :=
  lp σ t0 ((l5 + 1))
noncomputable def f_X0_isDraft_L63 (n : Nat) (l2 : Int32) (j : Nat) : cd_S → Int32 → Int32 → Option (cd_S × Int32 × Int32) :=
  Nat.rec (motive := fun _ => cd_S → Int32 → Int32 → Option (cd_S × Int32 × Int32)) (fun _ _ _ => none) (fun _ lp => fun (σ : cd_S) (l4 : Int32) (l5 : Int32) =>
  if l4 = 0 then (some (σ, l4, l5)) else (if (cI σ 5 0) ≤ l5 then (some (σ, l4, l5)) else (Option.bind (f_X6_at n σ 3 ((l2 + l5))) fun p1 => Option.bind (cldA p1.2 4 0 l5) fun v2 => if p1.1 = v2 then (f_X0_isDraft_J103 n l2 lp p1.2 l5 1) else (f_X0_isDraft_J103 n l2 lp p1.2 l5 0)))) j
noncomputable def f_X0_isDraft_J58 (n : Nat) (σ : cd_S) (l2 : Int32) (t0 : Int32) : Option (Int32 × cd_S) :=
  Option.bind (f_X0_isDraft_L63 n l2 n σ t0 0) fun q3 => Option.bind (md_zb (q3.2.1)) fun z4 => some ((z4, q3.1))
noncomputable def f_X0_isDraft_J42 (n : Nat) (σ : cd_S) (l2 : Int32) (t0 : Int32) : Option (Int32 × cd_S) :=
  if (t0 - l2) = (cI σ 5 0) then (f_X0_isDraft_J58 n σ l2 1) else (f_X0_isDraft_J58 n σ l2 0)
noncomputable def f_X0_isDraft (n : Nat) (σ0 : cd_S) (a1 : Int32) : Option (Int32 × cd_S) :=
  Option.bind (f_X6_at n σ0 2 a1) fun p5 => if (cI p5.2 193 2) ≤ (a1 + 1) then (f_X0_isDraft_J42 n p5.2 (p5.1) ((cI p5.2 193 3))) else (Option.bind (f_X6_at n p5.2 2 ((a1 + 1))) fun p6 => f_X0_isDraft_J42 n p6.2 (p5.1) (p6.1))
noncomputable def f_X6_add_J39 (n : Nat) (a0 : Nat) (σ : cd_S) (b : cd_B) (l1 : Int64) : Option (Int32 × cd_S × cd_B) :=
  Option.bind (cstF σ a0 ((cI σ 193 a0)) l1) fun σ1 => Option.bind (some (cSI σ1 193 a0 (((cI σ1 193 a0) + 1)))) fun σ2 => some (((0 : Int32), σ2, b))
noncomputable def f_X6_add (n : Nat) (σ0 : cd_S) (b0 : cd_B) (a0 : Nat) (a1 : Int64) : Option (Int32 × cd_S × cd_B) :=
  cd_ck (fun (q : (Int32 × cd_S × cd_B)) => q.2.2) b0 <| if (cI σ0 193 a0) < (1048576 : Int32) then (if (cI σ0 193 a0) < (Int32.ofNat (cRC σ0 a0)) then (f_X6_add_J39 n a0 σ0 b0 a1) else (Option.bind (cd_grow σ0 b0 a0 (((cI σ0 193 a0) * 2))) fun p3 => cd_ck (fun (q : (Int32 × cd_S × cd_B)) => q.2.2) (p3.2) <| f_X6_add_J39 n a0 p3.1 (p3.2) a1)) else (some (((0 : Int32), σ0, b0)))
noncomputable def f_X0_keep_L25 (n : Nat) (l1 : Int32) (l2 : Int32) (j : Nat) : cd_S → cd_B → Int32 → Option (cd_S × cd_B × Int32) :=
  Nat.rec (motive := fun _ => cd_S → cd_B → Int32 → Option (cd_S × cd_B × Int32)) (fun _ _ _ => none) (fun _ lp => fun (σ : cd_S) (b : cd_B) (l3 : Int32) =>
  if (cI σ 5 0) ≤ l3 then (some (σ, b, l3)) else (Option.bind (cldA σ 4 0 l3) fun v3 => Option.bind (f_X6_add n σ b 3 ((v3.toInt64))) fun p4 => cd_ck (fun (q : cd_S × cd_B × Int32) => q.2.1) (p4.2.2) <| lp p4.2.1 (p4.2.2) ((l3 + 1)))) j
noncomputable def f_X0_keep (n : Nat) (σ0 : cd_S) (b0 : cd_B) (a1 : Int32) : Option (Int32 × cd_S × cd_B) :=
  cd_ck (fun (q : (Int32 × cd_S × cd_B)) => q.2.2) b0 <| Option.bind (f_X6_add n σ0 b0 2 (((cI σ0 193 3).toInt64))) fun p1 => cd_ck (fun (q : (Int32 × cd_S × cd_B)) => q.2.2) (p1.2.2) <| Option.bind (f_X0_keep_L25 n a1 ((cI σ0 193 2)) n p1.2.1 (p1.2.2) 0) fun q6 => cd_ck (fun (q : (Int32 × cd_S × cd_B)) => q.2.2) (q6.2.1) <| if a1 < 0 then (some (((cI σ0 193 2), q6.1, q6.2.1))) else (if (256 : Int32) ≤ a1 then (some (((cI σ0 193 2), q6.1, q6.2.1))) else (Option.bind (cldA q6.1 3 0 a1) fun v8 => Option.bind (f_X6_add n q6.1 (q6.2.1) 4 ((v8.toInt64))) fun p9 => cd_ck (fun (q : (Int32 × cd_S × cd_B)) => q.2.2) (p9.2.2) <| Option.bind (cstA p9.2.1 3 0 a1 ((cI σ0 193 2))) fun σ11 => some (((cI σ0 193 2), σ11, p9.2.2))))
noncomputable def f_X0_hasAnother_J53 (n : Nat) (l1 : Int32) (l2 : Int32) (l3 : Int32) (lp : cd_S → Int32 → Int32 → Option (cd_S × Int32 × Int32)) (σ : cd_S) (l4 : Int32) (l5 : Int32) : Option (cd_S × Int32 × Int32) :=
  lp σ l4 ((l5 + 1))
noncomputable def f_X0_hasAnother_J51 (n : Nat) (l1 : Int32) (l2 : Int32) (l3 : Int32) (lp : cd_S → Int32 → Int32 → Option (cd_S × Int32 × Int32)) (σ : cd_S) (l5 : Int32) (t0 : Int32) : Option (cd_S × Int32 × Int32) :=
  f_X0_hasAnother_J53 n l1 l2 l3 lp σ t0 l5
noncomputable def f_X0_hasAnother_J32 (n : Nat) (l1 : Int32) (l2 : Int32) (l3 : Int32) (lp : cd_S → Int32 → Int32 → Option (cd_S × Int32 × Int32)) (σ : cd_S) (l5 : Int32) : Option (cd_S × Int32 × Int32) :=
  Option.bind (cldA σ 4 0 l5) fun v1 => if (v1 &&& (l1 ^^^ (-1))) = 0 then (f_X0_hasAnother_J51 n l1 l2 l3 lp σ l5 1) else (f_X0_hasAnother_J51 n l1 l2 l3 lp σ l5 0)
noncomputable def f_X0_hasAnother_L6 (n : Nat) (l1 : Int32) (l2 : Int32) (l3 : Int32) (j : Nat) : cd_S → Int32 → Int32 → Option (cd_S × Int32 × Int32) :=
  Nat.rec (motive := fun _ => cd_S → Int32 → Int32 → Option (cd_S × Int32 × Int32)) (fun _ _ _ => none) (fun _ lp => fun (σ : cd_S) (l4 : Int32) (l5 : Int32) =>
  if l4 = 0 then (if (cI σ 5 0) ≤ l5 then (some (σ, l4, l5)) else (if l5 < l3 then (f_X0_hasAnother_J32 n l1 l2 l3 lp σ l5) else (if l5 ≤ l2 then (f_X0_hasAnother_J53 n l1 l2 l3 lp σ l4 l5) else (f_X0_hasAnother_J32 n l1 l2 l3 lp σ l5)))) else (some (σ, l4, l5))) j
noncomputable def f_X0_hasAnother (n : Nat) (σ0 : cd_S) (a1 : Int32) (a2 : Int32) (a3 : Int32) : Option (Int32 × cd_S) :=
  Option.bind (f_X0_hasAnother_L6 n a1 a2 a3 n σ0 0 0) fun q2 => Option.bind (md_zb (q2.2.1)) fun z3 => some ((z3, q2.1))
noncomputable def f_X0_reduce_J42 (n : Nat) (lp : cd_S → Int32 → Int32 → Option (cd_S × Int32 × Int32)) (σ : cd_S) (l1 : Int32) (l2 : Int32) : Option (cd_S × Int32 × Int32) :=
  lp σ l1 ((l2 + 1))
noncomputable def f_X0_reduce_L4 (n : Nat) (j : Nat) : cd_S → Int32 → Int32 → Option (cd_S × Int32 × Int32) :=
  Nat.rec (motive := fun _ => cd_S → Int32 → Int32 → Option (cd_S × Int32 × Int32)) (fun _ _ _ => none) (fun _ lp => fun (σ : cd_S) (l1 : Int32) (l2 : Int32) =>
  if (cI σ 5 0) ≤ l2 then (some (σ, l1, l2)) else (Option.bind (cldA σ 4 0 l2) fun v1 => Option.bind (f_X0_hasAnother n σ v1 l2 l1) fun p2 => if p2.1 = 0 then (Option.bind (cldA p2.2 4 0 l2) fun v3 => Option.bind (cstA p2.2 4 0 l1 v3) fun σ4 => f_X0_reduce_J42 n lp σ4 ((l1 + 1)) l2) else (f_X0_reduce_J42 n lp p2.2 l1 l2))) j
noncomputable def f_X0_reduce (n : Nat) (σ0 : cd_S) : Option (Int32 × cd_S) :=
  Option.bind (f_X0_reduce_L4 n n σ0 0 0) fun q5 => Option.bind (some (cSI q5.1 5 0 (q5.2.1))) fun σ6 => some (((0 : Int32), σ6))
noncomputable def f_X0_sort_L19 (n : Nat) (l1 : Int32) (l2 : Int32) (j : Nat) : cd_S → Int32 → Option (cd_S × Int32) :=
  Nat.rec (motive := fun _ => cd_S → Int32 → Option (cd_S × Int32)) (fun _ _ => none) (fun _ lp => fun (σ : cd_S) (l3 : Int32) =>
  if l3 ≤ 0 then (some (σ, l3)) else (Option.bind (cldA σ 4 0 ((l3 - 1))) fun v2 => if v2 ≤ l2 then (some (σ, l3)) else (Option.bind (cldA σ 4 0 ((l3 - 1))) fun v3 => Option.bind (cstA σ 4 0 l3 v3) fun σ4 => lp σ4 ((l3 + (-1)))))) j
noncomputable def f_X0_sort_L2 (n : Nat) (j : Nat) : cd_S → Int32 → Option (cd_S × Int32) :=
  Nat.rec (motive := fun _ => cd_S → Int32 → Option (cd_S × Int32)) (fun _ _ => none) (fun _ lp => fun (σ : cd_S) (l1 : Int32) =>
  if (cI σ 5 0) ≤ l1 then (some (σ, l1)) else (Option.bind (cldA σ 4 0 l1) fun v1 => Option.bind (f_X0_sort_L19 n l1 v1 n σ l1) fun q5 => Option.bind (cstA q5.1 4 0 (q5.2) v1) fun σ6 => lp σ6 ((l1 + 1)))) j
noncomputable def f_X0_sort (n : Nat) (σ0 : cd_S) : Option (Int32 × cd_S) :=
  Option.bind (f_X0_sort_L2 n n σ0 1) fun q7 => some (((0 : Int32), q7.1))
noncomputable def f_X0_settle_L66 (n : Nat) (l2 : Int32) (j : Nat) : cd_S → cd_B → Int32 → Int32 → Option ((Int32 × cd_S × cd_B) ⊕ (cd_S × cd_B × Int32 × Int32)) :=
  Nat.rec (motive := fun _ => cd_S → cd_B → Int32 → Int32 → Option ((Int32 × cd_S × cd_B) ⊕ (cd_S × cd_B × Int32 × Int32))) (fun _ _ _ _ => none) (fun _ lp => fun (σ : cd_S) (b : cd_B) (l3 : Int32) (l4 : Int32) =>
  if (4000 : Int32) ≤ l4 then (some (Sum.inr (σ, b, l3, l4))) else (if l3 = ((-1) : Int32) then (some (Sum.inr (σ, b, l3, l4))) else (Option.bind (f_X0_isDraft n σ l3) fun p1 => if p1.1 = 0 then (Option.bind (f_X6_at n p1.2 4 l3) fun p2 => lp p2.2 b (p2.1) ((l4 + 1))) else (some (Sum.inl ((l3, p1.2, b))))))) j
noncomputable def f_X0_settle_J62 (n : Nat) (σ : cd_S) (b : cd_B) (l2 : Int32) (t0 : Int32) : Option (Int32 × cd_S × cd_B) :=
  Option.bind (f_X0_settle_L66 n l2 n σ b t0 0) fun q3 => cd_ck (fun (q : (Int32 × cd_S × cd_B)) => q.2.2) ((Sum.elim (fun (q : (Int32 × cd_S × cd_B)) => q.2.2) (fun (q : cd_S × cd_B × Int32 × Int32) => q.2.1) q3)) <| Sum.elim some (fun t3 => Option.bind (f_X0_keep n t3.1 (t3.2.1) l2) fun p5 => cd_ck (fun (q : (Int32 × cd_S × cd_B)) => q.2.2) (p5.2.2) <| some ((p5.1, p5.2.1, p5.2.2))) q3
noncomputable def f_X0_settle_J61 (n : Nat) (σ : cd_S) (b : cd_B) (l2 : Int32) : Option (Int32 × cd_S × cd_B) :=
  f_X0_settle_J62 n σ b l2 ((-1))
noncomputable def f_X0_settle_L2 (n : Nat) (l1 : Int32) (j : Nat) : cd_S → cd_B → Int32 → Option (cd_S × cd_B × Int32) :=
  Nat.rec (motive := fun _ => cd_S → cd_B → Int32 → Option (cd_S × cd_B × Int32)) (fun _ _ _ => none) (fun _ lp => fun (σ : cd_S) (b : cd_B) (l2 : Int32) =>
  if (cI σ 5 0) ≤ l2 then (some (σ, b, l2)) else (Option.bind (cldA σ 4 0 l2) fun v7 => Option.bind (cstA σ 4 0 l2 ((v7 ||| ((1 : Int32) <<< (l1 &&& 31))))) fun σ8 => lp σ8 b ((l2 + 1)))) j
noncomputable def f_X0_settle (n : Nat) (σ0 : cd_S) (b0 : cd_B) (a1 : Int32) : Option (Int32 × cd_S × cd_B) :=
  cd_ck (fun (q : (Int32 × cd_S × cd_B)) => q.2.2) b0 <| Option.bind (f_X0_settle_L2 n a1 n σ0 b0 0) fun q9 => cd_ck (fun (q : (Int32 × cd_S × cd_B)) => q.2.2) (q9.2.1) <| Option.bind (f_X0_reduce n q9.1 ) fun p11 => Option.bind (f_X0_sort n p11.2 ) fun p12 => Option.bind (f_X0_bucketOf n p12.2 ) fun p13 => if p13.1 < 0 then (f_X0_settle_J61 n p13.2 (q9.2.1) (p13.1)) else (if (256 : Int32) ≤ p13.1 then (f_X0_settle_J61 n p13.2 (q9.2.1) (p13.1)) else (Option.bind (cldA p13.2 3 0 (p13.1)) fun v14 => f_X0_settle_J62 n p13.2 (q9.2.1) (p13.1) v14))
noncomputable def f_X1_valueOf (n : Nat) (σ0 : cd_S) (a0 : Int32) (a1 : Int32) : Option (Int64 × cd_S) :=
  some (((((a0.toInt64) <<< ((32 : Int32).toInt64 &&& 63)) ||| ((a1.toInt64) &&& 4294967295)), σ0))
noncomputable def f_X1_sortOf (n : Nat) (σ0 : cd_S) (a0 : Int64) : Option (Int32 × cd_S) :=
  some (((((a0.toUInt64 >>> ((32 : Int32).toInt64.toUInt64 &&& Int64.toUInt64 63)).toInt64).toInt32), σ0))
noncomputable def f_X1_forget (n : Nat) (σ0 : cd_S) : Option (Int32 × cd_S) :=
  Option.bind (some (cSI σ0 51 0 0)) fun σ1 => some (((0 : Int32), σ1))
noncomputable def f_X1_addNode (n : Nat) (σ0 : cd_S) (b0 : cd_B) (a1 : Nat) (a2 : Int32) : Option (Int32 × cd_S × cd_B) :=
  cd_ck (fun (q : (Int32 × cd_S × cd_B)) => q.2.2) b0 <| Option.bind (f_X6_add n σ0 b0 5 (((cI σ0 288 a1).toInt64))) fun p1 => cd_ck (fun (q : (Int32 × cd_S × cd_B)) => q.2.2) (p1.2.2) <| Option.bind (f_X6_add n p1.2.1 (p1.2.2) 5 ((a2.toInt64))) fun p3 => cd_ck (fun (q : (Int32 × cd_S × cd_B)) => q.2.2) (p3.2.2) <| Option.bind (cd_dp p3.2.1 50 0) fun u5 => Option.bind (f_X6_add n p3.2.1 (p3.2.2) 5 (((cI p3.2.1 241 u5).toInt64))) fun p6 => cd_ck (fun (q : (Int32 × cd_S × cd_B)) => q.2.2) (p6.2.2) <| some ((((((cI p6.2.1 193 5)) / ((3 : Int32))) - 1), p6.2.1, p6.2.2))
noncomputable def f_X1_fail (n : Nat) (σ0 : cd_S) (a0 : Nat) (a1 : Int32) : Option (Int32 × cd_S) :=
  Option.bind (some (cSI σ0 237 a0 a1)) fun σ1 => some (((2 : Int32), σ1))
noncomputable def f_X1_makeContext_J62 (n : Nat) (a1 : Nat) (σ : cd_S) (b : cd_B) : Option (Int32 × cd_S × cd_B) :=
  Option.bind (f_X0_settle n σ b ((cI σ 291 a1))) fun p1 => cd_ck (fun (q : (Int32 × cd_S × cd_B)) => q.2.2) (p1.2.2) <| some ((p1.1, p1.2.1, p1.2.2))
noncomputable def f_X1_makeContext_J35 (n : Nat) (a1 : Nat) (σ : cd_S) (b : cd_B) (t0 : Int32) : Option (Int32 × cd_S × cd_B) :=
  Option.bind (f_X0_load n σ t0) fun p3 => if (cI p3.2 289 a1) = (3 : Int32) then (Option.bind (f_X0_addDraft n p3.2 (((1 : Int32) <<< (((8 : Int32) + (cI p3.2 296 a1)) &&& 31)))) fun p4 => f_X1_makeContext_J62 n a1 p4.2 b) else (f_X1_makeContext_J62 n a1 p3.2 b)
noncomputable def f_X1_makeContext (n : Nat) (σ0 : cd_S) (b0 : cd_B) (a1 : Nat) (a2 : Int32) : Option (Int32 × cd_S × cd_B) :=
  cd_ck (fun (q : (Int32 × cd_S × cd_B)) => q.2.2) b0 <| if (cI σ0 289 a1) = (2 : Int32) then (f_X1_makeContext_J35 n a1 σ0 b0 ((-1))) else (if (cI σ0 289 a1) = (4 : Int32) then (Option.bind (cd_dp σ0 50 0) fun u5 => f_X1_makeContext_J35 n a1 σ0 b0 ((cI σ0 241 u5))) else (f_X1_makeContext_J35 n a1 σ0 b0 a2))
noncomputable def f_X1_push (n : Nat) (σ0 : cd_S) (b0 : cd_B) (a0 : Nat) (a1 : Int64) : Option (Int32 × cd_S × cd_B) :=
  cd_ck (fun (q : (Int32 × cd_S × cd_B)) => q.2.2) b0 <| Option.bind (f_X6_add n σ0 b0 ((9 + 1 * a0)) a1) fun p1 => cd_ck (fun (q : (Int32 × cd_S × cd_B)) => q.2.2) (p1.2.2) <| some (((0 : Int32), p1.2.1, p1.2.2))
noncomputable def f_X7_framed (n : Nat) (σ0 : cd_S) (a0 : Nat) : Option (Int32 × cd_S) :=
  if (cI σ0 232 a0) ≤ 0 then (some (((0 : Int32), σ0))) else (if (60 : Int32) < (cI σ0 232 a0) then (some (((0 : Int32), σ0))) else (some (((1 : Int32), σ0))))
noncomputable def f_X7_contextNow (n : Nat) (σ0 : cd_S) (a0 : Nat) : Option (Int32 × cd_S) :=
  Option.bind (f_X7_framed n σ0 a0) fun p1 => if p1.1 = 0 then (some ((((-1) : Int32), p1.2))) else (Option.bind (cldA p1.2 229 a0 (((cI p1.2 232 a0) - 1))) fun v2 => some ((v2, p1.2)))
noncomputable def f_X9_locals (n : Nat) (σ0 : cd_S) (a0 : Nat) : Option (Int32 × cd_S) :=
  some ((((cI σ0 299 a0) + (cI σ0 298 a0)), σ0))
noncomputable def f_X7_enter_L124 (n : Nat) (a0 : Nat) (j : Nat) : cd_S → cd_B → Int32 → Option (cd_S × cd_B × Int32) :=
  Nat.rec (motive := fun _ => cd_S → cd_B → Int32 → Option (cd_S × cd_B × Int32)) (fun _ _ _ => none) (fun _ lp => fun (σ : cd_S) (b : cd_B) (l3 : Int32) =>
  Option.bind (cd_dp σ 238 a0) fun u11 => Option.bind (f_X9_locals n σ u11) fun p12 => if ((cI σ 239 a0) + p12.1) ≤ l3 then (some (p12.2, b, l3)) else (Option.bind (f_X6_add n p12.2 b ((9 + 1 * a0)) (4294967296 : Int64)) fun p13 => cd_ck (fun (q : cd_S × cd_B × Int32) => q.2.1) (p13.2.2) <| lp p13.2.1 (p13.2.2) ((l3 + 1)))) j
noncomputable def f_X7_enter (n : Nat) (σ0 : cd_S) (b0 : cd_B) (a0 : Nat) (a1 : Int32) (a2 : Int32) : Option (Int32 × cd_S × cd_B) :=
  cd_ck (fun (q : (Int32 × cd_S × cd_B)) => q.2.2) b0 <| Option.bind (cd_dp σ0 238 a0) fun u1 => if (cI σ0 232 a0) < 0 then (some (((0 : Int32), σ0, b0))) else (if (cI σ0 232 a0) < (60 : Int32) then (Option.bind (cd_dp σ0 238 a0) fun u2 => Option.bind (cstA σ0 224 a0 ((cI σ0 232 a0)) ((cI σ0 288 u2))) fun σ3 => Option.bind (cstA σ3 225 a0 ((cI σ3 232 a0)) 0) fun σ4 => Option.bind (cstA σ4 226 a0 ((cI σ4 232 a0)) ((cI σ4 239 a0))) fun σ5 => Option.bind (cstA σ5 227 a0 ((cI σ5 232 a0)) ((cI σ5 240 a0))) fun σ6 => Option.bind (cstA σ6 228 a0 ((cI σ6 232 a0)) a1) fun σ7 => Option.bind (cstA σ7 229 a0 ((cI σ7 232 a0)) a2) fun σ8 => Option.bind (some (cSI σ8 232 a0 (((cI σ8 232 a0) + 1)))) fun σ9 => Option.bind (some (cSI σ9 233 a0 (((cI σ9 233 a0) + 1)))) fun σ10 => Option.bind (f_X7_enter_L124 n a0 n σ10 b0 ((cI σ10 193 ((9 + 1 * a0))))) fun q15 => cd_ck (fun (q : (Int32 × cd_S × cd_B)) => q.2.2) (q15.2.1) <| some (((0 : Int32), q15.1, q15.2.1))) else (some (((0 : Int32), σ0, b0))))
noncomputable def f_X7_nodeNow (n : Nat) (σ0 : cd_S) (a0 : Nat) : Option (Int32 × cd_S) :=
  Option.bind (f_X7_framed n σ0 a0) fun p1 => if p1.1 = 0 then (some ((((-1) : Int32), p1.2))) else (Option.bind (cldA p1.2 228 a0 (((cI p1.2 232 a0) - 1))) fun v2 => some ((v2, p1.2)))
noncomputable def f_X1_begin_J110 (n : Nat) (a1 : Nat) (σ : cd_S) (b : cd_B) (l3 : Int32) (t0 : Int32) : Option (Int32 × cd_S × cd_B) :=
  Option.bind (cd_dp σ 50 0) fun u1 => Option.bind (f_X7_enter n σ b u1 l3 t0) fun p2 => cd_ck (fun (q : (Int32 × cd_S × cd_B)) => q.2.2) (p2.2.2) <| Option.bind (cd_dp p2.2.1 50 0) fun u4 => Option.bind (some (cSI p2.2.1 45 0 ((if (cI p2.2.1 45 0) < (cI p2.2.1 232 u4) then (cI p2.2.1 232 u4) else (cI p2.2.1 45 0))))) fun σ6 => Option.bind (cd_dp σ6 50 0) fun u7 => if u7 = a1 then (some (((0 : Int32), σ6, p2.2.2))) else (Option.bind (f_X1_valueOf n σ6 (0 : Int32) ((cI σ6 40 0))) fun p8 => Option.bind (f_X1_push n p8.2 (p2.2.2) a1 (p8.1)) fun p9 => cd_ck (fun (q : (Int32 × cd_S × cd_B)) => q.2.2) (p9.2.2) <| Option.bind (some (cSI p9.2.1 40 0 (((cI p9.2.1 40 0) + 1)))) fun σ11 => some (((1 : Int32), σ11, p9.2.2)))
noncomputable def f_X1_begin_J109 (n : Nat) (a1 : Nat) (σ : cd_S) (b : cd_B) (l3 : Int32) : Option (Int32 × cd_S × cd_B) :=
  f_X1_begin_J110 n a1 σ b l3 ((-1))
noncomputable def f_X1_begin_J82 (n : Nat) (a1 : Nat) (σ : cd_S) (b : cd_B) (l2 : Nat) (t0 : Int32) : Option (Int32 × cd_S × cd_B) :=
  if (cI σ 49 0) = 0 then (f_X1_begin_J109 n a1 σ b t0) else (if (cI σ 301 l2) = 0 then (f_X1_begin_J109 n a1 σ b t0) else (Option.bind (f_X7_contextNow n σ a1) fun p12 => Option.bind (f_X1_makeContext n p12.2 b l2 (p12.1)) fun p13 => cd_ck (fun (q : (Int32 × cd_S × cd_B)) => q.2.2) (p13.2.2) <| f_X1_begin_J110 n a1 p13.2.1 (p13.2.2) t0 (p13.1)))
noncomputable def f_X1_begin_J23 (n : Nat) (a1 : Nat) (σ : cd_S) (b : cd_B) : Option (Int32 × cd_S × cd_B) :=
  Option.bind (some (cSI σ 44 0 2)) fun σ15 => some (((1 : Int32), σ15, b))
noncomputable def f_X1_begin (n : Nat) (σ0 : cd_S) (b0 : cd_B) (a1 : Nat) : Option (Int32 × cd_S × cd_B) :=
  cd_ck (fun (q : (Int32 × cd_S × cd_B)) => q.2.2) b0 <| Option.bind (cd_dp σ0 50 0) fun u16 => Option.bind (cd_dp σ0 238 u16) fun u17 => if (cI σ0 41 0) < (cI σ0 42 0) then (Option.bind (cd_dp σ0 50 0) fun u18 => if (cI σ0 232 u18) < (60 : Int32) then (Option.bind (some (cSI σ0 41 0 (((cI σ0 41 0) + 1)))) fun σ19 => if (cI σ19 49 0) = 0 then (Option.bind (f_X7_nodeNow n σ19 a1) fun p20 => Option.bind (f_X1_addNode n p20.2 b0 u17 (p20.1)) fun p21 => cd_ck (fun (q : (Int32 × cd_S × cd_B)) => q.2.2) (p21.2.2) <| f_X1_begin_J82 n a1 p21.2.1 (p21.2.2) u17 (p21.1)) else (f_X1_begin_J82 n a1 σ19 b0 u17 ((-1)))) else (Option.bind (cd_dp σ0 50 0) fun u23 => Option.bind (f_X1_fail n σ0 u23 (6 : Int32)) fun p24 => some ((p24.1, p24.2, b0)))) else (f_X1_begin_J23 n a1 σ0 b0)
noncomputable def f_X1_addThing (n : Nat) (σ0 : cd_S) (b0 : cd_B) (a1 : Int32) : Option (Int32 × cd_S × cd_B) :=
  cd_ck (fun (q : (Int32 × cd_S × cd_B)) => q.2.2) b0 <| Option.bind (f_X6_add n σ0 b0 6 ((a1.toInt64))) fun p1 => cd_ck (fun (q : (Int32 × cd_S × cd_B)) => q.2.2) (p1.2.2) <| Option.bind (f_X6_add n p1.2.1 (p1.2.2) 6 (((cI p1.2.1 193 7).toInt64))) fun p3 => cd_ck (fun (q : (Int32 × cd_S × cd_B)) => q.2.2) (p3.2.2) <| some ((((((cI p3.2.1 193 6)) / ((2 : Int32))) - 1), p3.2.1, p3.2.2))
noncomputable def f_X1_thingCount (n : Nat) (σ0 : cd_S) : Option (Int32 × cd_S) :=
  some (((((cI σ0 193 6)) / ((2 : Int32))), σ0))
noncomputable def f_X2_isModule (n : Nat) (σ0 : cd_S) (a1 : Int32) : Option (Int32 × cd_S) :=
  if a1 < 0 then (some (((0 : Int32), σ0))) else (if (cI σ0 74 0) ≤ a1 then (some (((0 : Int32), σ0))) else (some (((1 : Int32), σ0))))
noncomputable def f_X2_fieldTotal (n : Nat) (σ0 : cd_S) (a1 : Int32) : Option (Int32 × cd_S) :=
  Option.bind (f_X2_isModule n σ0 a1) fun p1 => if p1.1 = 0 then (some (((0 : Int32), p1.2))) else (Option.bind (cldA p1.2 71 0 a1) fun v2 => Option.bind (cldA p1.2 70 0 a1) fun v3 => some (((v2 + v3), p1.2)))
noncomputable def f_X1_makeObject_L26 (n : Nat) (a1 : Nat) (l2 : Int32) (l3 : Int32) (j : Nat) : cd_S → cd_B → Int32 → Option (cd_S × cd_B × Int32) :=
  Nat.rec (motive := fun _ => cd_S → cd_B → Int32 → Option (cd_S × cd_B × Int32)) (fun _ _ _ => none) (fun _ lp => fun (σ : cd_S) (b : cd_B) (l4 : Int32) =>
  Option.bind (f_X2_fieldTotal n σ l2) fun p4 => if p4.1 ≤ l4 then (some (p4.2, b, l4)) else (Option.bind (f_X6_add n p4.2 b 7 (4294967296 : Int64)) fun p5 => cd_ck (fun (q : cd_S × cd_B × Int32) => q.2.1) (p5.2.2) <| lp p5.2.1 (p5.2.2) ((l4 + 1)))) j
noncomputable def f_X1_makeObject (n : Nat) (σ0 : cd_S) (b0 : cd_B) (a1 : Nat) (a2 : Int32) : Option (Int32 × cd_S × cd_B) :=
  cd_ck (fun (q : (Int32 × cd_S × cd_B)) => q.2.2) b0 <| Option.bind (f_X1_thingCount n σ0 ) fun p1 => if p1.1 < (2000 : Int32) then (Option.bind (f_X1_addThing n p1.2 b0 a2) fun p2 => cd_ck (fun (q : (Int32 × cd_S × cd_B)) => q.2.2) (p2.2.2) <| Option.bind (f_X1_makeObject_L26 n a1 a2 (p2.1) n p2.2.1 (p2.2.2) 0) fun q7 => cd_ck (fun (q : (Int32 × cd_S × cd_B)) => q.2.2) (q7.2.1) <| Option.bind (f_X1_valueOf n q7.1 (2 : Int32) (p2.1)) fun p9 => Option.bind (f_X1_push n p9.2 (q7.2.1) a1 (p9.1)) fun p10 => cd_ck (fun (q : (Int32 × cd_S × cd_B)) => q.2.2) (p10.2.2) <| some ((p10.1, p10.2.1, p10.2.2))) else (Option.bind (f_X1_fail n p1.2 a1 (9 : Int32)) fun p12 => some ((p12.1, p12.2, b0)))
noncomputable def f_X7_call (n : Nat) (σ0 : cd_S) (a0 : Nat) (a1 : Nat) (a2 : Int32) (a3 : Int32) (a4 : Int32) : Option (Int32 × cd_S) :=
  Option.bind (some (cSP σ0 238 a0 (a1 + 1))) fun σ1 => Option.bind (some (cSI σ1 239 a0 a2)) fun σ2 => Option.bind (some (cSI σ2 240 a0 a3)) fun σ3 => Option.bind (some (cSI σ3 241 a0 a4)) fun σ4 => some (((0 : Int32), σ4))
noncomputable def f_X7_clear (n : Nat) (σ0 : cd_S) (a0 : Nat) (a1 : Int32) : Option (Int32 × cd_S) :=
  Option.bind (some (cSI σ0 231 a0 a1)) fun σ1 => Option.bind (some (cSI σ1 232 a0 0)) fun σ2 => Option.bind (some (cSI σ2 233 a0 0)) fun σ3 => Option.bind (some (cSI σ3 234 a0 0)) fun σ4 => Option.bind (some (cSI σ4 235 a0 ((-1)))) fun σ5 => Option.bind (some (cSJ σ5 236 a0 4294967296)) fun σ6 => Option.bind (f_X6_cut n σ6 ((9 + 1 * a0)) (0 : Int32)) fun p7 => some (((0 : Int32), p7.2))
noncomputable def f_X1_prepare (n : Nat) (σ0 : cd_S) (b0 : cd_B) (a1 : Nat) (a2 : Int32) (a3 : Int32) (a4 : Int32) : Option (Int32 × cd_S × cd_B) :=
  cd_ck (fun (q : (Int32 × cd_S × cd_B)) => q.2.2) b0 <| Option.bind (f_X0_clear n σ0 ) fun p1 => Option.bind (f_X6_cut n p1.2 5 (0 : Int32)) fun p2 => Option.bind (f_X6_cut n p2.2 6 (0 : Int32)) fun p3 => Option.bind (f_X6_cut n p3.2 7 (0 : Int32)) fun p4 => Option.bind (f_X6_cut n p4.2 8 (0 : Int32)) fun p5 => Option.bind (some (cSI p5.2 40 0 1)) fun σ6 => Option.bind (some (cSI σ6 41 0 0)) fun σ7 => Option.bind (some (cSI σ7 42 0 a3)) fun σ8 => Option.bind (some (cSI σ8 43 0 0)) fun σ9 => Option.bind (some (cSI σ9 44 0 0)) fun σ10 => Option.bind (some (cSI σ10 45 0 0)) fun σ11 => Option.bind (some (cSI σ11 46 0 0)) fun σ12 => Option.bind (some (cSI σ12 47 0 a2)) fun σ13 => Option.bind (some (cSI σ13 48 0 a2)) fun σ14 => Option.bind (md_zb a4) fun z15 => Option.bind (some (cSI σ14 49 0 a4)) fun σ16 => Option.bind (some (cSI σ16 51 0 1)) fun σ17 => Option.bind (cldR 35 ((0 : Int32))) fun u18 => Option.bind (some (cSP σ17 50 0 (u18 + 1))) fun σ19 => Option.bind (cd_dp σ19 50 0) fun u20 => Option.bind (f_X7_clear n σ19 u20 (0 : Int32)) fun p21 => Option.bind (cd_dp p21.2 50 0) fun u22 => Option.bind (f_X1_makeObject n p21.2 b0 u22 ((cI p21.2 290 a1))) fun p23 => cd_ck (fun (q : (Int32 × cd_S × cd_B)) => q.2.2) (p23.2.2) <| Option.bind (cd_dp p23.2.1 50 0) fun u25 => Option.bind (f_X7_call n p23.2.1 u25 a1 (0 : Int32) (0 : Int32) ((-1) : Int32)) fun p26 => Option.bind (cd_dp p26.2 50 0) fun u27 => Option.bind (f_X1_begin n p26.2 (p23.2.2) u27) fun p28 => cd_ck (fun (q : (Int32 × cd_S × cd_B)) => q.2.2) (p28.2.2) <| some (((0 : Int32), p28.2.1, p28.2.2))
noncomputable def f_X1_strandAt_J19 (n : Nat) (σ : cd_S) (t0 : Int32) : Option (Nat × cd_S) :=
  Option.bind (cldR 35 t0) fun u1 => some ((u1, σ))
noncomputable def f_X1_strandAt_J18 (n : Nat) (σ : cd_S) : Option (Nat × cd_S) :=
  f_X1_strandAt_J19 n σ 0
noncomputable def f_X1_strandAt (n : Nat) (σ0 : cd_S) (a1 : Int32) : Option (Nat × cd_S) :=
  if a1 < 0 then (f_X1_strandAt_J18 n σ0) else (if (8 : Int32) ≤ a1 then (f_X1_strandAt_J18 n σ0) else (f_X1_strandAt_J19 n σ0 a1))
noncomputable def f_X1_hasEnded (n : Nat) (σ0 : cd_S) (a1 : Int32) : Option (Int32 × cd_S) :=
  Option.bind (f_X1_strandAt n σ0 a1) fun p1 => if (cI p1.2 234 (p1.1)) = 0 then (some (((0 : Int32), p1.2))) else (some (((1 : Int32), p1.2)))
noncomputable def f_X1_allEnded_J29 (n : Nat) (lp : cd_S → Int32 → Int32 → Option (cd_S × Int32 × Int32)) (σ : cd_S) (l2 : Int32) (t0 : Int32) : Option (cd_S × Int32 × Int32) :=
  lp σ t0 ((l2 + 1))
noncomputable def f_X1_allEnded_J28 (n : Nat) (lp : cd_S → Int32 → Int32 → Option (cd_S × Int32 × Int32)) (σ : cd_S) (l2 : Int32) : Option (cd_S × Int32 × Int32) :=
  f_X1_allEnded_J29 n lp σ l2 0
noncomputable def f_X1_allEnded_L4 (n : Nat) (j : Nat) : cd_S → Int32 → Int32 → Option (cd_S × Int32 × Int32) :=
  Nat.rec (motive := fun _ => cd_S → Int32 → Int32 → Option (cd_S × Int32 × Int32)) (fun _ _ _ => none) (fun _ lp => fun (σ : cd_S) (l1 : Int32) (l2 : Int32) =>
  if (cI σ 40 0) ≤ l2 then (some (σ, l1, l2)) else (if l1 = 0 then (f_X1_allEnded_J28 n lp σ l2) else (Option.bind (f_X1_hasEnded n σ l2) fun p1 => if p1.1 = 0 then (f_X1_allEnded_J28 n lp p1.2 l2) else (f_X1_allEnded_J29 n lp p1.2 l2 1)))) j
noncomputable def f_X1_allEnded (n : Nat) (σ0 : cd_S) : Option (Int32 × cd_S) :=
  Option.bind (f_X1_allEnded_L4 n n σ0 1 0) fun q2 => Option.bind (md_zb (q2.2.1)) fun z3 => some ((z3, q2.1))
noncomputable def f_X1_canGoOn_J33 (n : Nat) (σ : cd_S) : Option (Int32 × cd_S) :=
  some (((1 : Int32), σ))
noncomputable def f_X1_canGoOn (n : Nat) (σ0 : cd_S) (a1 : Int32) : Option (Int32 × cd_S) :=
  Option.bind (f_X1_strandAt n σ0 a1) fun p1 => Option.bind (f_X1_hasEnded n p1.2 a1) fun p2 => if p2.1 = 0 then (if (cI p2.2 235 (p1.1)) = ((-1) : Int32) then (f_X1_canGoOn_J33 n p2.2) else (Option.bind (f_X1_hasEnded n p2.2 ((cI p2.2 235 (p1.1)))) fun p3 => if p3.1 = 0 then (some (((0 : Int32), p3.2))) else (f_X1_canGoOn_J33 n p3.2))) else (some (((0 : Int32), p2.2)))
noncomputable def f_X1_choose_J110 (n : Nat) (lp : cd_S → Int32 → Int32 → Option (cd_S × Int32 × Int32)) (σ : cd_S) (l3 : Int32) (t0 : Int32) (t1 : Int32) : Option (cd_S × Int32 × Int32) :=
  lp σ ((t1 - t0)) ((l3 + 1))
noncomputable def f_X1_choose_J96 (n : Nat) (lp : cd_S → Int32 → Int32 → Option (cd_S × Int32 × Int32)) (σ : cd_S) (l2 : Int32) (l3 : Int32) : Option (cd_S × Int32 × Int32) :=
  Option.bind (f_X1_canGoOn n σ l3) fun p1 => if p1.1 = 0 then (f_X1_choose_J110 n lp p1.2 l3 0 l2) else (f_X1_choose_J110 n lp p1.2 l3 1 l2)
noncomputable def f_X1_choose_L76 (n : Nat) (j : Nat) : cd_S → Int32 → Int32 → Option (cd_S × Int32 × Int32) :=
  Nat.rec (motive := fun _ => cd_S → Int32 → Int32 → Option (cd_S × Int32 × Int32)) (fun _ _ _ => none) (fun _ lp => fun (σ : cd_S) (l2 : Int32) (l3 : Int32) =>
  if (cI σ 40 0) ≤ l3 then (some (σ, l2, l3)) else (if 0 < l2 then (f_X1_choose_J96 n lp σ l2 l3) else (Option.bind (f_X1_canGoOn n σ l3) fun p2 => if p2.1 = 0 then (f_X1_choose_J96 n lp p2.2 l2 l3) else (some (p2.2, l2, l3))))) j
noncomputable def f_X1_choose_J74 (n : Nat) (σ : cd_S) (l2 : Int32) : Option (Int32 × cd_S) :=
  Option.bind (f_X1_choose_L76 n n σ l2 0) fun q3 => some ((q3.2.2, q3.1))
noncomputable def f_X1_choose_J26 (n : Nat) (lp : cd_S → Int32 → Int32 → Option (cd_S × Int32 × Int32)) (σ : cd_S) (l2 : Int32) (t0 : Int32) (t1 : Int32) : Option (cd_S × Int32 × Int32) :=
  lp σ ((t1 + t0)) ((l2 + 1))
noncomputable def f_X1_choose_L4 (n : Nat) (j : Nat) : cd_S → Int32 → Int32 → Option (cd_S × Int32 × Int32) :=
  Nat.rec (motive := fun _ => cd_S → Int32 → Int32 → Option (cd_S × Int32 × Int32)) (fun _ _ _ => none) (fun _ lp => fun (σ : cd_S) (l1 : Int32) (l2 : Int32) =>
  if (cI σ 40 0) ≤ l2 then (some (σ, l1, l2)) else (Option.bind (f_X1_canGoOn n σ l2) fun p4 => if p4.1 = 0 then (f_X1_choose_J26 n lp p4.2 l2 0 l1) else (f_X1_choose_J26 n lp p4.2 l2 1 l1))) j
noncomputable def f_X1_choose (n : Nat) (σ0 : cd_S) : Option (Int32 × cd_S) :=
  Option.bind (f_X1_choose_L4 n n σ0 0 0) fun q5 => if q5.2.1 = 0 then (some ((((-1) : Int32), q5.1))) else (if (cI q5.1 47 0) = 0 then (f_X1_choose_J74 n q5.1 0) else (Option.bind (some (cSI q5.1 48 0 ((((cI q5.1 48 0) * 1103515245) + 12345)))) fun σ6 => Option.bind (md_nz (q5.2.1)) fun z7 => f_X1_choose_J74 n σ6 ((((((cI σ6 48 0).toUInt32 >>> ((16 : Int32).toUInt32 &&& Int32.toUInt32 31)).toInt32)) - ((((cI σ6 48 0).toUInt32 >>> ((16 : Int32).toUInt32 &&& Int32.toUInt32 31)).toInt32)) / (q5.2.1) * (q5.2.1)))))
noncomputable def f_X1_record_J60 (n : Nat) (a1 : Nat) (σ : cd_S) (b : cd_B) : Option (Int32 × cd_S × cd_B) :=
  Option.bind (some (cSI σ 43 0 (((cI σ 43 0) + 1)))) fun σ1 => some (((0 : Int32), σ1, b))
noncomputable def f_X1_record (n : Nat) (σ0 : cd_S) (b0 : cd_B) (a1 : Nat) (a2 : Int32) (a3 : Int32) (a4 : Int32) (a5 : Int32) : Option (Int32 × cd_S × cd_B) :=
  cd_ck (fun (q : (Int32 × cd_S × cd_B)) => q.2.2) b0 <| if (200 : Int32) ≤ (cI σ0 43 0) then (f_X1_record_J60 n a1 σ0 b0) else (Option.bind (f_X6_add n σ0 b0 8 (((cI σ0 231 a1).toInt64))) fun p2 => cd_ck (fun (q : (Int32 × cd_S × cd_B)) => q.2.2) (p2.2.2) <| Option.bind (f_X6_add n p2.2.1 (p2.2.2) 8 ((a2.toInt64))) fun p4 => cd_ck (fun (q : (Int32 × cd_S × cd_B)) => q.2.2) (p4.2.2) <| Option.bind (f_X6_add n p4.2.1 (p4.2.2) 8 ((a3.toInt64))) fun p6 => cd_ck (fun (q : (Int32 × cd_S × cd_B)) => q.2.2) (p6.2.2) <| Option.bind (f_X6_add n p6.2.1 (p6.2.2) 8 ((a4.toInt64))) fun p8 => cd_ck (fun (q : (Int32 × cd_S × cd_B)) => q.2.2) (p8.2.2) <| Option.bind (f_X6_add n p8.2.1 (p8.2.2) 8 ((a5.toInt64))) fun p10 => cd_ck (fun (q : (Int32 × cd_S × cd_B)) => q.2.2) (p10.2.2) <| f_X1_record_J60 n a1 p10.2.1 (p10.2.2))
noncomputable def f_X6_get_J21 (n : Nat) (a0 : Nat) (σ : cd_S) : Option (Int64 × cd_S) :=
  some (((0 : Int64), σ))
noncomputable def f_X6_get (n : Nat) (σ0 : cd_S) (a0 : Nat) (a1 : Int32) : Option (Int64 × cd_S) :=
  if a1 < 0 then (f_X6_get_J21 n a0 σ0) else (if (cI σ0 193 a0) ≤ a1 then (f_X6_get_J21 n a0 σ0) else (Option.bind (cldF σ0 a0 a1) fun v1 => some ((v1, σ0))))
noncomputable def f_X7_baseNow (n : Nat) (σ0 : cd_S) (a0 : Nat) : Option (Int32 × cd_S) :=
  Option.bind (f_X7_framed n σ0 a0) fun p1 => if p1.1 = 0 then (some (((0 : Int32), p1.2))) else (Option.bind (cldA p1.2 226 a0 (((cI p1.2 232 a0) - 1))) fun v2 => some ((v2, p1.2)))
noncomputable def f_X7_dropToTry_L15 (n : Nat) (a0 : Nat) (l1 : Int32) (j : Nat) : cd_S → Int32 → Option ((Int32 × cd_S) ⊕ (cd_S × Int32)) :=
  Nat.rec (motive := fun _ => cd_S → Int32 → Option ((Int32 × cd_S) ⊕ (cd_S × Int32))) (fun _ _ => none) (fun _ lp => fun (σ : cd_S) (l2 : Int32) =>
  if l2 < l1 then (some (Sum.inr (σ, l2))) else (Option.bind (f_X6_get n σ ((9 + 1 * a0)) l2) fun p2 => Option.bind (f_X1_sortOf n p2.2 (p2.1)) fun p3 => if p3.1 = (5 : Int32) then (Option.bind (f_X6_at n p3.2 ((9 + 1 * a0)) l2) fun p4 => Option.bind (f_X6_cut n p4.2 ((9 + 1 * a0)) l2) fun p5 => some (Sum.inl ((p4.1, p5.2)))) else (lp p3.2 ((l2 + (-1)))))) j
noncomputable def f_X7_dropToTry (n : Nat) (σ0 : cd_S) (a0 : Nat) : Option (Int32 × cd_S) :=
  Option.bind (f_X7_baseNow n σ0 a0) fun p1 => Option.bind (f_X7_dropToTry_L15 n a0 (p1.1) n p1.2 (((cI p1.2 193 ((9 + 1 * a0))) - 1))) fun q6 => Sum.elim some (fun t6 => some ((((-1) : Int32), t6.1))) q6
noncomputable def f_X7_finish (n : Nat) (σ0 : cd_S) (a0 : Nat) (a1 : Int32) (a2 : Int64) : Option (Int32 × cd_S) :=
  Option.bind (some (cSI σ0 234 a0 a1)) fun σ1 => Option.bind (some (cSJ σ1 236 a0 a2)) fun σ2 => some (((0 : Int32), σ2))
noncomputable def f_X7_goTo (n : Nat) (σ0 : cd_S) (a0 : Nat) (a1 : Int32) : Option (Int32 × cd_S) :=
  Option.bind (f_X7_framed n σ0 a0) fun p1 => if p1.1 = 0 then (some (((0 : Int32), p1.2))) else (Option.bind (cstA p1.2 225 a0 (((cI p1.2 232 a0) - 1)) a1) fun σ2 => some (((0 : Int32), σ2)))
noncomputable def f_X7_leave (n : Nat) (σ0 : cd_S) (a0 : Nat) : Option (Int32 × cd_S) :=
  if (cI σ0 232 a0) ≤ 0 then (some (((0 : Int32), σ0))) else (if (60 : Int32) < (cI σ0 232 a0) then (some (((0 : Int32), σ0))) else (Option.bind (some (cSI σ0 232 a0 (((cI σ0 232 a0) - 1)))) fun σ1 => Option.bind (cldA σ1 227 a0 ((cI σ1 232 a0))) fun v2 => Option.bind (f_X6_cut n σ1 ((9 + 1 * a0)) v2) fun p3 => some (((0 : Int32), p3.2))))
noncomputable def f_X1_raise_L7 (n : Nat) (a1 : Nat) (l2 : Int32) (j : Nat) : cd_S → cd_B → Int32 → Option ((Int32 × cd_S × cd_B) ⊕ (cd_S × cd_B × Int32)) :=
  Nat.rec (motive := fun _ => cd_S → cd_B → Int32 → Option ((Int32 × cd_S × cd_B) ⊕ (cd_S × cd_B × Int32))) (fun _ _ _ => none) (fun _ lp => fun (σ : cd_S) (b : cd_B) (l3 : Int32) =>
  if (60 : Int32) < l3 then (some (Sum.inr (σ, b, l3))) else (if (cI σ 232 a1) ≤ 0 then (some (Sum.inr (σ, b, l3))) else (Option.bind (f_X7_dropToTry n σ a1) fun p1 => if p1.1 = ((-1) : Int32) then (Option.bind (f_X7_leave n p1.2 a1) fun p2 => lp p2.2 b ((l3 + 1))) else (Option.bind (f_X7_goTo n p1.2 a1 (p1.1)) fun p3 => Option.bind (f_X1_valueOf n p3.2 (0 : Int32) l2) fun p4 => Option.bind (f_X1_push n p4.2 b a1 (p4.1)) fun p5 => cd_ck (fun (q : ((Int32 × cd_S × cd_B) ⊕ (cd_S × cd_B × Int32))) => Sum.elim (fun (q : (Int32 × cd_S × cd_B)) => q.2.2) (fun (q : cd_S × cd_B × Int32) => q.2.1) q) (p5.2.2) <| some (Sum.inl ((p5.1, p5.2.1, p5.2.2))))))) j
noncomputable def f_X1_raise (n : Nat) (σ0 : cd_S) (b0 : cd_B) (a1 : Nat) : Option (Int32 × cd_S × cd_B) :=
  cd_ck (fun (q : (Int32 × cd_S × cd_B)) => q.2.2) b0 <| Option.bind (f_X1_raise_L7 n a1 ((cI σ0 237 a1)) n σ0 b0 0) fun q7 => cd_ck (fun (q : (Int32 × cd_S × cd_B)) => q.2.2) ((Sum.elim (fun (q : (Int32 × cd_S × cd_B)) => q.2.2) (fun (q : cd_S × cd_B × Int32) => q.2.1) q7)) <| Sum.elim some (fun t7 => Option.bind (f_X1_valueOf n t7.1 (0 : Int32) ((cI σ0 237 a1))) fun p9 => Option.bind (f_X7_finish n p9.2 a1 (2 : Int32) (p9.1)) fun p10 => Option.bind (f_X1_record n p10.2 (t7.2.1) a1 (2 : Int32) ((cI σ0 237 a1)) ((-1) : Int32) ((-1) : Int32)) fun p11 => cd_ck (fun (q : (Int32 × cd_S × cd_B)) => q.2.2) (p11.2.2) <| some (((1 : Int32), p11.2.1, p11.2.2))) q7
noncomputable def f_X1_call (n : Nat) (σ0 : cd_S) (a1 : Nat) (a2 : Nat) (a3 : Int32) (a4 : Int32) (a5 : Int32) : Option (Int32 × cd_S) :=
  Option.bind (some (cSP σ0 50 0 (a1 + 1))) fun σ1 => Option.bind (f_X7_call n σ1 a1 a2 a3 a4 a5) fun p2 => some (((3 : Int32), p2.2))
noncomputable def f_X1_slotsOf (n : Nat) (σ0 : cd_S) (a1 : Int64) : Option (Int32 × cd_S) :=
  Option.bind (f_X6_at n σ0 6 ((((a1.toInt32) * 2) + 1))) fun p1 => some ((p1.1, p1.2))
noncomputable def f_X1_pushCaptured_L3 (n : Nat) (a1 : Nat) (a4 : Nat) (l2 : Int64) (j : Nat) : cd_S → cd_B → Int32 → Option (cd_S × cd_B × Int32) :=
  Nat.rec (motive := fun _ => cd_S → cd_B → Int32 → Option (cd_S × cd_B × Int32)) (fun _ _ _ => none) (fun _ lp => fun (σ : cd_S) (b : cd_B) (l5 : Int32) =>
  if (cI σ 299 a4) ≤ l5 then (some (σ, b, l5)) else (Option.bind (f_X1_slotsOf n σ l2) fun p1 => Option.bind (f_X6_get n p1.2 7 ((p1.1 + l5))) fun p2 => Option.bind (f_X1_push n p2.2 b a1 (p2.1)) fun p3 => cd_ck (fun (q : cd_S × cd_B × Int32) => q.2.1) (p3.2.2) <| lp p3.2.1 (p3.2.2) ((l5 + 1)))) j
noncomputable def f_X1_pushCaptured (n : Nat) (σ0 : cd_S) (b0 : cd_B) (a1 : Nat) (a2 : Int64) (a4 : Nat) : Option (Int32 × cd_S × cd_B) :=
  cd_ck (fun (q : (Int32 × cd_S × cd_B)) => q.2.2) b0 <| Option.bind (f_X1_pushCaptured_L3 n a1 a4 a2 n σ0 b0 0) fun q5 => cd_ck (fun (q : (Int32 × cd_S × cd_B)) => q.2.2) (q5.2.1) <| some (((0 : Int32), q5.1, q5.2.1))
noncomputable def f_X1_thingOf (n : Nat) (σ0 : cd_S) (a1 : Int64) : Option (Int32 × cd_S) :=
  Option.bind (f_X6_at n σ0 6 (((a1.toInt32) * 2))) fun p1 => some ((p1.1, p1.2))
noncomputable def f_X2_unitAt_J19 (n : Nat) (σ : cd_S) (t0 : Int32) : Option (Nat × cd_S) :=
  Option.bind (cldR 65 t0) fun u1 => some ((u1, σ))
noncomputable def f_X2_unitAt_J18 (n : Nat) (σ : cd_S) : Option (Nat × cd_S) :=
  f_X2_unitAt_J19 n σ 0
noncomputable def f_X2_unitAt (n : Nat) (σ0 : cd_S) (a1 : Int32) : Option (Nat × cd_S) :=
  if a1 < 0 then (f_X2_unitAt_J18 n σ0) else (if (60 : Int32) ≤ a1 then (f_X2_unitAt_J18 n σ0) else (f_X2_unitAt_J19 n σ0 a1))
noncomputable def f_X7_peek (n : Nat) (σ0 : cd_S) (a0 : Nat) (a1 : Int32) : Option (Int64 × cd_S) :=
  Option.bind (f_X6_get n σ0 ((9 + 1 * a0)) ((((cI σ0 193 ((9 + 1 * a0))) - 1) - a1))) fun p1 => some ((p1.1, p1.2))
noncomputable def f_X1_apply_L69 (n : Nat) (a1 : Nat) (l2 : Int32) (l5 : Nat) (l6 : Int32) (j : Nat) : cd_S → cd_B → Int32 → Option (cd_S × cd_B × Int32) :=
  Nat.rec (motive := fun _ => cd_S → cd_B → Int32 → Option (cd_S × cd_B × Int32)) (fun _ _ _ => none) (fun _ lp => fun (σ : cd_S) (b : cd_B) (l7 : Int32) =>
  if l2 ≤ l7 then (some (σ, b, l7)) else (Option.bind (f_X6_get n σ ((9 + 1 * a1)) (((l6 - l2) + l7))) fun p7 => Option.bind (f_X1_push n p7.2 b a1 (p7.1)) fun p8 => cd_ck (fun (q : cd_S × cd_B × Int32) => q.2.1) (p8.2.2) <| lp p8.2.1 (p8.2.2) ((l7 + 1)))) j
noncomputable def f_X1_apply (n : Nat) (σ0 : cd_S) (b0 : cd_B) (a1 : Nat) (a2 : Int32) : Option (Int32 × cd_S × cd_B) :=
  cd_ck (fun (q : (Int32 × cd_S × cd_B)) => q.2.2) b0 <| Option.bind (f_X7_peek n σ0 a1 a2) fun p1 => Option.bind (f_X1_sortOf n p1.2 (p1.1)) fun p2 => if p2.1 = (3 : Int32) then (Option.bind (f_X1_thingOf n p2.2 (p1.1)) fun p3 => Option.bind (f_X2_unitAt n p3.2 (p3.1)) fun p4 => if (cI p4.2 294 (p4.1)) = a2 then (Option.bind (f_X1_pushCaptured n p4.2 b0 a1 (p1.1) (p4.1)) fun p5 => cd_ck (fun (q : (Int32 × cd_S × cd_B)) => q.2.2) (p5.2.2) <| Option.bind (f_X1_apply_L69 n a1 a2 (p4.1) ((cI p4.2 193 ((9 + 1 * a1)))) n p5.2.1 (p5.2.2) 0) fun q10 => cd_ck (fun (q : (Int32 × cd_S × cd_B)) => q.2.2) (q10.2.1) <| Option.bind (f_X1_call n q10.1 a1 (p4.1) ((cI p4.2 193 ((9 + 1 * a1)))) ((((cI p4.2 193 ((9 + 1 * a1))) - 1) - a2)) ((-1) : Int32)) fun p12 => some ((p12.1, p12.2, q10.2.1))) else (Option.bind (f_X1_fail n p4.2 a1 (4 : Int32)) fun p13 => some ((p13.1, p13.2, b0)))) else (Option.bind (f_X1_fail n p2.2 a1 (3 : Int32)) fun p14 => some ((p14.1, p14.2, b0)))
noncomputable def f_X1_walk_J129 (n : Nat) (l2 : Int32) (lp : cd_S → Int32 → Int32 → Option ((Int32 × cd_S) ⊕ (cd_S × Int32 × Int32))) (σ : cd_S) (l4 : Int32) (t0 : Int32) (t1 : Int32) : Option ((Int32 × cd_S) ⊕ (cd_S × Int32 × Int32)) :=
  Option.bind (f_X6_at n σ 5 ((t1 + t0))) fun p1 => lp p1.2 (p1.1) ((l4 + 1))
noncomputable def f_X1_walk_J90 (n : Nat) (l2 : Int32) (lp : cd_S → Int32 → Int32 → Option ((Int32 × cd_S) ⊕ (cd_S × Int32 × Int32))) (σ : cd_S) (l3 : Int32) (l4 : Int32) (l5 : Nat) (t0 : Int32) : Option ((Int32 × cd_S) ⊕ (cd_S × Int32 × Int32)) :=
  if (cI σ 289 l5) = (2 : Int32) then (some (Sum.inl (((1 : Int32), σ)))) else (if t0 = 0 then (if (cI σ 289 l5) = (4 : Int32) then (f_X1_walk_J129 n l2 lp σ l4 2 ((l3 * 3))) else (f_X1_walk_J129 n l2 lp σ l4 1 ((l3 * 3)))) else (some (Sum.inl (((1 : Int32), σ)))))
noncomputable def f_X1_walk_J89 (n : Nat) (l2 : Int32) (lp : cd_S → Int32 → Int32 → Option ((Int32 × cd_S) ⊕ (cd_S × Int32 × Int32))) (σ : cd_S) (l3 : Int32) (l4 : Int32) (l5 : Nat) : Option ((Int32 × cd_S) ⊕ (cd_S × Int32 × Int32)) :=
  f_X1_walk_J90 n l2 lp σ l3 l4 l5 0
noncomputable def f_X1_walk_L5 (n : Nat) (l2 : Int32) (j : Nat) : cd_S → Int32 → Int32 → Option ((Int32 × cd_S) ⊕ (cd_S × Int32 × Int32)) :=
  Nat.rec (motive := fun _ => cd_S → Int32 → Int32 → Option ((Int32 × cd_S) ⊕ (cd_S × Int32 × Int32))) (fun _ _ _ => none) (fun _ lp => fun (σ : cd_S) (l3 : Int32) (l4 : Int32) =>
  if (4000 : Int32) < l4 then (some (Sum.inr (σ, l3, l4))) else (if l3 = ((-1) : Int32) then (some (Sum.inr (σ, l3, l4))) else (Option.bind (some (cSI σ 46 0 (((cI σ 46 0) + 1)))) fun σ2 => Option.bind (f_X6_at n σ2 5 ((l3 * 3))) fun p3 => Option.bind (f_X2_unitAt n p3.2 (p3.1)) fun p4 => if (((l2.toUInt32 >>> ((cI p4.2 291 (p4.1)).toUInt32 &&& Int32.toUInt32 31)).toInt32) &&& 1) = 0 then (some (Sum.inl (((0 : Int32), p4.2)))) else (if (cI p4.2 289 (p4.1)) = (3 : Int32) then (if (((l2.toUInt32 >>> (((8 : Int32) + (cI p4.2 296 (p4.1))).toUInt32 &&& Int32.toUInt32 31)).toInt32) &&& 1) = 0 then (f_X1_walk_J89 n l2 lp p4.2 l3 l4 (p4.1)) else (f_X1_walk_J90 n l2 lp p4.2 l3 l4 (p4.1) 1)) else (f_X1_walk_J89 n l2 lp p4.2 l3 l4 (p4.1)))))) j
noncomputable def f_X1_walk (n : Nat) (σ0 : cd_S) (a1 : Int32) (a2 : Int32) : Option (Int32 × cd_S) :=
  Option.bind (f_X1_walk_L5 n a2 n σ0 a1 0) fun q5 => Sum.elim some (fun t5 => some (((1 : Int32), t5.1))) q5
noncomputable def f_X10_codeWith_J26 (n : Nat) (σ : cd_S) (t0 : Int32) (t1 : Int64) : Option (Int64 × cd_S) :=
  some (((t1 ||| (t0.toInt64)), σ))
noncomputable def f_X10_codeWith (n : Nat) (σ0 : cd_S) (a0 : Int64) (a2 : Int32) : Option (Int64 × cd_S) :=
  if a2 < (97 : Int32) then (f_X10_codeWith_J26 n σ0 (((a2 - 48) + 27)) ((a0 <<< ((6 : Int32).toInt64 &&& 63)))) else (f_X10_codeWith_J26 n σ0 (((a2 - 97) + 1)) ((a0 <<< ((6 : Int32).toInt64 &&& 63))))
noncomputable def f_X5_addStep (n : Nat) (σ0 : cd_S) (a0 : Nat) (a1 : Int64) : Option (Int32 × cd_S) :=
  if (cI σ0 162 a0) < 0 then (some (((0 : Int32), σ0))) else (if (5 : Int32) ≤ (cI σ0 162 a0) then (some (((0 : Int32), σ0))) else (Option.bind (cstL σ0 161 a0 ((cI σ0 162 a0)) a1) fun σ1 => Option.bind (some (cSI σ1 162 a0 (((cI σ1 162 a0) + 1)))) fun σ2 => some (((0 : Int32), σ2))))
noncomputable def f_X5_addDigits_J38 (n : Nat) (a0 : Nat) (l1 : Int32) (lp : cd_S → Int64 → Int32 → Option (cd_S × Int64 × Int32)) (σ : cd_S) (l2 : Int64) (l4 : Int32) : Option (cd_S × Int64 × Int32) :=
  lp σ l2 ((l4 / ((10 : Int32))))
noncomputable def f_X5_addDigits_J23 (n : Nat) (a0 : Nat) (l1 : Int32) (lp : cd_S → Int64 → Int32 → Option (cd_S × Int64 × Int32)) (σ : cd_S) (l2 : Int64) (l4 : Int32) : Option (cd_S × Int64 × Int32) :=
  Option.bind (md_nz l4) fun z1 => Option.bind (f_X10_codeWith n σ l2 (((48 : Int32) + (((l1 / l4)) - ((l1 / l4)) / ((10 : Int32)) * ((10 : Int32)))))) fun p2 => f_X5_addDigits_J38 n a0 l1 lp p2.2 (p2.1) l4
noncomputable def f_X5_addDigits_L6 (n : Nat) (a0 : Nat) (l1 : Int32) (j : Nat) : cd_S → Int64 → Int32 → Option (cd_S × Int64 × Int32) :=
  Nat.rec (motive := fun _ => cd_S → Int64 → Int32 → Option (cd_S × Int64 × Int32)) (fun _ _ _ => none) (fun _ lp => fun (σ : cd_S) (l2 : Int64) (l4 : Int32) =>
  if l4 ≤ 0 then (some (σ, l2, l4)) else (if l4 ≤ l1 then (f_X5_addDigits_J23 n a0 l1 lp σ l2 l4) else (if l4 = (1 : Int32) then (f_X5_addDigits_J23 n a0 l1 lp σ l2 l4) else (f_X5_addDigits_J38 n a0 l1 lp σ l2 l4)))) j
noncomputable def f_X5_addDigits (n : Nat) (σ0 : cd_S) (a0 : Nat) (a1 : Int32) : Option (Int32 × cd_S) :=
  Option.bind (f_X5_addDigits_L6 n a0 a1 n σ0 0 100) fun q3 => Option.bind (f_X5_addStep n q3.1 a0 (q3.2.1)) fun p4 => some (((0 : Int32), p4.2))
noncomputable def f_X5_take_L26 (n : Nat) (a0 : Nat) (a1 : Nat) (j : Nat) : cd_S → Int32 → Option (cd_S × Int32) :=
  Nat.rec (motive := fun _ => cd_S → Int32 → Option (cd_S × Int32)) (fun _ _ => none) (fun _ lp => fun (σ : cd_S) (l2 : Int32) =>
  if (5 : Int32) ≤ l2 then (some (σ, l2)) else (Option.bind (cldL σ 161 a1 l2) fun v4 => Option.bind (cstL σ 161 a0 l2 v4) fun σ5 => lp σ5 ((l2 + 1)))) j
noncomputable def f_X5_take (n : Nat) (σ0 : cd_S) (a0 : Nat) (a1 : Nat) : Option (Int32 × cd_S) :=
  Option.bind (some (cSJ σ0 160 a0 ((cJ σ0 160 a1)))) fun σ1 => Option.bind (some (cSI σ1 163 a0 ((cI σ1 163 a1)))) fun σ2 => Option.bind (some (cSI σ2 162 a0 ((cI σ2 162 a1)))) fun σ3 => Option.bind (f_X5_take_L26 n a0 a1 n σ3 0) fun q6 => some (((0 : Int32), q6.1))
noncomputable def f_X3_aim (n : Nat) (σ0 : cd_S) (a1 : Int32) (a2 : Int32) : Option (Int32 × cd_S) :=
  if a1 < 0 then (some (((0 : Int32), σ0))) else (if (cI σ0 109 0) ≤ a1 then (some (((0 : Int32), σ0))) else (Option.bind (cldR 102 a1) fun u1 => Option.bind (f_X5_take n σ0 192 u1) fun p2 => Option.bind (f_X5_addDigits n p2.2 192 a2) fun p3 => some (((0 : Int32), p3.2))))
noncomputable def f_X5_covers_J106 (n : Nat) (a0 : Nat) (a1 : Nat) (lp : cd_S → Int32 → Int32 → Option (cd_S × Int32 × Int32)) (σ : cd_S) (l4 : Int32) (t0 : Int32) : Option (cd_S × Int32 × Int32) :=
  lp σ t0 ((l4 + 1))
noncomputable def f_X5_covers_L64 (n : Nat) (a0 : Nat) (a1 : Nat) (j : Nat) : cd_S → Int32 → Int32 → Option (cd_S × Int32 × Int32) :=
  Nat.rec (motive := fun _ => cd_S → Int32 → Int32 → Option (cd_S × Int32 × Int32)) (fun _ _ _ => none) (fun _ lp => fun (σ : cd_S) (l3 : Int32) (l4 : Int32) =>
  if l3 = 0 then (some (σ, l3, l4)) else (if (cI σ 162 a0) ≤ l4 then (some (σ, l3, l4)) else (if (5 : Int32) ≤ l4 then (some (σ, l3, l4)) else (Option.bind (cldL σ 161 a0 l4) fun v1 => Option.bind (cldL σ 161 a1 l4) fun v2 => if (lg_cmp v1 v2) = 0 then (f_X5_covers_J106 n a0 a1 lp σ l4 1) else (f_X5_covers_J106 n a0 a1 lp σ l4 0))))) j
noncomputable def f_X5_covers_J60 (n : Nat) (a0 : Nat) (a1 : Nat) (σ : cd_S) (t0 : Int32) : Option (Int32 × cd_S) :=
  Option.bind (f_X5_covers_L64 n a0 a1 n σ t0 0) fun q3 => Option.bind (md_zb (q3.2.1)) fun z4 => some ((z4, q3.1))
noncomputable def f_X5_covers (n : Nat) (σ0 : cd_S) (a0 : Nat) (a1 : Nat) : Option (Int32 × cd_S) :=
  if (cI σ0 163 a0) = 0 then (if ((cI σ0 162 a1) - (cI σ0 162 a0)) = 0 then (f_X5_covers_J60 n a0 a1 σ0 1) else (f_X5_covers_J60 n a0 a1 σ0 0)) else (if (cI σ0 163 a0) = (1 : Int32) then (if ((cI σ0 162 a1) - (cI σ0 162 a0)) = (1 : Int32) then (f_X5_covers_J60 n a0 a1 σ0 1) else (f_X5_covers_J60 n a0 a1 σ0 0)) else (if ((cI σ0 162 a1) - (cI σ0 162 a0)) < (1 : Int32) then (f_X5_covers_J60 n a0 a1 σ0 0) else (f_X5_covers_J60 n a0 a1 σ0 1)))
noncomputable def f_X3_anyHas_J64 (n : Nat) (a3 : Nat) (l1 : Int32) (l2 : Int32) (lp : cd_S → Int32 → Int32 → Option (cd_S × Int32 × Int32)) (σ : cd_S) (l5 : Int32) (t0 : Int32) : Option (cd_S × Int32 × Int32) :=
  lp σ t0 ((l5 + 1))
noncomputable def f_X3_anyHas_J63 (n : Nat) (a3 : Nat) (l1 : Int32) (l2 : Int32) (lp : cd_S → Int32 → Int32 → Option (cd_S × Int32 × Int32)) (σ : cd_S) (l5 : Int32) : Option (cd_S × Int32 × Int32) :=
  f_X3_anyHas_J64 n a3 l1 l2 lp σ l5 0
noncomputable def f_X3_anyHas_L6 (n : Nat) (a3 : Nat) (l1 : Int32) (l2 : Int32) (j : Nat) : cd_S → Int32 → Int32 → Option (cd_S × Int32 × Int32) :=
  Nat.rec (motive := fun _ => cd_S → Int32 → Int32 → Option (cd_S × Int32 × Int32)) (fun _ _ _ => none) (fun _ lp => fun (σ : cd_S) (l4 : Int32) (l5 : Int32) =>
  if l4 = 0 then (if (l1 + l2) ≤ l5 then (some (σ, l4, l5)) else (if (160 : Int32) ≤ l5 then (some (σ, l4, l5)) else (Option.bind (cldR 97 l5) fun u1 => if (lg_cmp (cJ σ 160 u1) (cJ σ 160 a3)) = 0 then (Option.bind (cldR 97 l5) fun u2 => Option.bind (f_X5_covers n σ u2 a3) fun p3 => if p3.1 = 0 then (f_X3_anyHas_J63 n a3 l1 l2 lp p3.2 l5) else (f_X3_anyHas_J64 n a3 l1 l2 lp p3.2 l5 1)) else (f_X3_anyHas_J63 n a3 l1 l2 lp σ l5)))) else (some (σ, l4, l5))) j
noncomputable def f_X3_anyHas (n : Nat) (σ0 : cd_S) (a1 : Int32) (a2 : Int32) (a3 : Nat) : Option (Int32 × cd_S) :=
  Option.bind (f_X3_anyHas_L6 n a3 a1 a2 n σ0 0 a1) fun q4 => Option.bind (md_zb (q4.2.1)) fun z5 => some ((z5, q4.1))
noncomputable def f_X3_holders_J38 (n : Nat) (a1 : Nat) (lp : cd_S → Int32 → Int32 → Option (cd_S × Int32 × Int32)) (σ : cd_S) (l3 : Int32) (t0 : Int32) (t1 : Int32) : Option (cd_S × Int32 × Int32) :=
  lp σ ((t1 ||| t0)) ((l3 + 1))
noncomputable def f_X3_holders_L4 (n : Nat) (a1 : Nat) (j : Nat) : cd_S → Int32 → Int32 → Option (cd_S × Int32 × Int32) :=
  Nat.rec (motive := fun _ => cd_S → Int32 → Int32 → Option (cd_S × Int32 × Int32)) (fun _ _ _ => none) (fun _ lp => fun (σ : cd_S) (l2 : Int32) (l3 : Int32) =>
  if (cI σ 106 0) ≤ l3 then (some (σ, l2, l3)) else (Option.bind (cldA σ 98 0 l3) fun v1 => Option.bind (f_X3_anyHas n σ ((l3 * 8)) v1 a1) fun p2 => if p2.1 = 0 then (f_X3_holders_J38 n a1 lp p2.2 l3 0 l2) else (f_X3_holders_J38 n a1 lp p2.2 l3 (((1 : Int32) <<< (l3 &&& 31))) l2))) j
noncomputable def f_X3_holders_J81 (n : Nat) (a1 : Nat) (l2 : Int32) (lp : cd_S → Int32 → Int32 → Option (cd_S × Int32 × Int32)) (σ : cd_S) (l4 : Int32) (t0 : Int32) (t1 : Int32) : Option (cd_S × Int32 × Int32) :=
  lp σ ((t1 ||| t0)) ((l4 + 1))
noncomputable def f_X3_holders_L51 (n : Nat) (a1 : Nat) (l2 : Int32) (j : Nat) : cd_S → Int32 → Int32 → Option (cd_S × Int32 × Int32) :=
  Nat.rec (motive := fun _ => cd_S → Int32 → Int32 → Option (cd_S × Int32 × Int32)) (fun _ _ _ => none) (fun _ lp => fun (σ : cd_S) (l3 : Int32) (l4 : Int32) =>
  if (cI σ 108 0) ≤ l4 then (some (σ, l3, l4)) else (Option.bind (cldA σ 100 0 l4) fun v4 => if (v4 &&& l2) = 0 then (f_X3_holders_J81 n a1 l2 lp σ l4 0 l3) else (f_X3_holders_J81 n a1 l2 lp σ l4 (((1 : Int32) <<< (l4 &&& 31))) l3))) j
noncomputable def f_X3_holders_J136 (n : Nat) (a1 : Nat) (lp : cd_S → Int32 → Int32 → Option (cd_S × Int32 × Int32)) (σ : cd_S) (l4 : Int32) (t0 : Int32) (t1 : Int32) : Option (cd_S × Int32 × Int32) :=
  lp σ ((t1 ||| t0)) ((l4 + 1))
noncomputable def f_X3_holders_L92 (n : Nat) (a1 : Nat) (j : Nat) : cd_S → Int32 → Int32 → Option (cd_S × Int32 × Int32) :=
  Nat.rec (motive := fun _ => cd_S → Int32 → Int32 → Option (cd_S × Int32 × Int32)) (fun _ _ _ => none) (fun _ lp => fun (σ : cd_S) (l3 : Int32) (l4 : Int32) =>
  if (cI σ 107 0) ≤ l4 then (some (σ, l3, l4)) else (Option.bind (cldA σ 99 0 l4) fun v6 => Option.bind (f_X3_anyHas n σ (((64 : Int32) + (l4 * 8))) v6 a1) fun p7 => if p7.1 = 0 then (f_X3_holders_J136 n a1 lp p7.2 l4 0 l3) else (f_X3_holders_J136 n a1 lp p7.2 l4 (((1 : Int32) <<< (((8 : Int32) + l4) &&& 31))) l3))) j
noncomputable def f_X3_holders (n : Nat) (σ0 : cd_S) (a1 : Nat) : Option (Int32 × cd_S) :=
  Option.bind (f_X3_holders_L4 n a1 n σ0 0 0) fun q3 => Option.bind (f_X3_holders_L51 n a1 (q3.2.1) n q3.1 0 0) fun q5 => Option.bind (f_X3_holders_L92 n a1 n q5.1 (q5.2.1) 0) fun q8 => some ((q8.2.1, q8.1))
noncomputable def f_X3_holdersOf (n : Nat) (σ0 : cd_S) (a1 : Int32) : Option (Int32 × cd_S) :=
  if a1 < 0 then (some (((0 : Int32), σ0))) else (if (cI σ0 109 0) ≤ a1 then (some (((0 : Int32), σ0))) else (Option.bind (cldA σ0 104 0 a1) fun v1 => some ((v1, σ0))))
noncomputable def f_X3_isIndexed (n : Nat) (σ0 : cd_S) (a1 : Int32) : Option (Int32 × cd_S) :=
  if a1 < 0 then (some (((0 : Int32), σ0))) else (if (cI σ0 109 0) ≤ a1 then (some (((0 : Int32), σ0))) else (Option.bind (cldA σ0 103 0 a1) fun v1 => if v1 = 0 then (some (((0 : Int32), σ0))) else (some (((1 : Int32), σ0)))))
noncomputable def f_X6_pop (n : Nat) (σ0 : cd_S) (a0 : Nat) : Option (Int64 × cd_S) :=
  if 0 < (cI σ0 193 a0) then (Option.bind (some (cSI σ0 193 a0 (((cI σ0 193 a0) - 1)))) fun σ1 => Option.bind (cldF σ1 a0 ((cI σ1 193 a0))) fun v2 => some ((v2, σ1))) else (some (((0 : Int64), σ0)))
noncomputable def f_X1_ask_J176 (n : Nat) (a1 : Nat) (σ : cd_S) (b : cd_B) (l7 : Int32) : Option (Int32 × cd_S × cd_B) :=
  Option.bind (f_X1_valueOf n σ (0 : Int32) l7) fun p1 => Option.bind (f_X1_push n p1.2 b a1 (p1.1)) fun p2 => cd_ck (fun (q : (Int32 × cd_S × cd_B)) => q.2.2) (p2.2.2) <| some ((p2.1, p2.2.1, p2.2.2))
noncomputable def f_X1_ask_J159 (n : Nat) (a1 : Nat) (σ : cd_S) (b : cd_B) (l3 : Int32) (l6 : Int32) (l7 : Int32) : Option (Int32 × cd_S × cd_B) :=
  if l3 = 0 then (f_X1_ask_J176 n a1 σ b l7) else (if l6 = 0 then (Option.bind (f_X1_fail n σ a1 (1 : Int32)) fun p4 => some ((p4.1, p4.2, b))) else (f_X1_ask_J176 n a1 σ b l7))
noncomputable def f_X1_ask_J142 (n : Nat) (a1 : Nat) (σ : cd_S) (b : cd_B) (l2 : Int32) (l3 : Int32) (l4 : Int32) (l6 : Int32) (t0 : Int32) : Option (Int32 × cd_S × cd_B) :=
  if l3 = 0 then (f_X1_ask_J159 n a1 σ b l3 l6 t0) else (Option.bind (f_X1_record n σ b a1 (1 : Int32) t0 l2 l4) fun p5 => cd_ck (fun (q : (Int32 × cd_S × cd_B)) => q.2.2) (p5.2.2) <| f_X1_ask_J159 n a1 p5.2.1 (p5.2.2) l3 l6 t0)
noncomputable def f_X1_ask_J130 (n : Nat) (a1 : Nat) (σ : cd_S) (b : cd_B) (l2 : Int32) (l3 : Int32) (l4 : Int32) (t0 : Int32) : Option (Int32 × cd_S × cd_B) :=
  if t0 = 0 then (f_X1_ask_J142 n a1 σ b l2 l3 l4 t0 0) else (f_X1_ask_J142 n a1 σ b l2 l3 l4 t0 1)
noncomputable def f_X1_ask_J97 (n : Nat) (a1 : Nat) (σ : cd_S) (b : cd_B) (l2 : Int32) (l3 : Int32) (l4 : Int32) (l5 : Int32) : Option (Int32 × cd_S × cd_B) :=
  if (cI σ 49 0) = 0 then (Option.bind (f_X7_nodeNow n σ a1) fun p7 => Option.bind (f_X1_walk n p7.2 (p7.1) l5) fun p8 => f_X1_ask_J130 n a1 p8.2 b l2 l3 l4 (p8.1)) else (Option.bind (f_X7_contextNow n σ a1) fun p9 => Option.bind (f_X0_grants n p9.2 (p9.1) l5) fun p10 => f_X1_ask_J130 n a1 p10.2 b l2 l3 l4 (p10.1))
noncomputable def f_X1_ask_J55 (n : Nat) (a1 : Nat) (σ : cd_S) (b : cd_B) (l2 : Int32) (l3 : Int32) (l4 : Int32) : Option (Int32 × cd_S × cd_B) :=
  Option.bind (f_X3_holdersOf n σ l2) fun p11 => if l4 = ((-1) : Int32) then (f_X1_ask_J97 n a1 p11.2 b l2 l3 l4 (p11.1)) else (Option.bind (f_X3_aim n p11.2 l2 l4) fun p12 => Option.bind (f_X3_holders n p12.2 192) fun p13 => f_X1_ask_J97 n a1 p13.2 b l2 l3 l4 (p13.1))
noncomputable def f_X1_ask_J49 (n : Nat) (a1 : Nat) (σ : cd_S) (b : cd_B) : Option (Int32 × cd_S × cd_B) :=
  Option.bind (f_X1_fail n σ a1 (5 : Int32)) fun p14 => some ((p14.1, p14.2, b))
noncomputable def f_X1_ask (n : Nat) (σ0 : cd_S) (b0 : cd_B) (a1 : Nat) (a2 : Int32) (a3 : Int32) : Option (Int32 × cd_S × cd_B) :=
  cd_ck (fun (q : (Int32 × cd_S × cd_B)) => q.2.2) b0 <| Option.bind (f_X3_isIndexed n σ0 a2) fun p15 => if p15.1 = 0 then (f_X1_ask_J55 n a1 p15.2 b0 a2 a3 ((-1))) else (Option.bind (f_X6_pop n p15.2 ((9 + 1 * a1))) fun p16 => Option.bind (f_X1_sortOf n p16.2 (p16.1)) fun p17 => if p17.1 = 0 then (if (p16.1.toInt32) < 0 then (f_X1_ask_J49 n a1 p17.2 b0) else (if (p16.1.toInt32) ≤ (999 : Int32) then (f_X1_ask_J55 n a1 p17.2 b0 a2 a3 ((p16.1.toInt32))) else (f_X1_ask_J49 n a1 p17.2 b0))) else (f_X1_ask_J49 n a1 p17.2 b0))
noncomputable def f_X1_takeOutcome (n : Nat) (σ0 : cd_S) (b0 : cd_B) (a1 : Nat) (a2 : Nat) : Option (Int32 × cd_S × cd_B) :=
  cd_ck (fun (q : (Int32 × cd_S × cd_B)) => q.2.2) b0 <| if (cI σ0 234 a2) = (2 : Int32) then (Option.bind (f_X1_fail n σ0 a1 (((cJ σ0 236 a2).toInt32))) fun p3 => some ((p3.1, p3.2, b0))) else (Option.bind (f_X1_push n σ0 b0 a1 ((cJ σ0 236 a2))) fun p1 => cd_ck (fun (q : (Int32 × cd_S × cd_B)) => q.2.2) (p1.2.2) <| some ((p1.1, p1.2.1, p1.2.2)))
noncomputable def f_X1_await_J48 (n : Nat) (a1 : Nat) (σ : cd_S) (b : cd_B) : Option (Int32 × cd_S × cd_B) :=
  Option.bind (f_X1_fail n σ a1 (8 : Int32)) fun p1 => some ((p1.1, p1.2, b))
noncomputable def f_X1_await (n : Nat) (σ0 : cd_S) (b0 : cd_B) (a1 : Nat) : Option (Int32 × cd_S × cd_B) :=
  cd_ck (fun (q : (Int32 × cd_S × cd_B)) => q.2.2) b0 <| Option.bind (f_X6_pop n σ0 ((9 + 1 * a1))) fun p2 => Option.bind (f_X1_sortOf n p2.2 (p2.1)) fun p3 => if p3.1 = 0 then (if (p2.1.toInt32) < 0 then (f_X1_await_J48 n a1 p3.2 b0) else (if (cI p3.2 40 0) ≤ (p2.1.toInt32) then (f_X1_await_J48 n a1 p3.2 b0) else (if (p2.1.toInt32) = (cI p3.2 231 a1) then (f_X1_await_J48 n a1 p3.2 b0) else (Option.bind (f_X1_hasEnded n p3.2 ((p2.1.toInt32))) fun p4 => if p4.1 = 0 then (Option.bind (some (cSI p4.2 235 a1 ((p2.1.toInt32)))) fun σ5 => some (((1 : Int32), σ5, b0))) else (Option.bind (f_X1_strandAt n p4.2 ((p2.1.toInt32))) fun p6 => Option.bind (f_X1_takeOutcome n p6.2 b0 a1 (p6.1)) fun p7 => cd_ck (fun (q : (Int32 × cd_S × cd_B)) => q.2.2) (p7.2.2) <| some ((p7.1, p7.2.1, p7.2.2))))))) else (Option.bind (f_X1_fail n p3.2 a1 (5 : Int32)) fun p9 => some ((p9.1, p9.2, b0)))
noncomputable def f_X1_back (n : Nat) (σ0 : cd_S) (b0 : cd_B) (a1 : Nat) : Option (Int32 × cd_S × cd_B) :=
  cd_ck (fun (q : (Int32 × cd_S × cd_B)) => q.2.2) b0 <| Option.bind (f_X6_pop n σ0 ((9 + 1 * a1))) fun p1 => Option.bind (f_X7_leave n p1.2 a1) fun p2 => if (cI p2.2 232 a1) ≤ 0 then (Option.bind (f_X7_finish n p2.2 a1 (1 : Int32) (p1.1)) fun p3 => some (((1 : Int32), p3.2, b0))) else (Option.bind (f_X1_push n p2.2 b0 a1 (p1.1)) fun p4 => cd_ck (fun (q : (Int32 × cd_S × cd_B)) => q.2.2) (p4.2.2) <| some ((p4.1, p4.2.1, p4.2.2)))
noncomputable def f_X1_calculate_J132 (n : Nat) (a1 : Nat) (σ : cd_S) (b : cd_B) (t0 : Int32) (t1 : Int32) : Option (Int32 × cd_S × cd_B) :=
  Option.bind (f_X1_valueOf n σ t1 t0) fun p1 => Option.bind (f_X1_push n p1.2 b a1 (p1.1)) fun p2 => cd_ck (fun (q : (Int32 × cd_S × cd_B)) => q.2.2) (p2.2.2) <| some ((p2.1, p2.2.1, p2.2.2))
noncomputable def f_X1_calculate_J32 (n : Nat) (a1 : Nat) (σ : cd_S) (b : cd_B) : Option (Int32 × cd_S × cd_B) :=
  Option.bind (f_X1_fail n σ a1 (5 : Int32)) fun p4 => some ((p4.1, p4.2, b))
noncomputable def f_X1_calculate (n : Nat) (σ0 : cd_S) (b0 : cd_B) (a1 : Nat) (a2 : Int32) : Option (Int32 × cd_S × cd_B) :=
  cd_ck (fun (q : (Int32 × cd_S × cd_B)) => q.2.2) b0 <| Option.bind (f_X6_pop n σ0 ((9 + 1 * a1))) fun p5 => Option.bind (f_X6_pop n p5.2 ((9 + 1 * a1))) fun p6 => Option.bind (f_X1_sortOf n p6.2 (p6.1)) fun p7 => if p7.1 = 0 then (Option.bind (f_X1_sortOf n p7.2 (p5.1)) fun p8 => if p8.1 = 0 then (if a2 = 11 then (Option.bind (f_X1_valueOf n p8.2 (0 : Int32) (((p6.1.toInt32) + (p5.1.toInt32)))) fun p9 => Option.bind (f_X1_push n p9.2 b0 a1 (p9.1)) fun p10 => cd_ck (fun (q : (Int32 × cd_S × cd_B)) => q.2.2) (p10.2.2) <| some ((p10.1, p10.2.1, p10.2.2))) else (if a2 = 12 then (Option.bind (f_X1_valueOf n p8.2 (0 : Int32) (((p6.1.toInt32) - (p5.1.toInt32)))) fun p12 => Option.bind (f_X1_push n p12.2 b0 a1 (p12.1)) fun p13 => cd_ck (fun (q : (Int32 × cd_S × cd_B)) => q.2.2) (p13.2.2) <| some ((p13.1, p13.2.1, p13.2.2))) else (if a2 = 13 then (Option.bind (f_X1_valueOf n p8.2 (0 : Int32) (((p6.1.toInt32) * (p5.1.toInt32)))) fun p15 => Option.bind (f_X1_push n p15.2 b0 a1 (p15.1)) fun p16 => cd_ck (fun (q : (Int32 × cd_S × cd_B)) => q.2.2) (p16.2.2) <| some ((p16.1, p16.2.1, p16.2.2))) else (if (p5.1.toInt32) ≤ (p6.1.toInt32) then (f_X1_calculate_J132 n a1 p8.2 b0 0 0) else (f_X1_calculate_J132 n a1 p8.2 b0 1 0))))) else (f_X1_calculate_J32 n a1 p8.2 b0)) else (f_X1_calculate_J32 n a1 p7.2 b0)
noncomputable def f_X1_callPart (n : Nat) (σ0 : cd_S) (a1 : Nat) (a2 : Nat) : Option (Int32 × cd_S) :=
  if (cI σ0 289 a2) = (4 : Int32) then (Option.bind (f_X7_peek n σ0 a1 ((cI σ0 299 a2))) fun p1 => Option.bind (f_X1_sortOf n p1.2 (p1.1)) fun p2 => if p2.1 = (4 : Int32) then (Option.bind (f_X1_call n p2.2 a1 a2 (((cI σ0 193 ((9 + 1 * a1))) - (cI σ0 299 a2))) ((((cI σ0 193 ((9 + 1 * a1))) - (cI σ0 299 a2)) - 1)) ((p1.1.toInt32))) fun p3 => some ((p3.1, p3.2))) else (Option.bind (f_X1_fail n p2.2 a1 (3 : Int32)) fun p4 => some ((p4.1, p4.2)))) else (Option.bind (f_X1_call n σ0 a1 a2 (((cI σ0 193 ((9 + 1 * a1))) - (cI σ0 299 a2))) (((cI σ0 193 ((9 + 1 * a1))) - (cI σ0 299 a2))) ((-1) : Int32)) fun p5 => some ((p5.1, p5.2)))
noncomputable def f_X1_closeTry (n : Nat) (σ0 : cd_S) (b0 : cd_B) (a0 : Nat) : Option (Int32 × cd_S × cd_B) :=
  cd_ck (fun (q : (Int32 × cd_S × cd_B)) => q.2.2) b0 <| Option.bind (f_X6_pop n σ0 ((9 + 1 * a0))) fun p1 => Option.bind (f_X6_pop n p1.2 ((9 + 1 * a0))) fun p2 => Option.bind (f_X1_push n p2.2 b0 a0 (p1.1)) fun p3 => cd_ck (fun (q : (Int32 × cd_S × cd_B)) => q.2.2) (p3.2.2) <| some ((p3.1, p3.2.1, p3.2.2))
noncomputable def f_X1_compareSame_J54 (n : Nat) (a1 : Nat) (σ : cd_S) (b : cd_B) (t0 : Int32) (t1 : Int32) : Option (Int32 × cd_S × cd_B) :=
  Option.bind (f_X1_valueOf n σ t1 t0) fun p1 => Option.bind (f_X1_push n p1.2 b a1 (p1.1)) fun p2 => cd_ck (fun (q : (Int32 × cd_S × cd_B)) => q.2.2) (p2.2.2) <| some ((p2.1, p2.2.1, p2.2.2))
noncomputable def f_X1_compareSame_J34 (n : Nat) (a1 : Nat) (σ : cd_S) (b : cd_B) : Option (Int32 × cd_S × cd_B) :=
  Option.bind (f_X1_fail n σ a1 (5 : Int32)) fun p4 => some ((p4.1, p4.2, b))
noncomputable def f_X1_compareSame (n : Nat) (σ0 : cd_S) (b0 : cd_B) (a1 : Nat) : Option (Int32 × cd_S × cd_B) :=
  cd_ck (fun (q : (Int32 × cd_S × cd_B)) => q.2.2) b0 <| Option.bind (f_X6_pop n σ0 ((9 + 1 * a1))) fun p5 => Option.bind (f_X6_pop n p5.2 ((9 + 1 * a1))) fun p6 => Option.bind (f_X1_sortOf n p6.2 (p6.1)) fun p7 => if (2 : Int32) < p7.1 then (f_X1_compareSame_J34 n a1 p7.2 b0) else (Option.bind (f_X1_sortOf n p7.2 (p5.1)) fun p8 => if p8.1 ≤ (2 : Int32) then (if (lg_cmp p6.1 p5.1) = 0 then (f_X1_compareSame_J54 n a1 p8.2 b0 1 0) else (f_X1_compareSame_J54 n a1 p8.2 b0 0 0)) else (f_X1_compareSame_J34 n a1 p8.2 b0))
noncomputable def f_X1_drop (n : Nat) (σ0 : cd_S) (a0 : Nat) : Option (Int32 × cd_S) :=
  Option.bind (f_X6_pop n σ0 ((9 + 1 * a0))) fun p1 => some (((0 : Int32), p1.2))
noncomputable def f_X1_failWith_J22 (n : Nat) (a1 : Nat) (σ : cd_S) (t0 : Int32) : Option (Int32 × cd_S) :=
  Option.bind (f_X1_fail n σ a1 t0) fun p1 => some ((p1.1, p1.2))
noncomputable def f_X1_failWith (n : Nat) (σ0 : cd_S) (a1 : Nat) : Option (Int32 × cd_S) :=
  Option.bind (f_X6_pop n σ0 ((9 + 1 * a1))) fun p2 => Option.bind (f_X1_sortOf n p2.2 (p2.1)) fun p3 => if p3.1 = 0 then (f_X1_failWith_J22 n a1 p3.2 ((p2.1.toInt32))) else (f_X1_failWith_J22 n a1 p3.2 5)
noncomputable def f_X1_jump (n : Nat) (σ0 : cd_S) (a0 : Nat) (a1 : Int32) : Option (Int32 × cd_S) :=
  Option.bind (f_X7_goTo n σ0 a0 a1) fun p1 => some (((0 : Int32), p1.2))
noncomputable def f_X1_jumpIfZero (n : Nat) (σ0 : cd_S) (a1 : Nat) (a2 : Int32) : Option (Int32 × cd_S) :=
  Option.bind (f_X6_pop n σ0 ((9 + 1 * a1))) fun p1 => Option.bind (f_X1_sortOf n p1.2 (p1.1)) fun p2 => if p2.1 = 0 then (if (p1.1.toInt32) = 0 then (Option.bind (f_X7_goTo n p2.2 a1 a2) fun p3 => some (((0 : Int32), p3.2))) else (some (((0 : Int32), p2.2)))) else (Option.bind (f_X1_fail n p2.2 a1 (5 : Int32)) fun p4 => some ((p4.1, p4.2)))
noncomputable def f_X1_makeFun_L43 (n : Nat) (a1 : Nat) (a2 : Nat) (l3 : Int32) (l4 : Int32) (j : Nat) : cd_S → cd_B → Int32 → Option (cd_S × cd_B × Int32) :=
  Nat.rec (motive := fun _ => cd_S → cd_B → Int32 → Option (cd_S × cd_B × Int32)) (fun _ _ _ => none) (fun _ lp => fun (σ : cd_S) (b : cd_B) (l5 : Int32) =>
  if (cI σ 299 a2) ≤ l5 then (some (σ, b, l5)) else (Option.bind (f_X6_get n σ ((9 + 1 * a1)) ((l4 + l5))) fun p4 => Option.bind (f_X6_add n p4.2 b 7 (p4.1)) fun p5 => cd_ck (fun (q : cd_S × cd_B × Int32) => q.2.1) (p5.2.2) <| lp p5.2.1 (p5.2.2) ((l5 + 1)))) j
noncomputable def f_X1_makeFun (n : Nat) (σ0 : cd_S) (b0 : cd_B) (a1 : Nat) (a2 : Nat) : Option (Int32 × cd_S × cd_B) :=
  cd_ck (fun (q : (Int32 × cd_S × cd_B)) => q.2.2) b0 <| Option.bind (f_X1_thingCount n σ0 ) fun p1 => if p1.1 < (2000 : Int32) then (Option.bind (f_X1_addThing n p1.2 b0 ((cI p1.2 288 a2))) fun p2 => cd_ck (fun (q : (Int32 × cd_S × cd_B)) => q.2.2) (p2.2.2) <| Option.bind (f_X1_makeFun_L43 n a1 a2 (p2.1) (((cI p2.2.1 193 ((9 + 1 * a1))) - (cI p2.2.1 299 a2))) n p2.2.1 (p2.2.2) 0) fun q7 => cd_ck (fun (q : (Int32 × cd_S × cd_B)) => q.2.2) (q7.2.1) <| Option.bind (f_X6_cut n q7.1 ((9 + 1 * a1)) (((cI p2.2.1 193 ((9 + 1 * a1))) - (cI p2.2.1 299 a2)))) fun p9 => Option.bind (f_X1_valueOf n p9.2 (3 : Int32) (p2.1)) fun p10 => Option.bind (f_X1_push n p10.2 (q7.2.1) a1 (p10.1)) fun p11 => cd_ck (fun (q : (Int32 × cd_S × cd_B)) => q.2.2) (p11.2.2) <| some ((p11.1, p11.2.1, p11.2.2))) else (Option.bind (f_X1_fail n p1.2 a1 (9 : Int32)) fun p13 => some ((p13.1, p13.2, b0)))
noncomputable def f_X6_set (n : Nat) (σ0 : cd_S) (a0 : Nat) (a1 : Int32) (a2 : Int64) : Option (Int32 × cd_S) :=
  if a1 < 0 then (some (((0 : Int32), σ0))) else (if (cI σ0 193 a0) ≤ a1 then (some (((0 : Int32), σ0))) else (Option.bind (cstF σ0 a0 a1 a2) fun σ1 => some (((0 : Int32), σ1))))
noncomputable def f_X1_put (n : Nat) (σ0 : cd_S) (a0 : Nat) (a1 : Int32) : Option (Int32 × cd_S) :=
  Option.bind (f_X7_baseNow n σ0 a0) fun p1 => Option.bind (f_X6_pop n p1.2 ((9 + 1 * a0))) fun p2 => Option.bind (f_X6_set n p2.2 ((9 + 1 * a0)) ((p1.1 + a1)) (p2.1)) fun p3 => some (((0 : Int32), p3.2))
noncomputable def f_X2_fieldSlot_L25 (n : Nat) (l2 : Int64) (l4 : Int32) (l5 : Int32) (j : Nat) : cd_S → Int32 → Option ((Int32 × cd_S) ⊕ (cd_S × Int32)) :=
  Nat.rec (motive := fun _ => cd_S → Int32 → Option ((Int32 × cd_S) ⊕ (cd_S × Int32))) (fun _ _ => none) (fun _ lp => fun (σ : cd_S) (l6 : Int32) =>
  Option.bind (cldA σ 70 0 l4) fun v2 => if v2 ≤ l6 then (some (Sum.inr (σ, l6))) else (Option.bind (cldL σ 69 0 (((l4 * 4) + l6))) fun v3 => if (lg_cmp v3 l2) = 0 then (Option.bind (cldA σ 71 0 l4) fun v4 => some (Sum.inl (((v4 + l6), σ)))) else (lp σ ((l6 + 1))))) j
noncomputable def f_X2_fieldSlot_L6 (n : Nat) (l2 : Int64) (j : Nat) : cd_S → Int32 → Int32 → Option ((Int32 × cd_S) ⊕ (cd_S × Int32 × Int32)) :=
  Nat.rec (motive := fun _ => cd_S → Int32 → Int32 → Option ((Int32 × cd_S) ⊕ (cd_S × Int32 × Int32))) (fun _ _ _ => none) (fun _ lp => fun (σ : cd_S) (l4 : Int32) (l5 : Int32) =>
  if (8 : Int32) ≤ l5 then (some (Sum.inr (σ, l4, l5))) else (Option.bind (f_X2_isModule n σ l4) fun p1 => if p1.1 = 0 then (some (Sum.inr (p1.2, l4, l5))) else (Option.bind (f_X2_fieldSlot_L25 n l2 l4 l5 n p1.2 0) fun q5 => Sum.elim (fun r => some (Sum.inl r)) (fun t5 => Option.bind (cldA t5.1 68 0 l4) fun v6 => lp t5.1 v6 ((l5 + 1))) q5))) j
noncomputable def f_X2_fieldSlot (n : Nat) (σ0 : cd_S) (a1 : Int32) (a2 : Int64) : Option (Int32 × cd_S) :=
  Option.bind (f_X2_fieldSlot_L6 n a2 n σ0 a1 0) fun q7 => Sum.elim some (fun t7 => some ((((-1) : Int32), t7.1))) q7
noncomputable def f_X2_nameAt_J21 (n : Nat) (σ : cd_S) : Option (Int64 × cd_S) :=
  some (((0 : Int64), σ))
noncomputable def f_X2_nameAt (n : Nat) (σ0 : cd_S) (a1 : Int32) : Option (Int64 × cd_S) :=
  if a1 < 0 then (f_X2_nameAt_J21 n σ0) else (if (cI σ0 78 0) ≤ a1 then (f_X2_nameAt_J21 n σ0) else (Option.bind (cldL σ0 77 0 a1) fun v1 => some ((v1, σ0))))
noncomputable def f_X1_readField (n : Nat) (σ0 : cd_S) (b0 : cd_B) (a1 : Nat) (a2 : Int32) : Option (Int32 × cd_S × cd_B) :=
  cd_ck (fun (q : (Int32 × cd_S × cd_B)) => q.2.2) b0 <| Option.bind (f_X6_pop n σ0 ((9 + 1 * a1))) fun p1 => Option.bind (f_X1_sortOf n p1.2 (p1.1)) fun p2 => if p2.1 = (2 : Int32) then (Option.bind (f_X1_thingOf n p2.2 (p1.1)) fun p3 => Option.bind (f_X2_nameAt n p3.2 a2) fun p4 => Option.bind (f_X2_fieldSlot n p4.2 (p3.1) (p4.1)) fun p5 => if p5.1 = ((-1) : Int32) then (Option.bind (f_X1_fail n p5.2 a1 (2 : Int32)) fun p10 => some ((p10.1, p10.2, b0))) else (Option.bind (f_X1_slotsOf n p5.2 (p1.1)) fun p6 => Option.bind (f_X6_get n p6.2 7 ((p6.1 + p5.1))) fun p7 => Option.bind (f_X1_push n p7.2 b0 a1 (p7.1)) fun p8 => cd_ck (fun (q : (Int32 × cd_S × cd_B)) => q.2.2) (p8.2.2) <| some ((p8.1, p8.2.1, p8.2.2)))) else (Option.bind (f_X1_fail n p2.2 a1 (3 : Int32)) fun p11 => some ((p11.1, p11.2, b0)))
noncomputable def f_X2_ownMethod_J79 (n : Nat) (l1 : Int32) (l2 : Int64) (l4 : Int32) (l5 : Int32) (lp : cd_S → Int32 → Option ((Int32 × cd_S) ⊕ (cd_S × Int32))) (σ : cd_S) (l6 : Int32) : Option ((Int32 × cd_S) ⊕ (cd_S × Int32)) :=
  lp σ ((l6 + 1))
noncomputable def f_X2_ownMethod_L27 (n : Nat) (l1 : Int32) (l2 : Int64) (l4 : Int32) (l5 : Int32) (j : Nat) : cd_S → Int32 → Option ((Int32 × cd_S) ⊕ (cd_S × Int32)) :=
  Nat.rec (motive := fun _ => cd_S → Int32 → Option ((Int32 × cd_S) ⊕ (cd_S × Int32))) (fun _ _ => none) (fun _ lp => fun (σ : cd_S) (l6 : Int32) =>
  if l5 ≤ l6 then (some (Sum.inr (σ, l6))) else (Option.bind (cldA σ 72 0 (((l1 * 12) + l6))) fun v1 => Option.bind (f_X2_unitAt n σ v1) fun p2 => if (lg_cmp (cJ p2.2 293 (p2.1)) l2) = 0 then (Option.bind (f_X2_unitAt n p2.2 v1) fun p3 => if (cI p3.2 294 (p3.1)) = l4 then (some (Sum.inl ((v1, p3.2)))) else (f_X2_ownMethod_J79 n l1 l2 l4 l5 lp p3.2 l6)) else (f_X2_ownMethod_J79 n l1 l2 l4 l5 lp p2.2 l6))) j
noncomputable def f_X2_ownMethod_J22 (n : Nat) (σ : cd_S) (l1 : Int32) (l2 : Int64) (l4 : Int32) (t0 : Int32) : Option (Int32 × cd_S) :=
  Option.bind (f_X2_ownMethod_L27 n l1 l2 l4 t0 n σ 0) fun q4 => Sum.elim some (fun t4 => some ((((-1) : Int32), t4.1))) q4
noncomputable def f_X2_ownMethod_J21 (n : Nat) (σ : cd_S) (l1 : Int32) (l2 : Int64) (l4 : Int32) : Option (Int32 × cd_S) :=
  f_X2_ownMethod_J22 n σ l1 l2 l4 0
noncomputable def f_X2_ownMethod (n : Nat) (σ0 : cd_S) (a1 : Int32) (a2 : Int64) (a4 : Int32) : Option (Int32 × cd_S) :=
  if a1 < 0 then (f_X2_ownMethod_J21 n σ0 a1 a2 a4) else (if (cI σ0 74 0) ≤ a1 then (f_X2_ownMethod_J21 n σ0 a1 a2 a4) else (Option.bind (cldA σ0 73 0 a1) fun v5 => f_X2_ownMethod_J22 n σ0 a1 a2 a4 v5))
noncomputable def f_X2_findMethod_L9 (n : Nat) (l2 : Int64) (l4 : Int32) (j : Nat) : cd_S → Int32 → Int32 → Int32 → Option (cd_S × Int32 × Int32 × Int32) :=
  Nat.rec (motive := fun _ => cd_S → Int32 → Int32 → Int32 → Option (cd_S × Int32 × Int32 × Int32)) (fun _ _ _ _ => none) (fun _ lp => fun (σ : cd_S) (l5 : Int32) (l6 : Int32) (l7 : Int32) =>
  if (8 : Int32) ≤ l7 then (some (σ, l5, l6, l7)) else (Option.bind (f_X2_isModule n σ l5) fun p1 => if p1.1 = 0 then (some (p1.2, l5, l6, l7)) else (if l6 = ((-1) : Int32) then (Option.bind (f_X2_ownMethod n p1.2 l5 l2 l4) fun p2 => Option.bind (cldA p2.2 68 0 l5) fun v3 => lp p2.2 v3 (p2.1) ((l7 + 1))) else (some (p1.2, l5, l6, l7))))) j
noncomputable def f_X2_findMethod (n : Nat) (σ0 : cd_S) (a1 : Int32) (a2 : Int64) (a4 : Int32) : Option (Int32 × cd_S) :=
  Option.bind (f_X2_findMethod_L9 n a2 a4 n σ0 a1 ((-1)) 0) fun q4 => some ((q4.2.2.1, q4.1))
noncomputable def f_X1_send (n : Nat) (σ0 : cd_S) (a1 : Nat) (a2 : Int32) (a3 : Int32) : Option (Int32 × cd_S) :=
  Option.bind (f_X7_peek n σ0 a1 a3) fun p1 => Option.bind (f_X1_sortOf n p1.2 (p1.1)) fun p2 => if p2.1 = (2 : Int32) then (Option.bind (f_X1_thingOf n p2.2 (p1.1)) fun p3 => Option.bind (f_X2_nameAt n p3.2 a2) fun p4 => Option.bind (f_X2_findMethod n p4.2 (p3.1) (p4.1) a3) fun p5 => if p5.1 = ((-1) : Int32) then (Option.bind (f_X1_fail n p5.2 a1 (2 : Int32)) fun p8 => some ((p8.1, p8.2))) else (Option.bind (f_X2_unitAt n p5.2 (p5.1)) fun p6 => Option.bind (f_X1_call n p6.2 a1 (p6.1) ((((cI p5.2 193 ((9 + 1 * a1))) - 1) - a3)) ((((cI p5.2 193 ((9 + 1 * a1))) - 1) - a3)) ((-1) : Int32)) fun p7 => some ((p7.1, p7.2)))) else (Option.bind (f_X1_fail n p2.2 a1 (3 : Int32)) fun p9 => some ((p9.1, p9.2)))
noncomputable def f_X1_spawn (n : Nat) (σ0 : cd_S) (b0 : cd_B) (a1 : Nat) : Option (Int32 × cd_S × cd_B) :=
  cd_ck (fun (q : (Int32 × cd_S × cd_B)) => q.2.2) b0 <| Option.bind (f_X6_pop n σ0 ((9 + 1 * a1))) fun p1 => Option.bind (f_X1_sortOf n p1.2 (p1.1)) fun p2 => if p2.1 = (3 : Int32) then (Option.bind (f_X1_thingOf n p2.2 (p1.1)) fun p3 => Option.bind (f_X2_unitAt n p3.2 (p3.1)) fun p4 => if (cI p4.2 294 (p4.1)) = 0 then (if (cI p4.2 40 0) < (8 : Int32) then (Option.bind (f_X1_strandAt n p4.2 ((cI p4.2 40 0))) fun p5 => Option.bind (f_X7_clear n p5.2 (p5.1) ((cI p5.2 40 0))) fun p6 => Option.bind (f_X1_pushCaptured n p6.2 b0 (p5.1) (p1.1) (p4.1)) fun p7 => cd_ck (fun (q : (Int32 × cd_S × cd_B)) => q.2.2) (p7.2.2) <| Option.bind (f_X1_call n p7.2.1 (p5.1) (p4.1) (0 : Int32) (0 : Int32) ((-1) : Int32)) fun p9 => some ((p9.1, p9.2, p7.2.2))) else (Option.bind (f_X1_fail n p4.2 a1 (7 : Int32)) fun p10 => some ((p10.1, p10.2, b0)))) else (Option.bind (f_X1_fail n p4.2 a1 (4 : Int32)) fun p11 => some ((p11.1, p11.2, b0)))) else (Option.bind (f_X1_fail n p2.2 a1 (3 : Int32)) fun p12 => some ((p12.1, p12.2, b0)))
noncomputable def f_X1_writeField (n : Nat) (σ0 : cd_S) (b0 : cd_B) (a1 : Nat) (a2 : Int32) : Option (Int32 × cd_S × cd_B) :=
  cd_ck (fun (q : (Int32 × cd_S × cd_B)) => q.2.2) b0 <| Option.bind (f_X6_pop n σ0 ((9 + 1 * a1))) fun p1 => Option.bind (f_X6_pop n p1.2 ((9 + 1 * a1))) fun p2 => Option.bind (f_X1_sortOf n p2.2 (p2.1)) fun p3 => if p3.1 = (2 : Int32) then (Option.bind (f_X1_thingOf n p3.2 (p2.1)) fun p4 => Option.bind (f_X2_nameAt n p4.2 a2) fun p5 => Option.bind (f_X2_fieldSlot n p5.2 (p4.1) (p5.1)) fun p6 => if p6.1 = ((-1) : Int32) then (Option.bind (f_X1_fail n p6.2 a1 (2 : Int32)) fun p11 => some ((p11.1, p11.2, b0))) else (Option.bind (f_X1_slotsOf n p6.2 (p2.1)) fun p7 => Option.bind (f_X6_set n p7.2 7 ((p7.1 + p6.1)) (p1.1)) fun p8 => Option.bind (f_X1_push n p8.2 b0 a1 (p1.1)) fun p9 => cd_ck (fun (q : (Int32 × cd_S × cd_B)) => q.2.2) (p9.2.2) <| some ((p9.1, p9.2.1, p9.2.2)))) else (Option.bind (f_X1_fail n p3.2 a1 (3 : Int32)) fun p12 => some ((p12.1, p12.2, b0)))
noncomputable def f_X1_writeOut (n : Nat) (σ0 : cd_S) (b0 : cd_B) (a1 : Nat) : Option (Int32 × cd_S × cd_B) :=
  cd_ck (fun (q : (Int32 × cd_S × cd_B)) => q.2.2) b0 <| Option.bind (f_X7_peek n σ0 a1 (0 : Int32)) fun p1 => Option.bind (f_X1_sortOf n p1.2 (p1.1)) fun p2 => if p2.1 = 0 then (Option.bind (f_X1_record n p2.2 b0 a1 (0 : Int32) ((p1.1.toInt32)) ((-1) : Int32) ((-1) : Int32)) fun p3 => cd_ck (fun (q : (Int32 × cd_S × cd_B)) => q.2.2) (p3.2.2) <| some (((1 : Int32), p3.2.1, p3.2.2))) else (Option.bind (f_X1_fail n p2.2 a1 (5 : Int32)) fun p5 => some ((p5.1, p5.2, b0)))
noncomputable def f_X2_numberAt (n : Nat) (σ0 : cd_S) (a1 : Int32) : Option (Int32 × cd_S) :=
  if a1 < 0 then (some (((0 : Int32), σ0))) else (if (cI σ0 76 0) ≤ a1 then (some (((0 : Int32), σ0))) else (Option.bind (cldA σ0 75 0 a1) fun v1 => some ((v1, σ0))))
noncomputable def f_X6_pairAt (n : Nat) (σ0 : cd_S) (a0 : Nat) (a1 : Int32) : Option (Int32 × cd_S) :=
  Option.bind (f_X6_at n σ0 a0 a1) fun p1 => Option.bind (f_X6_at n p1.2 a0 ((a1 + 1))) fun p2 => some ((((p1.1 <<< (8 &&& 31)) ||| p2.1), p2.2))
noncomputable def f_X7_placeNow (n : Nat) (σ0 : cd_S) (a0 : Nat) : Option (Int32 × cd_S) :=
  Option.bind (f_X7_framed n σ0 a0) fun p1 => if p1.1 = 0 then (some (((0 : Int32), p1.2))) else (Option.bind (cldA p1.2 225 a0 (((cI p1.2 232 a0) - 1))) fun v2 => some ((v2, p1.2)))
noncomputable def f_X7_unitNow (n : Nat) (σ0 : cd_S) (a0 : Nat) : Option (Int32 × cd_S) :=
  Option.bind (f_X7_framed n σ0 a0) fun p1 => if p1.1 = 0 then (some (((0 : Int32), p1.2))) else (Option.bind (cldA p1.2 224 a0 (((cI p1.2 232 a0) - 1))) fun v2 => some ((v2, p1.2)))
noncomputable def f_X1_step_J453 (n : Nat) (a1 : Nat) (σ : cd_S) (b : cd_B) (t0 : Int32) (t1 : Int32) : Option (Int32 × cd_S × cd_B) :=
  Option.bind (f_X1_valueOf n σ t1 t0) fun p1 => Option.bind (f_X1_push n p1.2 b a1 (p1.1)) fun p2 => cd_ck (fun (q : (Int32 × cd_S × cd_B)) => q.2.2) (p2.2.2) <| some ((p2.1, p2.2.1, p2.2.2))
noncomputable def f_X1_step_J341 (n : Nat) (a1 : Nat) (σ : cd_S) (b : cd_B) (l4 : Int32) : Option (Int32 × cd_S × cd_B) :=
  Option.bind (f_X1_calculate n σ b a1 l4) fun p4 => cd_ck (fun (q : (Int32 × cd_S × cd_B)) => q.2.2) (p4.2.2) <| some ((p4.1, p4.2.1, p4.2.2))
noncomputable def f_X1_step_J69 (n : Nat) (a1 : Nat) (σ : cd_S) (b : cd_B) (l2 : Nat) (l3 : Int32) (l4 : Int32) (l5 : Int32) (t0 : Int32) : Option (Int32 × cd_S × cd_B) :=
  Option.bind (f_X7_goTo n σ a1 (((l3 + 1) + ((2 : Int32) * l5)))) fun p6 => if l4 = 0 then (Option.bind (f_X2_numberAt n p6.2 t0) fun p7 => Option.bind (f_X1_valueOf n p7.2 (0 : Int32) (p7.1)) fun p8 => Option.bind (f_X1_push n p8.2 b a1 (p8.1)) fun p9 => cd_ck (fun (q : (Int32 × cd_S × cd_B)) => q.2.2) (p9.2.2) <| some ((p9.1, p9.2.1, p9.2.2))) else (if l4 = 1 then (Option.bind (f_X1_push n p6.2 b a1 (4294967296 : Int64)) fun p11 => cd_ck (fun (q : (Int32 × cd_S × cd_B)) => q.2.2) (p11.2.2) <| some ((p11.1, p11.2.1, p11.2.2))) else (if l4 = 2 then (Option.bind (f_X7_baseNow n p6.2 a1) fun p13 => Option.bind (f_X6_get n p13.2 ((9 + 1 * a1)) ((p13.1 + t0))) fun p14 => Option.bind (f_X1_push n p14.2 b a1 (p14.1)) fun p15 => cd_ck (fun (q : (Int32 × cd_S × cd_B)) => q.2.2) (p15.2.2) <| some ((p15.1, p15.2.1, p15.2.2))) else (if l4 = 3 then (Option.bind (f_X1_put n p6.2 a1 t0) fun p17 => some ((p17.1, p17.2, b))) else (if l4 = 4 then (Option.bind (f_X1_makeObject n p6.2 b a1 t0) fun p18 => cd_ck (fun (q : (Int32 × cd_S × cd_B)) => q.2.2) (p18.2.2) <| some ((p18.1, p18.2.1, p18.2.2))) else (if l4 = 5 then (Option.bind (f_X1_readField n p6.2 b a1 t0) fun p20 => cd_ck (fun (q : (Int32 × cd_S × cd_B)) => q.2.2) (p20.2.2) <| some ((p20.1, p20.2.1, p20.2.2))) else (if l4 = 6 then (Option.bind (f_X1_writeField n p6.2 b a1 t0) fun p22 => cd_ck (fun (q : (Int32 × cd_S × cd_B)) => q.2.2) (p22.2.2) <| some ((p22.1, p22.2.1, p22.2.2))) else (if l4 = 7 then (Option.bind (f_X6_pairAt n p6.2 l2 ((l3 + 3))) fun p24 => Option.bind (f_X1_send n p24.2 a1 t0 (p24.1)) fun p25 => some ((p25.1, p25.2, b))) else (if l4 = 8 then (Option.bind (f_X1_apply n p6.2 b a1 t0) fun p26 => cd_ck (fun (q : (Int32 × cd_S × cd_B)) => q.2.2) (p26.2.2) <| some ((p26.1, p26.2.1, p26.2.2))) else (if l4 = 9 then (Option.bind (f_X2_unitAt n p6.2 t0) fun p28 => Option.bind (f_X1_makeFun n p28.2 b a1 (p28.1)) fun p29 => cd_ck (fun (q : (Int32 × cd_S × cd_B)) => q.2.2) (p29.2.2) <| some ((p29.1, p29.2.1, p29.2.2))) else (if l4 = 10 then (Option.bind (f_X2_unitAt n p6.2 t0) fun p31 => Option.bind (f_X1_callPart n p31.2 a1 (p31.1)) fun p32 => some ((p32.1, p32.2, b))) else (if l4 = 11 then (f_X1_step_J341 n a1 p6.2 b l4) else (if l4 = 12 then (f_X1_step_J341 n a1 p6.2 b l4) else (if l4 = 13 then (f_X1_step_J341 n a1 p6.2 b l4) else (if l4 = 14 then (f_X1_step_J341 n a1 p6.2 b l4) else (if l4 = 15 then (Option.bind (f_X1_compareSame n p6.2 b a1) fun p33 => cd_ck (fun (q : (Int32 × cd_S × cd_B)) => q.2.2) (p33.2.2) <| some ((p33.1, p33.2.1, p33.2.2))) else (if l4 = 16 then (Option.bind (f_X1_drop n p6.2 a1) fun p35 => some ((p35.1, p35.2, b))) else (if l4 = 17 then (Option.bind (f_X1_jump n p6.2 a1 t0) fun p36 => some ((p36.1, p36.2, b))) else (if l4 = 18 then (Option.bind (f_X1_jumpIfZero n p6.2 a1 t0) fun p37 => some ((p37.1, p37.2, b))) else (if l4 = 19 then (Option.bind (f_X1_valueOf n p6.2 (5 : Int32) t0) fun p38 => Option.bind (f_X1_push n p38.2 b a1 (p38.1)) fun p39 => cd_ck (fun (q : (Int32 × cd_S × cd_B)) => q.2.2) (p39.2.2) <| some ((p39.1, p39.2.1, p39.2.2))) else (if l4 = 20 then (Option.bind (f_X1_closeTry n p6.2 b a1) fun p41 => cd_ck (fun (q : (Int32 × cd_S × cd_B)) => q.2.2) (p41.2.2) <| some ((p41.1, p41.2.1, p41.2.2))) else (if l4 = 21 then (Option.bind (f_X1_writeOut n p6.2 b a1) fun p43 => cd_ck (fun (q : (Int32 × cd_S × cd_B)) => q.2.2) (p43.2.2) <| some ((p43.1, p43.2.1, p43.2.2))) else (if l4 = 22 then (Option.bind (f_X1_failWith n p6.2 a1) fun p45 => some ((p45.1, p45.2, b))) else (if l4 = 23 then (Option.bind (f_X1_spawn n p6.2 b a1) fun p46 => cd_ck (fun (q : (Int32 × cd_S × cd_B)) => q.2.2) (p46.2.2) <| some ((p46.1, p46.2.1, p46.2.2))) else (if l4 = 24 then (Option.bind (f_X1_await n p6.2 b a1) fun p48 => cd_ck (fun (q : (Int32 × cd_S × cd_B)) => q.2.2) (p48.2.2) <| some ((p48.1, p48.2.1, p48.2.2))) else (if l4 = 25 then (Option.bind (f_X1_ask n p6.2 b a1 t0 (1 : Int32)) fun p50 => cd_ck (fun (q : (Int32 × cd_S × cd_B)) => q.2.2) (p50.2.2) <| some ((p50.1, p50.2.1, p50.2.2))) else (if l4 = 26 then (Option.bind (f_X1_ask n p6.2 b a1 t0 (0 : Int32)) fun p52 => cd_ck (fun (q : (Int32 × cd_S × cd_B)) => q.2.2) (p52.2.2) <| some ((p52.1, p52.2.1, p52.2.2))) else (if l4 = 27 then (if (cI p6.2 49 0) = 0 then (Option.bind (f_X7_nodeNow n p6.2 a1) fun p54 => f_X1_step_J453 n a1 p54.2 b (p54.1) 4) else (Option.bind (f_X7_contextNow n p6.2 a1) fun p55 => f_X1_step_J453 n a1 p55.2 b (p55.1) 4)) else (Option.bind (f_X1_back n p6.2 b a1) fun p56 => cd_ck (fun (q : (Int32 × cd_S × cd_B)) => q.2.2) (p56.2.2) <| some ((p56.1, p56.2.1, p56.2.2))))))))))))))))))))))))))))))
noncomputable def f_X1_step_J51 (n : Nat) (a1 : Nat) (σ : cd_S) (b : cd_B) (l2 : Nat) (l3 : Int32) (l4 : Int32) (t0 : Int32) : Option (Int32 × cd_S × cd_B) :=
  if t0 ≤ 0 then (f_X1_step_J69 n a1 σ b l2 l3 l4 t0 0) else (Option.bind (f_X6_pairAt n σ l2 ((l3 + 1))) fun p58 => f_X1_step_J69 n a1 p58.2 b l2 l3 l4 t0 (p58.1))
noncomputable def f_X1_step_J50 (n : Nat) (a1 : Nat) (σ : cd_S) (b : cd_B) (l2 : Nat) (l3 : Int32) (l4 : Int32) : Option (Int32 × cd_S × cd_B) :=
  f_X1_step_J51 n a1 σ b l2 l3 l4 0
noncomputable def f_X1_step (n : Nat) (σ0 : cd_S) (b0 : cd_B) (a1 : Nat) : Option (Int32 × cd_S × cd_B) :=
  cd_ck (fun (q : (Int32 × cd_S × cd_B)) => q.2.2) b0 <| Option.bind (f_X7_unitNow n σ0 a1) fun p59 => Option.bind (f_X2_unitAt n p59.2 (p59.1)) fun p60 => Option.bind (f_X7_placeNow n p60.2 a1) fun p61 => Option.bind (f_X6_at n p61.2 ((18 + 3 * (p60.1))) (p61.1)) fun p62 => if p62.1 < 0 then (f_X1_step_J50 n a1 p62.2 b0 ((18 + 3 * (p60.1))) (p61.1) (p62.1)) else (if (29 : Int32) ≤ p62.1 then (f_X1_step_J50 n a1 p62.2 b0 ((18 + 3 * (p60.1))) (p61.1) (p62.1)) else (Option.bind (cd_opl (p62.1)) fun v63 => f_X1_step_J51 n a1 p62.2 b0 ((18 + 3 * (p60.1))) (p61.1) (p62.1) v63))
noncomputable def f_X1_goThread_J78 (n : Nat) (a1 : Nat) (lp : cd_S → cd_B → Int32 → Int32 → Option (cd_S × cd_B × Int32 × Int32)) (σ : cd_S) (b : cd_B) (l2 : Int32) (l3 : Int32) : Option (cd_S × cd_B × Int32 × Int32) :=
  lp σ b l2 ((l3 + 1))
noncomputable def f_X1_goThread_L33 (n : Nat) (a1 : Nat) (j : Nat) : cd_S → cd_B → Int32 → Int32 → Option (cd_S × cd_B × Int32 × Int32) :=
  Nat.rec (motive := fun _ => cd_S → cd_B → Int32 → Int32 → Option (cd_S × cd_B × Int32 × Int32)) (fun _ _ _ _ => none) (fun _ lp => fun (σ : cd_S) (b : cd_B) (l2 : Int32) (l3 : Int32) =>
  if (100000000 : Int32) ≤ l3 then (some (σ, b, l2, l3)) else (if l2 = (1 : Int32) then (some (σ, b, l2, l3)) else (if l2 = (2 : Int32) then (Option.bind (f_X1_raise n σ b a1) fun p5 => cd_ck (fun (q : cd_S × cd_B × Int32 × Int32) => q.2.1) (p5.2.2) <| f_X1_goThread_J78 n a1 lp p5.2.1 (p5.2.2) (p5.1) l3) else (if l2 = (3 : Int32) then (Option.bind (f_X1_begin n σ b a1) fun p3 => cd_ck (fun (q : cd_S × cd_B × Int32 × Int32) => q.2.1) (p3.2.2) <| f_X1_goThread_J78 n a1 lp p3.2.1 (p3.2.2) (p3.1) l3) else (Option.bind (f_X1_step n σ b a1) fun p1 => cd_ck (fun (q : cd_S × cd_B × Int32 × Int32) => q.2.1) (p1.2.2) <| f_X1_goThread_J78 n a1 lp p1.2.1 (p1.2.2) (p1.1) l3))))) j
noncomputable def f_X1_goThread_J31 (n : Nat) (a1 : Nat) (σ : cd_S) (b : cd_B) (l2 : Int32) : Option (Int32 × cd_S × cd_B) :=
  Option.bind (f_X1_goThread_L33 n a1 n σ b l2 0) fun q7 => cd_ck (fun (q : (Int32 × cd_S × cd_B)) => q.2.2) (q7.2.1) <| some (((0 : Int32), q7.1, q7.2.1))
noncomputable def f_X1_goThread (n : Nat) (σ0 : cd_S) (b0 : cd_B) (a1 : Nat) : Option (Int32 × cd_S × cd_B) :=
  cd_ck (fun (q : (Int32 × cd_S × cd_B)) => q.2.2) b0 <| if (cI σ0 235 a1) = ((-1) : Int32) then (f_X1_goThread_J31 n a1 σ0 b0 0) else (Option.bind (f_X1_strandAt n σ0 ((cI σ0 235 a1))) fun p9 => Option.bind (some (cSI p9.2 235 a1 ((-1)))) fun σ10 => Option.bind (f_X1_takeOutcome n σ10 b0 a1 (p9.1)) fun p11 => cd_ck (fun (q : (Int32 × cd_S × cd_B)) => q.2.2) (p11.2.2) <| f_X1_goThread_J31 n a1 p11.2.1 (p11.2.2) (p11.1))
noncomputable def f_X1_goOn_J71 (n : Nat) (σ : cd_S) (b : cd_B) : Option (Int32 × cd_S × cd_B) :=
  some (((cI σ 44 0), σ, b))
noncomputable def f_X1_goOn_J68 (n : Nat) (σ : cd_S) (b : cd_B) (t0 : Int32) : Option (Int32 × cd_S × cd_B) :=
  Option.bind (some (cSI σ 44 0 t0)) fun σ1 => f_X1_goOn_J71 n σ1 b
noncomputable def f_X1_goOn_J40 (n : Nat) (lp : cd_S → cd_B → Int32 → Int32 → Option (cd_S × cd_B × Int32 × Int32)) (σ : cd_S) (b : cd_B) (l2 : Int32) (t0 : Int32) : Option (cd_S × cd_B × Int32 × Int32) :=
  lp σ b t0 ((l2 + 1))
noncomputable def f_X1_goOn_L4 (n : Nat) (j : Nat) : cd_S → cd_B → Int32 → Int32 → Option (cd_S × cd_B × Int32 × Int32) :=
  Nat.rec (motive := fun _ => cd_S → cd_B → Int32 → Int32 → Option (cd_S × cd_B × Int32 × Int32)) (fun _ _ _ _ => none) (fun _ lp => fun (σ : cd_S) (b : cd_B) (l1 : Int32) (l2 : Int32) =>
  if (100000000 : Int32) ≤ l2 then (some (σ, b, l1, l2)) else (if l1 = ((-1) : Int32) then (some (σ, b, l1, l2)) else (Option.bind (f_X1_strandAt n σ l1) fun p2 => Option.bind (f_X1_goThread n p2.2 b (p2.1)) fun p3 => cd_ck (fun (q : cd_S × cd_B × Int32 × Int32) => q.2.1) (p3.2.2) <| if (cI p3.2.1 44 0) = (2 : Int32) then (f_X1_goOn_J40 n lp p3.2.1 (p3.2.2) l2 ((-1))) else (Option.bind (f_X1_choose n p3.2.1 ) fun p5 => f_X1_goOn_J40 n lp p5.2 (p3.2.2) l2 (p5.1))))) j
noncomputable def f_X1_goOn (n : Nat) (σ0 : cd_S) (b0 : cd_B) : Option (Int32 × cd_S × cd_B) :=
  cd_ck (fun (q : (Int32 × cd_S × cd_B)) => q.2.2) b0 <| Option.bind (f_X1_goOn_L4 n n σ0 b0 0 0) fun q6 => cd_ck (fun (q : (Int32 × cd_S × cd_B)) => q.2.2) (q6.2.1) <| if (cI q6.1 44 0) = (2 : Int32) then (f_X1_goOn_J71 n q6.1 (q6.2.1)) else (Option.bind (f_X1_allEnded n q6.1 ) fun p8 => if p8.1 = 0 then (f_X1_goOn_J68 n p8.2 (q6.2.1) 1) else (f_X1_goOn_J68 n p8.2 (q6.2.1) 0))
noncomputable def f_X1_tell (n : Nat) (σ0 : cd_S) (a1 : Int32) : Option (Int32 × cd_S) :=
  if a1 = 0 then (some (((cI σ0 44 0), σ0))) else (if a1 = 1 then (some (((cI σ0 41 0), σ0))) else (if a1 = 2 then (some (((cI σ0 40 0), σ0))) else (if a1 = 3 then (some (((cI σ0 43 0), σ0))) else (if a1 = 4 then (some (((cI σ0 45 0), σ0))) else (if a1 = 5 then (Option.bind (f_X1_thingCount n σ0 ) fun p1 => some ((p1.1, p1.2))) else (if a1 = 6 then (some (((cI σ0 46 0), σ0))) else (if a1 = 7 then (Option.bind (f_X0_made n σ0 ) fun p2 => some ((p2.1, p2.2))) else (some ((((-1) : Int32), σ0))))))))))
noncomputable def f_X1_tellEvent (n : Nat) (σ0 : cd_S) (a1 : Int32) (a2 : Int32) : Option (Int32 × cd_S) :=
  if a1 < 0 then (some ((((-1) : Int32), σ0))) else (if (((cI σ0 193 8)) / ((5 : Int32))) ≤ a1 then (some ((((-1) : Int32), σ0))) else (if a2 < 0 then (some ((((-1) : Int32), σ0))) else (if a2 < (5 : Int32) then (Option.bind (f_X6_at n σ0 8 (((a1 * 5) + a2))) fun p1 => some ((p1.1, p1.2))) else (some ((((-1) : Int32), σ0))))))
noncomputable def f_X1_tellThread (n : Nat) (σ0 : cd_S) (a1 : Int32) (a2 : Int32) : Option (Int32 × cd_S) :=
  if a1 < 0 then (some ((((-1) : Int32), σ0))) else (if a1 < (cI σ0 40 0) then (Option.bind (f_X1_strandAt n σ0 a1) fun p1 => Option.bind (f_X1_sortOf n p1.2 ((cJ p1.2 236 (p1.1)))) fun p2 => if a2 = 0 then (some (((cI p2.2 234 (p1.1)), p2.2))) else (if a2 = 1 then (if p2.1 = 0 then (some ((((cJ p2.2 236 (p1.1)).toInt32), p2.2))) else (some (((0 : Int32), p2.2)))) else (if a2 = 2 then (if (cI p2.2 234 (p1.1)) = (1 : Int32) then (some ((p2.1, p2.2))) else (some ((((-1) : Int32), p2.2)))) else (if a2 = 3 then (some (((cI p2.2 233 (p1.1)), p2.2))) else (if a2 = 4 then (if (cI p2.2 235 (p1.1)) = ((-1) : Int32) then (some ((((-1) : Int32), p2.2))) else (Option.bind (f_X1_hasEnded n p2.2 ((cI p2.2 235 (p1.1)))) fun p3 => if p3.1 = 0 then (some (((cI p3.2 235 (p1.1)), p3.2))) else (some ((((-1) : Int32), p3.2))))) else (some ((((-1) : Int32), p2.2)))))))) else (some ((((-1) : Int32), σ0))))
noncomputable def f_X1_tellContext (n : Nat) (σ0 : cd_S) (a1 : Int32) (a2 : Int32) : Option (Int32 × cd_S) :=
  if a1 < 0 then (some ((((-1) : Int32), σ0))) else (Option.bind (f_X0_made n σ0 ) fun p1 => if a1 < p1.1 then (if a2 = ((-1) : Int32) then (Option.bind (f_X0_productCount n p1.2 a1) fun p4 => some ((p4.1, p4.2))) else (if a2 < 0 then (some ((((-1) : Int32), p1.2))) else (Option.bind (f_X0_productCount n p1.2 a1) fun p2 => if p2.1 ≤ a2 then (some ((((-1) : Int32), p2.2))) else (Option.bind (f_X0_product n p2.2 a1 a2) fun p3 => some ((p3.1, p3.2)))))) else (some ((((-1) : Int32), p1.2))))
noncomputable def f_X3_clear (n : Nat) (σ0 : cd_S) : Option (Int32 × cd_S) :=
  Option.bind (some (cSI σ0 106 0 0)) fun σ1 => Option.bind (some (cSI σ1 107 0 0)) fun σ2 => Option.bind (some (cSI σ2 108 0 0)) fun σ3 => Option.bind (some (cSI σ3 109 0 0)) fun σ4 => some (((0 : Int32), σ4))
noncomputable def f_X2_clear (n : Nat) (σ0 : cd_S) : Option (Int32 × cd_S) :=
  Option.bind (f_X3_clear n σ0 ) fun p1 => Option.bind (some (cSI p1.2 66 0 0)) fun σ2 => Option.bind (some (cSI σ2 74 0 0)) fun σ3 => Option.bind (some (cSI σ3 76 0 0)) fun σ4 => Option.bind (some (cSI σ4 78 0 0)) fun σ5 => some (((0 : Int32), σ5))
noncomputable def f_X3_domainOf (n : Nat) (σ0 : cd_S) (a1 : Int32) : Option (Int32 × cd_S) :=
  if a1 < 0 then (some (((0 : Int32), σ0))) else (if (8 : Int32) ≤ a1 then (some (((0 : Int32), σ0))) else (Option.bind (cldA σ0 101 0 a1) fun v1 => some ((v1, σ0))))
noncomputable def f_X9_open_J51 (n : Nat) (a0 : Nat) (σ : cd_S) (t0 : Int32) : Option (Int32 × cd_S) :=
  Option.bind (some (cSI σ 298 a0 t0)) fun σ1 => Option.bind (some (cSI σ1 299 a0 0)) fun σ2 => Option.bind (some (cSI σ2 301 a0 0)) fun σ3 => Option.bind (some (cSI σ3 302 a0 0)) fun σ4 => Option.bind (some (cSI σ4 193 ((17 + 3 * a0)) 0)) fun σ5 => some (((0 : Int32), σ5))
noncomputable def f_X9_open (n : Nat) (σ0 : cd_S) (a0 : Nat) (a1 : Int32) (a2 : Int32) (a3 : Int32) (a4 : Int32) : Option (Int32 × cd_S) :=
  Option.bind (some (cSI σ0 288 a0 a1)) fun σ6 => Option.bind (some (cSI σ6 289 a0 a2)) fun σ7 => Option.bind (some (cSI σ7 290 a0 a3)) fun σ8 => Option.bind (some (cSI σ8 292 a0 a4)) fun σ9 => Option.bind (some (cSJ σ9 293 a0 0)) fun σ10 => Option.bind (some (cSI σ10 294 a0 0)) fun σ11 => Option.bind (some (cSI σ11 296 a0 ((-1)))) fun σ12 => Option.bind (some (cSI σ12 297 a0 a1)) fun σ13 => if a2 = 0 then (f_X9_open_J51 n a0 σ13 1) else (f_X9_open_J51 n a0 σ13 0)
noncomputable def f_X2_addUnit_J18 (n : Nat) (σ : cd_S) (l1 : Int32) (l2 : Int32) (l3 : Int32) (t0 : Int32) : Option (Nat × cd_S) :=
  Option.bind (cldR 65 t0) fun u1 => Option.bind (f_X9_open n σ u1 t0 l1 l2 l3) fun p2 => Option.bind (f_X3_domainOf n p2.2 l2) fun p3 => Option.bind (some (cSI p3.2 291 u1 (p3.1))) fun σ4 => Option.bind (some (cSI σ4 66 0 ((t0 + 1)))) fun σ5 => some ((u1, σ5))
noncomputable def f_X2_addUnit (n : Nat) (σ0 : cd_S) (a1 : Int32) (a2 : Int32) (a3 : Int32) : Option (Nat × cd_S) :=
  if (60 : Int32) ≤ (cI σ0 66 0) then (f_X2_addUnit_J18 n σ0 a1 a2 a3 59) else (f_X2_addUnit_J18 n σ0 a1 a2 a3 ((cI σ0 66 0)))
noncomputable def f_X2_addModule_J18 (n : Nat) (σ : cd_S) (l1 : Int64) (t0 : Int32) : Option (Int32 × cd_S) :=
  Option.bind (cstL σ 67 0 t0 l1) fun σ1 => Option.bind (cstA σ1 68 0 t0 ((-1))) fun σ2 => Option.bind (cstA σ2 70 0 t0 0) fun σ3 => Option.bind (cstA σ3 71 0 t0 0) fun σ4 => Option.bind (cstA σ4 73 0 t0 0) fun σ5 => Option.bind (some (cSI σ5 74 0 ((t0 + 1)))) fun σ6 => some ((t0, σ6))
noncomputable def f_X2_addModule (n : Nat) (σ0 : cd_S) (a1 : Int64) : Option (Int32 × cd_S) :=
  if (8 : Int32) ≤ (cI σ0 74 0) then (f_X2_addModule_J18 n σ0 a1 7) else (f_X2_addModule_J18 n σ0 a1 ((cI σ0 74 0)))
noncomputable def f_X2_findModule_L2 (n : Nat) (l1 : Int64) (j : Nat) : cd_S → Int32 → Option ((Int32 × cd_S) ⊕ (cd_S × Int32)) :=
  Nat.rec (motive := fun _ => cd_S → Int32 → Option ((Int32 × cd_S) ⊕ (cd_S × Int32))) (fun _ _ => none) (fun _ lp => fun (σ : cd_S) (l3 : Int32) =>
  if (cI σ 74 0) ≤ l3 then (some (Sum.inr (σ, l3))) else (Option.bind (cldL σ 67 0 l3) fun v1 => if (lg_cmp v1 l1) = 0 then (some (Sum.inl ((l3, σ)))) else (lp σ ((l3 + 1))))) j
noncomputable def f_X2_findModule (n : Nat) (σ0 : cd_S) (a1 : Int64) : Option (Int32 × cd_S) :=
  Option.bind (f_X2_findModule_L2 n a1 n σ0 0) fun q2 => Sum.elim some (fun t2 => some ((((-1) : Int32), t2.1))) q2
noncomputable def f_X2_setSuper (n : Nat) (σ0 : cd_S) (a1 : Int32) (a2 : Int32) : Option (Int32 × cd_S) :=
  Option.bind (f_X2_isModule n σ0 a1) fun p1 => if p1.1 = 0 then (some (((0 : Int32), p1.2))) else (Option.bind (f_X2_isModule n p1.2 a2) fun p2 => if p2.1 = 0 then (some (((0 : Int32), p2.2))) else (Option.bind (cstA p2.2 68 0 a1 a2) fun σ3 => Option.bind (f_X2_fieldTotal n σ3 a2) fun p4 => Option.bind (cstA p4.2 71 0 a1 (p4.1)) fun σ5 => some (((0 : Int32), σ5))))
noncomputable def f_X2_fieldCount (n : Nat) (σ0 : cd_S) (a1 : Int32) : Option (Int32 × cd_S) :=
  Option.bind (f_X2_isModule n σ0 a1) fun p1 => if p1.1 = 0 then (some (((0 : Int32), p1.2))) else (Option.bind (cldA p1.2 70 0 a1) fun v2 => some ((v2, p1.2)))
noncomputable def f_X2_addField (n : Nat) (σ0 : cd_S) (a1 : Int32) (a2 : Int64) : Option (Int32 × cd_S) :=
  Option.bind (f_X2_isModule n σ0 a1) fun p1 => if p1.1 = 0 then (some (((0 : Int32), p1.2))) else (Option.bind (cldA p1.2 70 0 a1) fun v2 => if (4 : Int32) ≤ v2 then (some (((0 : Int32), p1.2))) else (Option.bind (cldA p1.2 70 0 a1) fun v3 => Option.bind (cstL p1.2 69 0 (((a1 * 4) + v3)) a2) fun σ4 => Option.bind (cldA σ4 70 0 a1) fun v5 => Option.bind (cstA σ4 70 0 a1 ((v5 + 1))) fun σ6 => some (((0 : Int32), σ6))))
noncomputable def f_X2_methodCount (n : Nat) (σ0 : cd_S) (a1 : Int32) : Option (Int32 × cd_S) :=
  Option.bind (f_X2_isModule n σ0 a1) fun p1 => if p1.1 = 0 then (some (((0 : Int32), p1.2))) else (Option.bind (cldA p1.2 73 0 a1) fun v2 => some ((v2, p1.2)))
noncomputable def f_X2_addMethod (n : Nat) (σ0 : cd_S) (a1 : Int32) (a2 : Int32) : Option (Int32 × cd_S) :=
  Option.bind (f_X2_isModule n σ0 a1) fun p1 => if p1.1 = 0 then (some (((0 : Int32), p1.2))) else (Option.bind (cldA p1.2 73 0 a1) fun v2 => if (12 : Int32) ≤ v2 then (some (((0 : Int32), p1.2))) else (Option.bind (cldA p1.2 73 0 a1) fun v3 => Option.bind (cstA p1.2 72 0 (((a1 * 12) + v3)) a2) fun σ4 => Option.bind (cldA σ4 73 0 a1) fun v5 => Option.bind (cstA σ4 73 0 a1 ((v5 + 1))) fun σ6 => some (((0 : Int32), σ6))))
noncomputable def f_X2_numberIndex_J58 (n : Nat) (σ : cd_S) : Option (Int32 × cd_S) :=
  some ((((cI σ 76 0) - 1), σ))
noncomputable def f_X2_numberIndex_L2 (n : Nat) (l1 : Int32) (j : Nat) : cd_S → Int32 → Option ((Int32 × cd_S) ⊕ (cd_S × Int32)) :=
  Nat.rec (motive := fun _ => cd_S → Int32 → Option ((Int32 × cd_S) ⊕ (cd_S × Int32))) (fun _ _ => none) (fun _ lp => fun (σ : cd_S) (l2 : Int32) =>
  if (cI σ 76 0) ≤ l2 then (some (Sum.inr (σ, l2))) else (Option.bind (cldA σ 75 0 l2) fun v1 => if v1 = l1 then (some (Sum.inl ((l2, σ)))) else (lp σ ((l2 + 1))))) j
noncomputable def f_X2_numberIndex (n : Nat) (σ0 : cd_S) (a1 : Int32) : Option (Int32 × cd_S) :=
  Option.bind (f_X2_numberIndex_L2 n a1 n σ0 0) fun q2 => Sum.elim some (fun t2 => if (400 : Int32) ≤ (cI t2.1 76 0) then (f_X2_numberIndex_J58 n t2.1) else (Option.bind (cstA t2.1 75 0 ((cI t2.1 76 0)) a1) fun σ3 => Option.bind (some (cSI σ3 76 0 (((cI σ3 76 0) + 1)))) fun σ4 => f_X2_numberIndex_J58 n σ4)) q2
noncomputable def f_X2_nameIndex_J59 (n : Nat) (σ : cd_S) : Option (Int32 × cd_S) :=
  some ((((cI σ 78 0) - 1), σ))
noncomputable def f_X2_nameIndex_L2 (n : Nat) (l1 : Int64) (j : Nat) : cd_S → Int32 → Option ((Int32 × cd_S) ⊕ (cd_S × Int32)) :=
  Nat.rec (motive := fun _ => cd_S → Int32 → Option ((Int32 × cd_S) ⊕ (cd_S × Int32))) (fun _ _ => none) (fun _ lp => fun (σ : cd_S) (l3 : Int32) =>
  if (cI σ 78 0) ≤ l3 then (some (Sum.inr (σ, l3))) else (Option.bind (cldL σ 77 0 l3) fun v1 => if (lg_cmp v1 l1) = 0 then (some (Sum.inl ((l3, σ)))) else (lp σ ((l3 + 1))))) j
noncomputable def f_X2_nameIndex (n : Nat) (σ0 : cd_S) (a1 : Int64) : Option (Int32 × cd_S) :=
  Option.bind (f_X2_nameIndex_L2 n a1 n σ0 0) fun q2 => Sum.elim some (fun t2 => if (400 : Int32) ≤ (cI t2.1 78 0) then (f_X2_nameIndex_J59 n t2.1) else (Option.bind (cstL t2.1 77 0 ((cI t2.1 78 0)) a1) fun σ3 => Option.bind (some (cSI σ3 78 0 (((cI σ3 78 0) + 1)))) fun σ4 => f_X2_nameIndex_J59 n σ4)) q2
noncomputable def f_X2_groupOf_J58 (n : Nat) (l1 : Int32) (l2 : Int64) (l4 : Int32) (lp : cd_S → Int32 → Option ((Int32 × cd_S) ⊕ (cd_S × Int32))) (σ : cd_S) (l5 : Int32) : Option ((Int32 × cd_S) ⊕ (cd_S × Int32)) :=
  lp σ ((l5 + 1))
noncomputable def f_X2_groupOf_L3 (n : Nat) (l1 : Int32) (l2 : Int64) (l4 : Int32) (j : Nat) : cd_S → Int32 → Option ((Int32 × cd_S) ⊕ (cd_S × Int32)) :=
  Nat.rec (motive := fun _ => cd_S → Int32 → Option ((Int32 × cd_S) ⊕ (cd_S × Int32))) (fun _ _ => none) (fun _ lp => fun (σ : cd_S) (l5 : Int32) =>
  if (cI σ 66 0) ≤ l5 then (some (Sum.inr (σ, l5))) else (Option.bind (cldR 65 l5) fun u1 => if (cI σ 289 u1) = l1 then (if (cI σ 294 u1) = l4 then (if l1 = (1 : Int32) then (some (Sum.inl ((l5, σ)))) else (if (lg_cmp (cJ σ 293 u1) l2) = 0 then (some (Sum.inl ((l5, σ)))) else (f_X2_groupOf_J58 n l1 l2 l4 lp σ l5))) else (f_X2_groupOf_J58 n l1 l2 l4 lp σ l5)) else (f_X2_groupOf_J58 n l1 l2 l4 lp σ l5))) j
noncomputable def f_X2_groupOf (n : Nat) (σ0 : cd_S) (a1 : Int32) (a2 : Int64) (a4 : Int32) : Option (Int32 × cd_S) :=
  Option.bind (f_X2_groupOf_L3 n a1 a2 a4 n σ0 0) fun q2 => Sum.elim some (fun t2 => some ((((-1) : Int32), t2.1))) q2
noncomputable def f_X2_settleGroups_J63 (n : Nat) (lp : cd_S → Int32 → Option (cd_S × Int32)) (σ : cd_S) (l1 : Int32) (t0 : Int32) (t1 : Nat) : Option (cd_S × Int32) :=
  Option.bind (some (cSI σ 297 t1 t0)) fun σ1 => lp σ1 ((l1 + 1))
noncomputable def f_X2_settleGroups_J37 (n : Nat) (lp : cd_S → Int32 → Option (cd_S × Int32)) (σ : cd_S) (l1 : Int32) (l2 : Nat) (t0 : Int32) : Option (cd_S × Int32) :=
  if t0 = 0 then (f_X2_settleGroups_J63 n lp σ l1 l1 l2) else (Option.bind (f_X2_groupOf n σ ((cI σ 289 l2)) ((cJ σ 293 l2)) ((cI σ 294 l2))) fun p2 => f_X2_settleGroups_J63 n lp p2.2 l1 (p2.1) l2)
noncomputable def f_X2_settleGroups_J32 (n : Nat) (lp : cd_S → Int32 → Option (cd_S × Int32)) (σ : cd_S) (l1 : Int32) (l2 : Nat) : Option (cd_S × Int32) :=
  f_X2_settleGroups_J37 n lp σ l1 l2 1
noncomputable def f_X2_settleGroups_L2 (n : Nat) (j : Nat) : cd_S → Int32 → Option (cd_S × Int32) :=
  Nat.rec (motive := fun _ => cd_S → Int32 → Option (cd_S × Int32)) (fun _ _ => none) (fun _ lp => fun (σ : cd_S) (l1 : Int32) =>
  if (cI σ 66 0) ≤ l1 then (some (σ, l1)) else (Option.bind (cldR 65 l1) fun u3 => if (cI σ 289 u3) = 0 then (f_X2_settleGroups_J32 n lp σ l1 u3) else (if (cI σ 289 u3) = (1 : Int32) then (f_X2_settleGroups_J32 n lp σ l1 u3) else (f_X2_settleGroups_J37 n lp σ l1 u3 0)))) j
noncomputable def f_X2_settleGroups (n : Nat) (σ0 : cd_S) : Option (Int32 × cd_S) :=
  Option.bind (f_X2_settleGroups_L2 n n σ0 0) fun q4 => some (((0 : Int32), q4.1))
noncomputable def f_X2_groupBegun (n : Nat) (σ0 : cd_S) (a1 : Int32) (a2 : Int32) (a3 : Int32) : Option (Int32 × cd_S) :=
  if a1 = 7 then (Option.bind (f_X2_nameAt n σ0 a2) fun p1 => Option.bind (f_X2_groupOf n p1.2 (0 : Int32) (p1.1) a3) fun p2 => some ((p2.1, p2.2))) else (if a1 = 8 then (Option.bind (f_X2_groupOf n σ0 (1 : Int32) (0 : Int64) a2) fun p3 => some ((p3.1, p3.2))) else (if a1 = 23 then (Option.bind (f_X2_groupOf n σ0 (1 : Int32) (0 : Int64) (0 : Int32)) fun p4 => some ((p4.1, p4.2))) else (some ((((-1) : Int32), σ0)))))
noncomputable def f_X2_handsContext (n : Nat) (σ0 : cd_S) (a1 : Int32) (a2 : Int32) (a3 : Int32) : Option (Int32 × cd_S) :=
  if a1 = (25 : Int32) then (some (((1 : Int32), σ0))) else (if a1 = (26 : Int32) then (some (((1 : Int32), σ0))) else (if a1 = (27 : Int32) then (some (((1 : Int32), σ0))) else (if a1 = (10 : Int32) then (Option.bind (f_X2_unitAt n σ0 a2) fun p3 => if (cI p3.2 289 (p3.1)) = (3 : Int32) then (Option.bind (f_X2_unitAt n p3.2 a2) fun p4 => if (cI p4.2 301 (p4.1)) = 0 then (some (((0 : Int32), p4.2))) else (some (((1 : Int32), p4.2)))) else (some (((0 : Int32), p3.2)))) else (Option.bind (f_X2_groupBegun n σ0 a1 a2 a3) fun p1 => if p1.1 = ((-1) : Int32) then (some (((0 : Int32), p1.2))) else (Option.bind (f_X2_unitAt n p1.2 (p1.1)) fun p2 => if (cI p2.2 301 (p2.1)) = 0 then (some (((0 : Int32), p2.2))) else (some (((1 : Int32), p2.2))))))))
noncomputable def f_X3_settleAskings_J35 (n : Nat) (lp : cd_S → Int32 → Option (cd_S × Int32)) (σ : cd_S) (l1 : Int32) : Option (cd_S × Int32) :=
  lp σ ((l1 + 1))
noncomputable def f_X3_settleAskings_L2 (n : Nat) (j : Nat) : cd_S → Int32 → Option (cd_S × Int32) :=
  Nat.rec (motive := fun _ => cd_S → Int32 → Option (cd_S × Int32)) (fun _ _ => none) (fun _ lp => fun (σ : cd_S) (l1 : Int32) =>
  if (cI σ 109 0) ≤ l1 then (some (σ, l1)) else (Option.bind (cldA σ 103 0 l1) fun v1 => if v1 = 0 then (Option.bind (cldR 102 l1) fun u2 => Option.bind (f_X3_holders n σ u2) fun p3 => Option.bind (cstA p3.2 104 0 l1 (p3.1)) fun σ4 => f_X3_settleAskings_J35 n lp σ4 l1) else (f_X3_settleAskings_J35 n lp σ l1))) j
noncomputable def f_X3_settleAskings (n : Nat) (σ0 : cd_S) : Option (Int32 × cd_S) :=
  Option.bind (f_X3_settleAskings_L2 n n σ0 0) fun q5 => some (((0 : Int32), q5.1))
noncomputable def f_X9_length (n : Nat) (σ0 : cd_S) (a0 : Nat) : Option (Int32 × cd_S) :=
  some (((((cI σ0 193 ((17 + 3 * a0)))) / ((3 : Int32))), σ0))
noncomputable def f_X6_addPair (n : Nat) (σ0 : cd_S) (b0 : cd_B) (a0 : Nat) (a1 : Int32) : Option (Int32 × cd_S × cd_B) :=
  cd_ck (fun (q : (Int32 × cd_S × cd_B)) => q.2.2) b0 <| Option.bind (f_X6_add n σ0 b0 a0 (((((a1.toUInt32 >>> ((8 : Int32).toUInt32 &&& Int32.toUInt32 31)).toInt32) &&& 255).toInt64))) fun p1 => cd_ck (fun (q : (Int32 × cd_S × cd_B)) => q.2.2) (p1.2.2) <| Option.bind (f_X6_add n p1.2.1 (p1.2.2) a0 (((a1 &&& 255).toInt64))) fun p3 => cd_ck (fun (q : (Int32 × cd_S × cd_B)) => q.2.2) (p3.2.2) <| some (((0 : Int32), p3.2.1, p3.2.2))
noncomputable def f_X9_writeEntry_J41 (n : Nat) (a0 : Nat) (a1 : Nat) (σ : cd_S) (b : cd_B) (t0 : Int32) : Option (Int32 × cd_S × cd_B) :=
  Option.bind (f_X6_add n σ b a1 ((t0.toInt64))) fun p1 => cd_ck (fun (q : (Int32 × cd_S × cd_B)) => q.2.2) (p1.2.2) <| Option.bind (f_X6_addPair n p1.2.1 (p1.2.2) a1 ((cI p1.2.1 291 a0))) fun p3 => cd_ck (fun (q : (Int32 × cd_S × cd_B)) => q.2.2) (p3.2.2) <| if (cI p3.2.1 289 a0) = (3 : Int32) then (Option.bind (f_X6_addPair n p3.2.1 (p3.2.2) a1 ((cI p3.2.1 296 a0))) fun p5 => cd_ck (fun (q : (Int32 × cd_S × cd_B)) => q.2.2) (p5.2.2) <| some (((0 : Int32), p5.2.1, p5.2.2))) else (some (((0 : Int32), p3.2.1, p3.2.2)))
noncomputable def f_X9_writeEntry (n : Nat) (σ0 : cd_S) (b0 : cd_B) (a0 : Nat) (a1 : Nat) : Option (Int32 × cd_S × cd_B) :=
  cd_ck (fun (q : (Int32 × cd_S × cd_B)) => q.2.2) b0 <| if (cI σ0 289 a0) = (2 : Int32) then (f_X9_writeEntry_J41 n a0 a1 σ0 b0 31) else (if (cI σ0 289 a0) = (3 : Int32) then (f_X9_writeEntry_J41 n a0 a1 σ0 b0 32) else (if (cI σ0 289 a0) = (4 : Int32) then (f_X9_writeEntry_J41 n a0 a1 σ0 b0 33) else (f_X9_writeEntry_J41 n a0 a1 σ0 b0 30)))
noncomputable def f_X9_first (n : Nat) (σ0 : cd_S) (a0 : Nat) (a1 : Int32) : Option (Int32 × cd_S) :=
  Option.bind (f_X6_at n σ0 ((17 + 3 * a0)) (((a1 * 3) + 1))) fun p1 => some ((p1.1, p1.2))
noncomputable def f_X9_captureIndex_L2 (n : Nat) (a0 : Nat) (l1 : Int32) (j : Nat) : cd_S → Int32 → Option ((Int32 × cd_S) ⊕ (cd_S × Int32)) :=
  Nat.rec (motive := fun _ => cd_S → Int32 → Option ((Int32 × cd_S) ⊕ (cd_S × Int32))) (fun _ _ => none) (fun _ lp => fun (σ : cd_S) (l2 : Int32) =>
  if (cI σ 299 a0) ≤ l2 then (some (Sum.inr (σ, l2))) else (Option.bind (cldA σ 300 a0 l2) fun v1 => if v1 = l1 then (some (Sum.inl ((l2, σ)))) else (lp σ ((l2 + 1))))) j
noncomputable def f_X9_captureIndex (n : Nat) (σ0 : cd_S) (a0 : Nat) (a1 : Int32) : Option (Int32 × cd_S) :=
  Option.bind (f_X9_captureIndex_L2 n a0 a1 n σ0 0) fun q2 => Sum.elim some (fun t2 => some ((((-1) : Int32), t2.1))) q2
noncomputable def f_X9_ownerOf (n : Nat) (σ0 : cd_S) (a0 : Int32) : Option (Int32 × cd_S) :=
  some (((a0 / ((1024 : Int32))), σ0))
noncomputable def f_X9_localOf (n : Nat) (σ0 : cd_S) (a0 : Nat) (a1 : Int32) : Option (Int32 × cd_S) :=
  Option.bind (f_X9_ownerOf n σ0 a1) fun p1 => if p1.1 = (cI p1.2 288 a0) then (some ((((cI p1.2 299 a0) + (a1 - a1 / ((1024 : Int32)) * ((1024 : Int32)))), p1.2))) else (Option.bind (f_X9_captureIndex n p1.2 a0 a1) fun p2 => some ((p2.1, p2.2)))
noncomputable def f_X9_operandOf_J34 (n : Nat) (a0 : Nat) (σ : cd_S) (l2 : Int32) : Option (Int32 × cd_S) :=
  if l2 < 0 then (some (((0 : Int32), σ))) else (if (400 : Int32) ≤ l2 then (some (((0 : Int32), σ))) else (Option.bind (cldA σ 79 0 l2) fun v1 => some ((v1, σ))))
noncomputable def f_X9_operandOf_J10 (n : Nat) (a0 : Nat) (σ : cd_S) (l2 : Int32) : Option (Int32 × cd_S) :=
  Option.bind (f_X9_localOf n σ a0 l2) fun p2 => some ((p2.1, p2.2))
noncomputable def f_X9_operandOf (n : Nat) (σ0 : cd_S) (a0 : Nat) (a1 : Int32) (a2 : Int32) : Option (Int32 × cd_S) :=
  if a1 = (2 : Int32) then (f_X9_operandOf_J10 n a0 σ0 a2) else (if a1 = (3 : Int32) then (f_X9_operandOf_J10 n a0 σ0 a2) else (if a1 = (17 : Int32) then (f_X9_operandOf_J34 n a0 σ0 a2) else (if a1 = (18 : Int32) then (f_X9_operandOf_J34 n a0 σ0 a2) else (if a1 = (19 : Int32) then (f_X9_operandOf_J34 n a0 σ0 a2) else (some ((a2, σ0)))))))
noncomputable def f_X9_second (n : Nat) (σ0 : cd_S) (a0 : Nat) (a1 : Int32) : Option (Int32 × cd_S) :=
  Option.bind (f_X6_at n σ0 ((17 + 3 * a0)) (((a1 * 3) + 2))) fun p1 => some ((p1.1, p1.2))
noncomputable def f_X9_what (n : Nat) (σ0 : cd_S) (a0 : Nat) (a1 : Int32) : Option (Int32 × cd_S) :=
  Option.bind (f_X6_at n σ0 ((17 + 3 * a0)) ((a1 * 3))) fun p1 => some ((p1.1, p1.2))
noncomputable def f_X9_writeOne_J181 (n : Nat) (a0 : Nat) (a2 : Nat) (σ : cd_S) (b : cd_B) (l3 : Int32) (l8 : Int32) : Option (Int32 × cd_S × cd_B) :=
  if l8 ≤ (1 : Int32) then (some (((0 : Int32), σ, b))) else (Option.bind (f_X9_second n σ a0 l3) fun p1 => Option.bind (f_X6_addPair n p1.2 b a2 (p1.1)) fun p2 => cd_ck (fun (q : (Int32 × cd_S × cd_B)) => q.2.2) (p2.2.2) <| some (((0 : Int32), p2.2.1, p2.2.2)))
noncomputable def f_X9_writeOne_J160 (n : Nat) (a0 : Nat) (a2 : Nat) (σ : cd_S) (b : cd_B) (l3 : Int32) (l5 : Int32) (l6 : Int32) (t0 : Int32) : Option (Int32 × cd_S × cd_B) :=
  if t0 ≤ 0 then (f_X9_writeOne_J181 n a0 a2 σ b l3 t0) else (Option.bind (f_X9_operandOf n σ a0 l5 l6) fun p4 => Option.bind (f_X6_addPair n p4.2 b a2 (p4.1)) fun p5 => cd_ck (fun (q : (Int32 × cd_S × cd_B)) => q.2.2) (p5.2.2) <| f_X9_writeOne_J181 n a0 a2 p5.2.1 (p5.2.2) l3 t0)
noncomputable def f_X9_writeOne_J159 (n : Nat) (a0 : Nat) (a2 : Nat) (σ : cd_S) (b : cd_B) (l3 : Int32) (l5 : Int32) (l6 : Int32) : Option (Int32 × cd_S × cd_B) :=
  f_X9_writeOne_J160 n a0 a2 σ b l3 l5 l6 0
noncomputable def f_X9_writeOne_J133 (n : Nat) (a0 : Nat) (a2 : Nat) (σ : cd_S) (b : cd_B) (l3 : Int32) (l5 : Int32) (l6 : Int32) (t0 : Int64) : Option (Int32 × cd_S × cd_B) :=
  Option.bind (f_X6_add n σ b a2 t0) fun p7 => cd_ck (fun (q : (Int32 × cd_S × cd_B)) => q.2.2) (p7.2.2) <| if l5 < 0 then (f_X9_writeOne_J159 n a0 a2 p7.2.1 (p7.2.2) l3 l5 l6) else (if (29 : Int32) ≤ l5 then (f_X9_writeOne_J159 n a0 a2 p7.2.1 (p7.2.2) l3 l5 l6) else (Option.bind (cd_opl l5) fun v9 => f_X9_writeOne_J160 n a0 a2 p7.2.1 (p7.2.2) l3 l5 l6 v9))
noncomputable def f_X9_writeOne_J115 (n : Nat) (a0 : Nat) (a2 : Nat) (σ : cd_S) (b : cd_B) (l3 : Int32) (l5 : Int32) (l6 : Int32) (l7 : Int32) : Option (Int32 × cd_S × cd_B) :=
  if l7 = 0 then (f_X9_writeOne_J133 n a0 a2 σ b l3 l5 l6 ((l5.toInt64))) else (f_X9_writeOne_J133 n a0 a2 σ b l3 l5 l6 (((l5 + 64).toInt64)))
noncomputable def f_X9_writeOne_J102 (n : Nat) (a0 : Nat) (a2 : Nat) (σ : cd_S) (b : cd_B) (l3 : Int32) (l5 : Int32) (l6 : Int32) (l7 : Int32) : Option (Int32 × cd_S × cd_B) :=
  if l5 = (27 : Int32) then (if l7 = 0 then (f_X9_writeOne_J115 n a0 a2 σ b l3 l5 l6 l7) else (some (((0 : Int32), σ, b)))) else (f_X9_writeOne_J115 n a0 a2 σ b l3 l5 l6 l7)
noncomputable def f_X9_writeOne_J50 (n : Nat) (a0 : Nat) (a2 : Nat) (σ : cd_S) (b : cd_B) (l3 : Int32) (l5 : Int32) (l6 : Int32) (t0 : Int32) : Option (Int32 × cd_S × cd_B) :=
  if l5 = (100 : Int32) then (if l6 < 0 then (some (((0 : Int32), σ, b))) else (if (400 : Int32) ≤ l6 then (some (((0 : Int32), σ, b))) else (Option.bind (cstA σ 79 0 l6 ((cI σ 193 a2))) fun σ15 => some (((0 : Int32), σ15, b))))) else (if t0 = 0 then (f_X9_writeOne_J102 n a0 a2 σ b l3 l5 l6 t0) else (Option.bind (f_X6_add n σ b a2 (2 : Int64)) fun p10 => cd_ck (fun (q : (Int32 × cd_S × cd_B)) => q.2.2) (p10.2.2) <| Option.bind (f_X9_locals n p10.2.1 a0) fun p12 => Option.bind (f_X6_addPair n p12.2 (p10.2.2) a2 (p12.1)) fun p13 => cd_ck (fun (q : (Int32 × cd_S × cd_B)) => q.2.2) (p13.2.2) <| f_X9_writeOne_J102 n a0 a2 p13.2.1 (p13.2.2) l3 l5 l6 t0))
noncomputable def f_X9_writeOne_J49 (n : Nat) (a0 : Nat) (a2 : Nat) (σ : cd_S) (b : cd_B) (l3 : Int32) (l5 : Int32) (l6 : Int32) : Option (Int32 × cd_S × cd_B) :=
  f_X9_writeOne_J50 n a0 a2 σ b l3 l5 l6 0
noncomputable def f_X9_writeOne (n : Nat) (σ0 : cd_S) (b0 : cd_B) (a0 : Nat) (a2 : Nat) (a3 : Int32) : Option (Int32 × cd_S × cd_B) :=
  cd_ck (fun (q : (Int32 × cd_S × cd_B)) => q.2.2) b0 <| Option.bind (f_X9_what n σ0 a0 a3) fun p16 => Option.bind (f_X9_first n p16.2 a0 a3) fun p17 => if a2 = (19 + 3 * a0) then (if (cI p17.2 301 a0) = 0 then (f_X9_writeOne_J49 n a0 a2 p17.2 b0 a3 (p16.1) (p17.1)) else (Option.bind (f_X9_second n p17.2 a0 a3) fun p18 => Option.bind (f_X2_handsContext n p18.2 (p16.1) (p17.1) (p18.1)) fun p19 => if p19.1 = 0 then (f_X9_writeOne_J49 n a0 a2 p19.2 b0 a3 (p16.1) (p17.1)) else (f_X9_writeOne_J50 n a0 a2 p19.2 b0 a3 (p16.1) (p17.1) 1))) else (f_X9_writeOne_J49 n a0 a2 p17.2 b0 a3 (p16.1) (p17.1))
noncomputable def f_X9_write_L52 (n : Nat) (a0 : Nat) (l2 : Int32) (l4 : Nat) (l5 : Int32) (j : Nat) : cd_S → cd_B → Int32 → Option (cd_S × cd_B × Int32) :=
  Nat.rec (motive := fun _ => cd_S → cd_B → Int32 → Option (cd_S × cd_B × Int32)) (fun _ _ _ => none) (fun _ lp => fun (σ : cd_S) (b : cd_B) (l6 : Int32) =>
  Option.bind (f_X9_length n σ a0) fun p1 => if p1.1 ≤ l6 then (some (p1.2, b, l6)) else (Option.bind (f_X9_writeOne n p1.2 b a0 l4 l6) fun p2 => cd_ck (fun (q : cd_S × cd_B × Int32) => q.2.1) (p2.2.2) <| lp p2.2.1 (p2.2.2) ((l6 + 1)))) j
noncomputable def f_X9_write_J49 (n : Nat) (a0 : Nat) (l2 : Int32) (l4 : Nat) (lp : cd_S → cd_B → Int32 → Option (cd_S × cd_B × Int32)) (σ : cd_S) (b : cd_B) (l5 : Int32) : Option (cd_S × cd_B × Int32) :=
  Option.bind (f_X9_write_L52 n a0 l2 l4 l5 n σ b 0) fun q4 => cd_ck (fun (q : cd_S × cd_B × Int32) => q.2.1) (q4.2.1) <| lp q4.1 (q4.2.1) ((l5 + 1))
noncomputable def f_X9_write_L20 (n : Nat) (a0 : Nat) (l2 : Int32) (l4 : Nat) (j : Nat) : cd_S → cd_B → Int32 → Option (cd_S × cd_B × Int32) :=
  Nat.rec (motive := fun _ => cd_S → cd_B → Int32 → Option (cd_S × cd_B × Int32)) (fun _ _ _ => none) (fun _ lp => fun (σ : cd_S) (b : cd_B) (l5 : Int32) =>
  if (2 : Int32) ≤ l5 then (some (σ, b, l5)) else (Option.bind (f_X6_cut n σ l4 (0 : Int32)) fun p6 => if l2 = 0 then (f_X9_write_J49 n a0 l2 l4 lp p6.2 b l5) else (if (cI p6.2 301 a0) = 0 then (f_X9_write_J49 n a0 l2 l4 lp p6.2 b l5) else (Option.bind (f_X9_writeEntry n p6.2 b a0 l4) fun p7 => cd_ck (fun (q : cd_S × cd_B × Int32) => q.2.1) (p7.2.2) <| f_X9_write_J49 n a0 l2 l4 lp p7.2.1 (p7.2.2) l5)))) j
noncomputable def f_X9_write_J15 (n : Nat) (a0 : Nat) (σ : cd_S) (b : cd_B) (l2 : Int32) (t0 : Nat) : Option (Int32 × cd_S × cd_B) :=
  Option.bind (f_X9_write_L20 n a0 l2 t0 n σ b 0) fun q9 => cd_ck (fun (q : (Int32 × cd_S × cd_B)) => q.2.2) (q9.2.1) <| some (((0 : Int32), q9.1, q9.2.1))
noncomputable def f_X9_write (n : Nat) (σ0 : cd_S) (b0 : cd_B) (a0 : Nat) (a2 : Int32) : Option (Int32 × cd_S × cd_B) :=
  cd_ck (fun (q : (Int32 × cd_S × cd_B)) => q.2.2) b0 <| if a2 = 0 then (f_X9_write_J15 n a0 σ0 b0 a2 ((18 + 3 * a0))) else (f_X9_write_J15 n a0 σ0 b0 a2 ((19 + 3 * a0)))
noncomputable def f_X2_writeCode_L9 (n : Nat) (j : Nat) : cd_S → cd_B → Int32 → Option (cd_S × cd_B × Int32) :=
  Nat.rec (motive := fun _ => cd_S → cd_B → Int32 → Option (cd_S × cd_B × Int32)) (fun _ _ _ => none) (fun _ lp => fun (σ : cd_S) (b : cd_B) (l1 : Int32) =>
  if (cI σ 66 0) ≤ l1 then (some (σ, b, l1)) else (Option.bind (cldR 65 l1) fun u2 => Option.bind (f_X9_write n σ b u2 (0 : Int32)) fun p3 => cd_ck (fun (q : cd_S × cd_B × Int32) => q.2.1) (p3.2.2) <| Option.bind (cldR 65 l1) fun u5 => Option.bind (f_X9_write n p3.2.1 (p3.2.2) u5 (1 : Int32)) fun p6 => cd_ck (fun (q : cd_S × cd_B × Int32) => q.2.1) (p6.2.2) <| lp p6.2.1 (p6.2.2) ((l1 + 1)))) j
noncomputable def f_X2_writeCode (n : Nat) (σ0 : cd_S) (b0 : cd_B) : Option (Int32 × cd_S × cd_B) :=
  cd_ck (fun (q : (Int32 × cd_S × cd_B)) => q.2.2) b0 <| Option.bind (f_X3_settleAskings n σ0 ) fun p1 => Option.bind (f_X2_writeCode_L9 n n p1.2 b0 0) fun q8 => cd_ck (fun (q : (Int32 × cd_S × cd_B)) => q.2.2) (q8.2.1) <| some (((0 : Int32), q8.1, q8.2.1))
noncomputable def f_X2_needing_J30 (n : Nat) (lp : cd_S → Int32 → Int32 → Option (cd_S × Int32 × Int32)) (σ : cd_S) (l2 : Int32) (t0 : Int32) (t1 : Int32) : Option (cd_S × Int32 × Int32) :=
  lp σ ((t1 + t0)) ((l2 + 1))
noncomputable def f_X2_needing_L4 (n : Nat) (j : Nat) : cd_S → Int32 → Int32 → Option (cd_S × Int32 × Int32) :=
  Nat.rec (motive := fun _ => cd_S → Int32 → Int32 → Option (cd_S × Int32 × Int32)) (fun _ _ _ => none) (fun _ lp => fun (σ : cd_S) (l1 : Int32) (l2 : Int32) =>
  if (cI σ 66 0) ≤ l2 then (some (σ, l1, l2)) else (Option.bind (cldR 65 l2) fun u1 => if (cI σ 301 u1) = 0 then (f_X2_needing_J30 n lp σ l2 0 l1) else (f_X2_needing_J30 n lp σ l2 1 l1))) j
noncomputable def f_X2_needing (n : Nat) (σ0 : cd_S) : Option (Int32 × cd_S) :=
  Option.bind (f_X2_needing_L4 n n σ0 0 0) fun q2 => some ((q2.2.1, q2.1))
noncomputable def f_X2_sizeOf (n : Nat) (σ0 : cd_S) (a1 : Int32) : Option (Int32 × cd_S) :=
  if a1 = 0 then (some (((cI σ0 66 0), σ0))) else (if a1 = 1 then (some (((cI σ0 74 0), σ0))) else (if a1 = 2 then (some (((cI σ0 106 0), σ0))) else (if a1 = 3 then (some (((cI σ0 108 0), σ0))) else (if a1 = 4 then (some (((cI σ0 107 0), σ0))) else (if a1 = 5 then (some (((cI σ0 109 0), σ0))) else (if a1 = 6 then (Option.bind (f_X2_needing n σ0 ) fun p1 => some ((p1.1, p1.2))) else (if a1 = 7 then (some (((cI σ0 76 0), σ0))) else (if a1 = 8 then (some (((cI σ0 78 0), σ0))) else (some ((((-1) : Int32), σ0)))))))))))
noncomputable def f_X3_addGrant (n : Nat) (σ0 : cd_S) (a1 : Nat) : Option (Int32 × cd_S) :=
  if (8 : Int32) ≤ (cI σ0 106 0) then (some (((0 : Int32), σ0))) else (Option.bind (cldR 96 ((cI σ0 106 0))) fun u1 => Option.bind (f_X5_take n σ0 u1 a1) fun p2 => Option.bind (cstA p2.2 98 0 ((cI p2.2 106 0)) 0) fun σ3 => Option.bind (some (cSI σ3 106 0 (((cI σ3 106 0) + 1)))) fun σ4 => some (((0 : Int32), σ4)))
noncomputable def f_X3_addLimit (n : Nat) (σ0 : cd_S) : Option (Int32 × cd_S) :=
  if (12 : Int32) ≤ (cI σ0 107 0) then (some (((0 : Int32), σ0))) else (Option.bind (cstA σ0 99 0 ((cI σ0 107 0)) 0) fun σ1 => Option.bind (some (cSI σ1 107 0 (((cI σ1 107 0) + 1)))) fun σ2 => some (((0 : Int32), σ2)))
noncomputable def f_X3_setRight (n : Nat) (σ0 : cd_S) (a1 : Int32) (a2 : Nat) : Option (Int32 × cd_S) :=
  if a1 < 0 then (some (((0 : Int32), σ0))) else (if (160 : Int32) ≤ a1 then (some (((0 : Int32), σ0))) else (Option.bind (cldR 97 a1) fun u1 => Option.bind (f_X5_take n σ0 u1 a2) fun p2 => some (((0 : Int32), p2.2))))
noncomputable def f_X3_addGrantRight (n : Nat) (σ0 : cd_S) (a1 : Nat) : Option (Int32 × cd_S) :=
  if ((cI σ0 106 0) - 1) < 0 then (some (((0 : Int32), σ0))) else (Option.bind (cldA σ0 98 0 (((cI σ0 106 0) - 1))) fun v1 => if (8 : Int32) ≤ v1 then (some (((0 : Int32), σ0))) else (Option.bind (cldA σ0 98 0 (((cI σ0 106 0) - 1))) fun v2 => Option.bind (f_X3_setRight n σ0 (((((cI σ0 106 0) - 1) * 8) + v2)) a1) fun p3 => Option.bind (cldA p3.2 98 0 (((cI σ0 106 0) - 1))) fun v4 => Option.bind (cstA p3.2 98 0 (((cI σ0 106 0) - 1)) ((v4 + 1))) fun σ5 => some (((0 : Int32), σ5))))
noncomputable def f_X3_addLimitRight (n : Nat) (σ0 : cd_S) (a1 : Nat) : Option (Int32 × cd_S) :=
  if ((cI σ0 107 0) - 1) < 0 then (some (((0 : Int32), σ0))) else (Option.bind (cldA σ0 99 0 (((cI σ0 107 0) - 1))) fun v1 => if (8 : Int32) ≤ v1 then (some (((0 : Int32), σ0))) else (Option.bind (cldA σ0 99 0 (((cI σ0 107 0) - 1))) fun v2 => Option.bind (f_X3_setRight n σ0 ((((64 : Int32) + (((cI σ0 107 0) - 1) * 8)) + v2)) a1) fun p3 => Option.bind (cldA p3.2 99 0 (((cI σ0 107 0) - 1))) fun v4 => Option.bind (cstA p3.2 99 0 (((cI σ0 107 0) - 1)) ((v4 + 1))) fun σ5 => some (((0 : Int32), σ5))))
noncomputable def f_X3_addAsking (n : Nat) (σ0 : cd_S) : Option (Int32 × cd_S) :=
  if (24 : Int32) ≤ (cI σ0 109 0) then (some (((0 : Int32), σ0))) else (Option.bind (cstZ σ0 103 0 ((cI σ0 109 0)) 0) fun σ1 => Option.bind (some (cSI σ1 109 0 (((cI σ1 109 0) + 1)))) fun σ2 => some (((0 : Int32), σ2)))
noncomputable def f_X3_setAsking (n : Nat) (σ0 : cd_S) (a1 : Int32) (a2 : Nat) : Option (Int32 × cd_S) :=
  if a1 < 0 then (some (((0 : Int32), σ0))) else (if (cI σ0 109 0) ≤ a1 then (some (((0 : Int32), σ0))) else (Option.bind (cldR 102 a1) fun u1 => Option.bind (f_X5_take n σ0 u1 a2) fun p2 => some (((0 : Int32), p2.2))))
noncomputable def f_X3_setIndexed (n : Nat) (σ0 : cd_S) (a1 : Int32) : Option (Int32 × cd_S) :=
  if a1 < 0 then (some (((0 : Int32), σ0))) else (if (cI σ0 109 0) ≤ a1 then (some (((0 : Int32), σ0))) else (Option.bind (cstZ σ0 103 0 a1 1) fun σ1 => some (((0 : Int32), σ1))))
noncomputable def f_X3_placeModule_J119 (n : Nat) (a2 : Nat) (σ : cd_S) (l1 : Int32) (l4 : Int32) : Option (Int32 × cd_S) :=
  Option.bind (cstA σ 101 0 l1 l4) fun σ1 => some (((0 : Int32), σ1))
noncomputable def f_X3_placeModule_J48 (n : Nat) (a2 : Nat) (l1 : Int32) (lp : cd_S → Int32 → Int32 → Option (cd_S × Int32 × Int32)) (σ : cd_S) (l4 : Int32) (t0 : Int32) (t1 : Int32) : Option (cd_S × Int32 × Int32) :=
  lp σ ((t1 ||| t0)) ((l4 + 1))
noncomputable def f_X3_placeModule_L16 (n : Nat) (a2 : Nat) (l1 : Int32) (j : Nat) : cd_S → Int32 → Int32 → Option (cd_S × Int32 × Int32) :=
  Nat.rec (motive := fun _ => cd_S → Int32 → Int32 → Option (cd_S × Int32 × Int32)) (fun _ _ _ => none) (fun _ lp => fun (σ : cd_S) (l3 : Int32) (l4 : Int32) =>
  if (cI σ 106 0) ≤ l4 then (some (σ, l3, l4)) else (Option.bind (cldR 96 l4) fun u2 => Option.bind (f_X5_covers n σ u2 a2) fun p3 => if p3.1 = 0 then (f_X3_placeModule_J48 n a2 l1 lp p3.2 l4 0 l3) else (f_X3_placeModule_J48 n a2 l1 lp p3.2 l4 (((1 : Int32) <<< (l4 &&& 31))) l3))) j
noncomputable def f_X3_placeModule_L59 (n : Nat) (a2 : Nat) (l1 : Int32) (l3 : Int32) (j : Nat) : cd_S → Int32 → Option (cd_S × Int32) :=
  Nat.rec (motive := fun _ => cd_S → Int32 → Option (cd_S × Int32)) (fun _ _ => none) (fun _ lp => fun (σ : cd_S) (l4 : Int32) =>
  if (cI σ 108 0) ≤ l4 then (some (σ, l4)) else (Option.bind (cldA σ 100 0 l4) fun v5 => if v5 = l3 then (some (σ, l4)) else (lp σ ((l4 + 1))))) j
noncomputable def f_X3_placeModule (n : Nat) (σ0 : cd_S) (a1 : Int32) (a2 : Nat) : Option (Int32 × cd_S) :=
  if a1 < 0 then (some (((0 : Int32), σ0))) else (if a1 < (8 : Int32) then (Option.bind (f_X3_placeModule_L16 n a2 a1 n σ0 0 0) fun q4 => Option.bind (f_X3_placeModule_L59 n a2 a1 (q4.2.1) n q4.1 0) fun q6 => if q6.2 = (cI q6.1 108 0) then (if (8 : Int32) ≤ q6.2 then (f_X3_placeModule_J119 n a2 q6.1 a1 (q6.2)) else (Option.bind (cstA q6.1 100 0 (q6.2) (q4.2.1)) fun σ7 => Option.bind (some (cSI σ7 108 0 (((cI σ7 108 0) + 1)))) fun σ8 => f_X3_placeModule_J119 n a2 σ8 a1 (q6.2))) else (f_X3_placeModule_J119 n a2 q6.1 a1 (q6.2))) else (some (((0 : Int32), σ0))))
noncomputable def f_X10_advance (n : Nat) (σ0 : cd_S) : Option (Int32 × cd_S) :=
  Option.bind (f_X6_at n σ0 0 (((cI σ0 327 0) * 3))) fun p1 => Option.bind (some (cSI p1.2 328 0 (p1.1))) fun σ2 => Option.bind (f_X6_at n σ2 0 ((((cI σ2 327 0) * 3) + 1))) fun p3 => Option.bind (some (cSI p3.2 329 0 (p3.1))) fun σ4 => Option.bind (f_X6_get n σ4 0 ((((cI σ4 327 0) * 3) + 2))) fun p5 => Option.bind (some (cSJ p5.2 330 0 (p5.1))) fun σ6 => Option.bind (some (cSI σ6 327 0 (((cI σ6 327 0) + 1)))) fun σ7 => some (((0 : Int32), σ7))
noncomputable def f_X4_refuse (n : Nat) (σ0 : cd_S) (b0 : cd_B) (a1 : Int32) (a2 : Int32) : Option ((Int32 × cd_S × cd_B) ⊕ (cd_S × cd_B)) :=
  cd_ck (fun (q : ((Int32 × cd_S × cd_B) ⊕ (cd_S × cd_B))) => Sum.elim (fun (p : (Int32 × cd_S × cd_B)) => p.2.2) (fun (t : cd_S × cd_B) => t.2) q) b0 <| Option.bind (some (cSI σ0 139 0 a1)) fun σ1 => Option.bind (some (cSI σ1 140 0 a2)) fun σ2 => Option.bind (cd_use b0 1 6) fun b3 => some (Sum.inr (σ2, b3))
noncomputable def f_X4_need (n : Nat) (σ0 : cd_S) (b0 : cd_B) (a1 : Int32) : Option ((Int32 × cd_S × cd_B) ⊕ (cd_S × cd_B)) :=
  cd_ck (fun (q : ((Int32 × cd_S × cd_B) ⊕ (cd_S × cd_B))) => Sum.elim (fun (p : (Int32 × cd_S × cd_B)) => p.2.2) (fun (t : cd_S × cd_B) => t.2) q) b0 <| if a1 = 0 then (Option.bind (f_X4_refuse n σ0 b0 (1 : Int32) ((cI σ0 329 0))) fun q1 => cd_ck (fun (q : ((Int32 × cd_S × cd_B) ⊕ (cd_S × cd_B))) => Sum.elim (fun (p : (Int32 × cd_S × cd_B)) => p.2.2) (fun (t : cd_S × cd_B) => t.2) q) ((Sum.elim (fun (p : Int32 × cd_S × cd_B) => p.2.2) (fun (t : cd_S × cd_B) => t.2) q1)) <| Sum.elim (fun p1 => some (Sum.inl ((0 : Int32), p1.2.1, p1.2.2))) (fun t => some (Sum.inr t)) q1) else (some (Sum.inl ((0 : Int32), σ0, b0)))
noncomputable def f_X4_pass_J17 (n : Nat) (σ : cd_S) (b : cd_B) (t0 : Int32) : Option ((Int32 × cd_S × cd_B) ⊕ (cd_S × cd_B)) :=
  Option.bind (f_X4_need n σ b t0) fun q1 => cd_ck (fun (q : ((Int32 × cd_S × cd_B) ⊕ (cd_S × cd_B))) => Sum.elim (fun (p : (Int32 × cd_S × cd_B)) => p.2.2) (fun (t : cd_S × cd_B) => t.2) q) ((Sum.elim (fun (p : Int32 × cd_S × cd_B) => p.2.2) (fun (t : cd_S × cd_B) => t.2) q1)) <| Sum.elim (fun p1 => Option.bind (f_X10_advance n p1.2.1 ) fun p3 => some (Sum.inl ((0 : Int32), p3.2, p1.2.2))) (fun t => some (Sum.inr t)) q1
noncomputable def f_X4_pass (n : Nat) (σ0 : cd_S) (b0 : cd_B) (a1 : Int32) : Option ((Int32 × cd_S × cd_B) ⊕ (cd_S × cd_B)) :=
  cd_ck (fun (q : ((Int32 × cd_S × cd_B) ⊕ (cd_S × cd_B))) => Sum.elim (fun (p : (Int32 × cd_S × cd_B)) => p.2.2) (fun (t : cd_S × cd_B) => t.2) q) b0 <| if (cI σ0 328 0) = a1 then (f_X4_pass_J17 n σ0 b0 1) else (f_X4_pass_J17 n σ0 b0 0)
noncomputable def f_X4_needName (n : Nat) (σ0 : cd_S) (b0 : cd_B) : Option ((Int32 × cd_S × cd_B) ⊕ (cd_S × cd_B)) :=
  cd_ck (fun (q : ((Int32 × cd_S × cd_B) ⊕ (cd_S × cd_B))) => Sum.elim (fun (p : (Int32 × cd_S × cd_B)) => p.2.2) (fun (t : cd_S × cd_B) => t.2) q) b0 <| if (cI σ0 328 0) = (2 : Int32) then (some (Sum.inl ((0 : Int32), σ0, b0))) else (Option.bind (f_X4_refuse n σ0 b0 (1 : Int32) ((cI σ0 329 0))) fun q1 => cd_ck (fun (q : ((Int32 × cd_S × cd_B) ⊕ (cd_S × cd_B))) => Sum.elim (fun (p : (Int32 × cd_S × cd_B)) => p.2.2) (fun (t : cd_S × cd_B) => t.2) q) ((Sum.elim (fun (p : Int32 × cd_S × cd_B) => p.2.2) (fun (t : cd_S × cd_B) => t.2) q1)) <| Sum.elim (fun p1 => some (Sum.inl ((0 : Int32), p1.2.1, p1.2.2))) (fun t => some (Sum.inr t)) q1)
noncomputable def f_X4_room (n : Nat) (σ0 : cd_S) (b0 : cd_B) (a1 : Int32) : Option ((Int32 × cd_S × cd_B) ⊕ (cd_S × cd_B)) :=
  cd_ck (fun (q : ((Int32 × cd_S × cd_B) ⊕ (cd_S × cd_B))) => Sum.elim (fun (p : (Int32 × cd_S × cd_B)) => p.2.2) (fun (t : cd_S × cd_B) => t.2) q) b0 <| if a1 = 0 then (Option.bind (f_X4_refuse n σ0 b0 (4 : Int32) ((cI σ0 329 0))) fun q1 => cd_ck (fun (q : ((Int32 × cd_S × cd_B) ⊕ (cd_S × cd_B))) => Sum.elim (fun (p : (Int32 × cd_S × cd_B)) => p.2.2) (fun (t : cd_S × cd_B) => t.2) q) ((Sum.elim (fun (p : Int32 × cd_S × cd_B) => p.2.2) (fun (t : cd_S × cd_B) => t.2) q1)) <| Sum.elim (fun p1 => some (Sum.inl ((0 : Int32), p1.2.1, p1.2.2))) (fun t => some (Sum.inr t)) q1) else (some (Sum.inl ((0 : Int32), σ0, b0)))
noncomputable def f_X10_copyPattern_L27 (n : Nat) (a1 : Nat) (l2 : Int32) (j : Nat) : cd_S → Int32 → Option (cd_S × Int32) :=
  Nat.rec (motive := fun _ => cd_S → Int32 → Option (cd_S × Int32)) (fun _ _ => none) (fun _ lp => fun (σ : cd_S) (l3 : Int32) =>
  Option.bind (f_X6_at n σ 1 l2) fun p4 => if p4.1 ≤ l3 then (some (p4.2, l3)) else (Option.bind (f_X6_get n p4.2 1 (((l2 + 2) + l3))) fun p5 => Option.bind (f_X5_addStep n p5.2 a1 (p5.1)) fun p6 => lp p6.2 ((l3 + 1)))) j
noncomputable def f_X10_copyPattern (n : Nat) (σ0 : cd_S) (a1 : Nat) : Option (Int32 × cd_S) :=
  Option.bind (some (cSI σ0 162 a1 0)) fun σ1 => Option.bind (f_X6_at n σ1 1 ((((cJ σ0 330 0).toInt32) + 1))) fun p2 => Option.bind (some (cSI p2.2 163 a1 (p2.1))) fun σ3 => Option.bind (f_X10_copyPattern_L27 n a1 (((cJ σ0 330 0).toInt32)) n σ3 0) fun q7 => some (((0 : Int32), q7.1))
noncomputable def f_X10_hasTail (n : Nat) (σ0 : cd_S) : Option (Int32 × cd_S) :=
  if (cI σ0 328 0) = (4 : Int32) then (Option.bind (f_X6_at n σ0 1 ((((cJ σ0 330 0).toInt32) + 1))) fun p1 => if p1.1 = 0 then (some (((0 : Int32), p1.2))) else (some (((1 : Int32), p1.2)))) else (some (((0 : Int32), σ0)))
noncomputable def f_X4_takePattern_J46 (n : Nat) (σ : cd_S) (b : cd_B) : Option ((Int32 × cd_S × cd_B) ⊕ (cd_S × cd_B)) :=
  Option.bind (f_X10_copyPattern n σ 193) fun p1 => Option.bind (f_X10_advance n p1.2 ) fun p2 => some (Sum.inl ((0 : Int32), p2.2, b))
noncomputable def f_X4_takePattern_J17 (n : Nat) (σ : cd_S) (b : cd_B) (l1 : Int32) (t0 : Int32) : Option ((Int32 × cd_S × cd_B) ⊕ (cd_S × cd_B)) :=
  Option.bind (f_X4_need n σ b t0) fun q3 => cd_ck (fun (q : ((Int32 × cd_S × cd_B) ⊕ (cd_S × cd_B))) => Sum.elim (fun (p : (Int32 × cd_S × cd_B)) => p.2.2) (fun (t : cd_S × cd_B) => t.2) q) ((Sum.elim (fun (p : Int32 × cd_S × cd_B) => p.2.2) (fun (t : cd_S × cd_B) => t.2) q3)) <| Sum.elim (fun p3 => if l1 = 0 then (f_X4_takePattern_J46 n p3.2.1 (p3.2.2)) else (Option.bind (f_X10_hasTail n p3.2.1 ) fun p5 => if p5.1 = 0 then (f_X4_takePattern_J46 n p5.2 (p3.2.2)) else (Option.bind (f_X4_refuse n p5.2 (p3.2.2) (5 : Int32) ((cI p5.2 329 0))) fun q6 => cd_ck (fun (q : ((Int32 × cd_S × cd_B) ⊕ (cd_S × cd_B))) => Sum.elim (fun (p : (Int32 × cd_S × cd_B)) => p.2.2) (fun (t : cd_S × cd_B) => t.2) q) ((Sum.elim (fun (p : Int32 × cd_S × cd_B) => p.2.2) (fun (t : cd_S × cd_B) => t.2) q6)) <| Sum.elim (fun p6 => f_X4_takePattern_J46 n p6.2.1 (p6.2.2)) (fun t => some (Sum.inr t)) q6))) (fun t => some (Sum.inr t)) q3
noncomputable def f_X4_takePattern (n : Nat) (σ0 : cd_S) (b0 : cd_B) (a1 : Int32) : Option ((Int32 × cd_S × cd_B) ⊕ (cd_S × cd_B)) :=
  cd_ck (fun (q : ((Int32 × cd_S × cd_B) ⊕ (cd_S × cd_B))) => Sum.elim (fun (p : (Int32 × cd_S × cd_B)) => p.2.2) (fun (t : cd_S × cd_B) => t.2) q) b0 <| if (cI σ0 328 0) = (4 : Int32) then (f_X4_takePattern_J17 n σ0 b0 a1 1) else (f_X4_takePattern_J17 n σ0 b0 a1 0)
