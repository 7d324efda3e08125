noncomputable def f_X12_thrown (n : Nat) (σ0 : md_S) : Option (Int32 × md_S) :=
  some ((mI σ0 0), σ0)
noncomputable def f_X12_in (n : Nat) (σ0 : md_S) (a0 : Int64) (a2 : Int64) (a4 : Int64) : Option (Int32 × md_S) :=
  if (lg_cmp a0 a2) < 0 then (some ((0 : Int32), σ0)) else (if 0 < (lg_cmp a0 a4) then (some ((0 : Int32), σ0)) else (some ((1 : Int32), σ0)))
noncomputable def f_X12_feed_J76 (n : Nat) (l1 : Int32) (l2 : Int32) (l3 : Int32) (l4 : Int32) (l5 : Int32) (lp : md_S → Int32 → Option (md_S × Int32)) (σ : md_S) (l6 : Int32) (t0 : Int32) : Option (md_S × Int32) :=
  Option.bind (mstA σ 1 ((mI σ 2)) (((t0 >>> (((24 : Int32) - ((8 : Int32) * (l6 - l6 / ((4 : Int32)) * ((4 : Int32))))) &&& 31)) &&& 255))) fun σ2 => Option.bind (some (mSI σ2 2 (((mI σ2 2) + 1)))) fun σ3 => lp σ3 ((l6 + 1))
noncomputable def f_X12_feed_L23 (n : Nat) (l1 : Int32) (l2 : Int32) (l3 : Int32) (l4 : Int32) (l5 : Int32) (j : Nat) : md_S → Int32 → Option (md_S × Int32) :=
  Nat.rec (motive := fun _ => md_S → Int32 → Option (md_S × Int32)) (fun _ _ => none) (fun _ lp => fun (σ : md_S) (l6 : Int32) =>
  if (20 : Int32) ≤ l6 then (some (σ, l6)) else (if (4 : Int32) ≤ l6 then (if (8 : Int32) ≤ l6 then (if (12 : Int32) ≤ l6 then (if (16 : Int32) ≤ l6 then (f_X12_feed_J76 n l1 l2 l3 l4 l5 lp σ l6 l5) else (f_X12_feed_J76 n l1 l2 l3 l4 l5 lp σ l6 l4)) else (f_X12_feed_J76 n l1 l2 l3 l4 l5 lp σ l6 l3)) else (f_X12_feed_J76 n l1 l2 l3 l4 l5 lp σ l6 l2)) else (f_X12_feed_J76 n l1 l2 l3 l4 l5 lp σ l6 l1))) j
noncomputable def f_X12_feed (n : Nat) (σ0 : md_S) (a1 : Int32) (a2 : Int32) (a3 : Int32) (a4 : Int32) (a5 : Int32) : Option (Int32 × md_S) :=
  Option.bind (some (mSI σ0 0 0)) fun σ1 => if ((mI σ1 2) + 20) ≤ (3000 : Int32) then (Option.bind (f_X12_feed_L23 n a1 a2 a3 a4 a5 n σ1 0) fun q4 => some ((1 : Int32), q4.1)) else (some ((0 : Int32), σ1))
noncomputable def f_X12_end (n : Nat) (σ0 : md_S) (a1 : Int32) : Option (Int32 × md_S) :=
  Option.bind (some (mSI σ0 0 0)) fun σ1 => Option.bind (f_X12_in n σ1 ((a1.toInt64)) (0 : Int64) (((mI σ1 2).toInt64))) fun p2 => if p2.1 = 0 then (some ((0 : Int32), p2.2)) else (Option.bind (some (mSI p2.2 2 a1)) fun σ3 => some ((1 : Int32), σ3))
noncomputable def f_X12_at (n : Nat) (σ0 : md_S) (a1 : Int32) : Option (Int32 × md_S) :=
  if (mI σ0 4) ≤ a1 then (some (((-1) : Int32), σ0)) else (Option.bind (mldA σ0 3 a1) fun v1 => some (v1, σ0))
noncomputable def f_X12_isLetter (n : Nat) (σ0 : md_S) (a0 : Int32) : Option (Int32 × md_S) :=
  Option.bind (f_X12_in n σ0 ((a0.toInt64)) (97 : Int64) (122 : Int64)) fun p1 => Option.bind (md_zb (p1.1)) fun z2 => some (z2, p1.2)
noncomputable def f_X12_isDigit (n : Nat) (σ0 : md_S) (a0 : Int32) : Option (Int32 × md_S) :=
  Option.bind (f_X12_in n σ0 ((a0.toInt64)) (48 : Int64) (57 : Int64)) fun p1 => Option.bind (md_zb (p1.1)) fun z2 => some (z2, p1.2)
noncomputable def f_X12_isFine (n : Nat) (σ0 : md_S) : Option (Int32 × md_S) :=
  if (mI σ0 6) = 0 then (some ((1 : Int32), σ0)) else (some ((0 : Int32), σ0))
noncomputable def f_X12_failsAt_J17 (n : Nat) (σ : md_S) : Option (Int32 × md_S) :=
  Option.bind (some (mSI σ 8 0)) fun σ1 => some ((0 : Int32), σ1)
noncomputable def f_X12_failsAt (n : Nat) (σ0 : md_S) (a1 : Int32) (a2 : Int32) : Option (Int32 × md_S) :=
  if (mI σ0 6) = 0 then (Option.bind (some (mSI σ0 6 a1)) fun σ2 => Option.bind (some (mSI σ2 7 a2)) fun σ3 => f_X12_failsAt_J17 n σ3) else (f_X12_failsAt_J17 n σ0)
noncomputable def f_X12_fails (n : Nat) (σ0 : md_S) (a1 : Int32) : Option (Int32 × md_S) :=
  Option.bind (f_X12_failsAt n σ0 a1 ((mI σ0 9))) fun p1 => some ((0 : Int32), p1.2)
noncomputable def f_X12_digitOf (n : Nat) (σ0 : md_S) (a0 : Int32) : Option (Int32 × md_S) :=
  Option.bind (f_X12_isLetter n σ0 a0) fun p1 => if p1.1 = 0 then (some (((a0 - 48) + 27), p1.2)) else (some (((a0 - 97) + 1), p1.2))
noncomputable def f_X12_codeOf_L5 (n : Nat) (l2 : Int32) (j : Nat) : md_S → Int64 → Int32 → Option (md_S × Int64 × Int32) :=
  Nat.rec (motive := fun _ => md_S → Int64 → Int32 → Option (md_S × Int64 × Int32)) (fun _ _ _ => none) (fun _ lp => fun (σ : md_S) (l3 : Int64) (l5 : Int32) =>
  if l2 ≤ l5 then (some (σ, l3, l5)) else (Option.bind (md_ch l5) fun v1 => Option.bind (f_X12_digitOf n σ v1) fun p2 => lp p2.2 ((((37 : Int64) * l3) + (p2.1.toInt64))) ((l5 + 1)))) j
noncomputable def f_X12_codeOf (n : Nat) (σ0 : md_S) (a1 : Int32) (a2 : Int32) : Option (Int64 × md_S) :=
  Option.bind (f_X12_codeOf_L5 n a2 n σ0 0 a1) fun q3 => some (q3.2.1, q3.1)
noncomputable def f_X12_keywordOf_L4 (n : Nat) (l0 : Int64) (j : Nat) : md_S → Int32 → Int32 → Option ((Int32 × md_S) ⊕ (md_S × Int32 × Int32)) :=
  Nat.rec (motive := fun _ => md_S → Int32 → Int32 → Option ((Int32 × md_S) ⊕ (md_S × Int32 × Int32))) (fun _ _ _ => none) (fun _ lp => fun (σ : md_S) (l2 : Int32) (l3 : Int32) =>
  if (nI 113) ≤ l3 then (some (Sum.inr (σ, l2, l3))) else (Option.bind (md_ix l3) fun v2 => Option.bind (f_X12_codeOf n σ l3 v2) fun p3 => if (lg_cmp p3.1 l0) = 0 then (some (Sum.inl (l2, p3.2))) else (lp p3.2 ((l2 + 1)) ((v2 + 1))))) j
noncomputable def f_X12_keywordOf (n : Nat) (σ0 : md_S) (a0 : Int64) : Option (Int32 × md_S) :=
  Option.bind (f_X12_keywordOf_L4 n a0 n σ0 0 0) fun q4 => Sum.elim some (fun t4 => some (((-1) : Int32), t4.1)) q4
noncomputable def f_X12_nextName_J137 (n : Nat) (σ : md_S) (t0 : Int32) : Option (Int32 × md_S) :=
  Option.bind (some (mSI σ 8 t0)) fun σ1 => some ((0 : Int32), σ1)
noncomputable def f_X12_nextName_J76 (n : Nat) (lp : md_S → Option (md_S)) (σ : md_S) (t0 : Int64) : Option (md_S) :=
  Option.bind (some (mSJ σ 12 t0)) fun σ3 => Option.bind (some (mSI σ3 10 (((mI σ3 10) + 1)))) fun σ4 => lp σ4
noncomputable def f_X12_nextName_J33 (n : Nat) (lp : md_S → Option (md_S)) (σ : md_S) : Option (md_S) :=
  if (8 : Int32) ≤ ((mI σ 10) - (mI σ 9)) then (f_X12_nextName_J76 n lp σ ((mJ σ 12))) else (Option.bind (f_X12_at n σ ((mI σ 10))) fun p5 => Option.bind (f_X12_digitOf n p5.2 (p5.1)) fun p6 => f_X12_nextName_J76 n lp p6.2 ((((37 : Int64) * (mJ σ 12)) + (p6.1.toInt64))))
noncomputable def f_X12_nextName_L5 (n : Nat) (j : Nat) : md_S → Option (md_S) :=
  Nat.rec (motive := fun _ => md_S → Option (md_S)) (fun _ => none) (fun _ lp => fun (σ : md_S) =>
  Option.bind (f_X12_at n σ ((mI σ 10))) fun p7 => Option.bind (f_X12_isLetter n p7.2 (p7.1)) fun p8 => if p8.1 = 0 then (Option.bind (f_X12_at n p8.2 ((mI p8.2 10))) fun p9 => Option.bind (f_X12_isDigit n p9.2 (p9.1)) fun p10 => if p10.1 = 0 then (some p10.2) else (f_X12_nextName_J33 n lp p10.2)) else (f_X12_nextName_J33 n lp p8.2)) j
noncomputable def f_X12_nextName (n : Nat) (σ0 : md_S) : Option (Int32 × md_S) :=
  Option.bind (some (mSJ σ0 12 0)) fun σ2 => Option.bind (f_X12_nextName_L5 n n σ2) fun q11 => if ((mI q11 10) - (mI q11 9)) ≤ (8 : Int32) then (Option.bind (f_X12_keywordOf n q11 ((mJ q11 12))) fun p12 => Option.bind (some (mSI p12.2 11 (p12.1))) fun σ13 => if (mI σ13 11) = ((-1) : Int32) then (f_X12_nextName_J137 n σ13 1) else (f_X12_nextName_J137 n σ13 2)) else (Option.bind (f_X12_fails n q11 (1 : Int32)) fun p14 => some ((0 : Int32), p14.2))
noncomputable def f_X12_nextNumber_J47 (n : Nat) (lp : md_S → Int64 → Option (md_S × Int64)) (σ : md_S) (t0 : Int64) : Option (md_S × Int64) :=
  Option.bind (some (mSI σ 10 (((mI σ 10) + 1)))) fun σ1 => lp σ1 t0
noncomputable def f_X12_nextNumber_L2 (n : Nat) (j : Nat) : md_S → Int64 → Option (md_S × Int64) :=
  Nat.rec (motive := fun _ => md_S → Int64 → Option (md_S × Int64)) (fun _ _ => none) (fun _ lp => fun (σ : md_S) (l1 : Int64) =>
  Option.bind (f_X12_at n σ ((mI σ 10))) fun p2 => Option.bind (f_X12_isDigit n p2.2 (p2.1)) fun p3 => if p3.1 = 0 then (some (p3.2, l1)) else (if (lg_cmp l1 2147483647) ≤ 0 then (Option.bind (f_X12_at n p3.2 ((mI p3.2 10))) fun p4 => f_X12_nextNumber_J47 n lp p4.2 (((((10 : Int64) * l1) + (p4.1.toInt64)) - 48))) else (f_X12_nextNumber_J47 n lp p3.2 l1))) j
noncomputable def f_X12_nextNumber (n : Nat) (σ0 : md_S) : Option (Int32 × md_S) :=
  Option.bind (f_X12_nextNumber_L2 n n σ0 0) fun q5 => if (lg_cmp q5.2 2147483647) ≤ 0 then (Option.bind (some (mSI q5.1 11 ((q5.2.toInt32)))) fun σ6 => Option.bind (some (mSI σ6 8 3)) fun σ7 => some ((0 : Int32), σ7)) else (Option.bind (f_X12_fails n q5.1 (1 : Int32)) fun p8 => some ((0 : Int32), p8.2))
noncomputable def f_X12_nextPattern_J309 (n : Nat) (σ : md_S) : Option (Int32 × md_S) :=
  Option.bind (some (mSI σ 8 4)) fun σ1 => some ((0 : Int32), σ1)
noncomputable def f_X12_nextPattern_J303 (n : Nat) (σ : md_S) : Option (Int32 × md_S) :=
  Option.bind (f_X12_fails n σ (1 : Int32)) fun p2 => some ((0 : Int32), p2.2)
noncomputable def f_X12_nextPattern_J281 (n : Nat) (lp : md_S → Int32 → Int32 → Option (md_S × Int32 × Int32)) (σ : md_S) (l1 : Int32) (t0 : Int32) : Option (md_S × Int32 × Int32) :=
  lp σ l1 t0
noncomputable def f_X12_nextPattern_J280 (n : Nat) (lp : md_S → Int32 → Int32 → Option (md_S × Int32 × Int32)) (σ : md_S) (l1 : Int32) : Option (md_S × Int32 × Int32) :=
  f_X12_nextPattern_J281 n lp σ l1 0
noncomputable def f_X12_nextPattern_J258 (n : Nat) (lp : md_S → Int32 → Int32 → Option (md_S × Int32 × Int32)) (σ : md_S) (l1 : Int32) (l4 : Int32) : Option (md_S × Int32 × Int32) :=
  if l4 = 0 then (f_X12_nextPattern_J280 n lp σ l1) else (Option.bind (f_X12_at n σ ((mI σ 10))) fun p5 => if p5.1 = (47 : Int32) then (f_X12_nextPattern_J281 n lp p5.2 l1 1) else (f_X12_nextPattern_J280 n lp p5.2 l1))
noncomputable def f_X12_nextPattern_J245 (n : Nat) (lp : md_S → Int32 → Int32 → Option (md_S × Int32 × Int32)) (σ : md_S) (l1 : Int32) (l4 : Int32) (t0 : Int32) : Option (md_S × Int32 × Int32) :=
  Option.bind (some (mSI σ 15 t0)) fun σ6 => Option.bind (some (mSI σ6 10 (((mI σ6 10) + 2)))) fun σ7 => f_X12_nextPattern_J258 n lp σ7 l1 l4
noncomputable def f_X12_nextPattern_J233 (n : Nat) (lp : md_S → Int32 → Int32 → Option (md_S × Int32 × Int32)) (σ : md_S) (l1 : Int32) (l3 : Int32) (l4 : Int32) : Option (md_S × Int32 × Int32) :=
  if l3 = (42 : Int32) then (f_X12_nextPattern_J245 n lp σ l1 l4 1) else (f_X12_nextPattern_J245 n lp σ l1 l4 2)
noncomputable def f_X12_nextPattern_J208 (n : Nat) (lp : md_S → Int32 → Int32 → Option (md_S × Int32 × Int32)) (σ : md_S) (l1 : Int32) (l4 : Int32) : Option (md_S × Int32 × Int32) :=
  Option.bind (some (mSI σ 14 (((mI σ 14) + 1)))) fun σ8 => f_X12_nextPattern_J258 n lp σ8 l1 l4
noncomputable def f_X12_nextPattern_J185 (n : Nat) (lp : md_S → Int32 → Int32 → Option (md_S × Int32 × Int32)) (σ : md_S) (l4 : Int32) (l6 : Int64) (t0 : Int32) : Option (md_S × Int32 × Int32) :=
  if (mI σ 16) ≤ (mI σ 14) then (f_X12_nextPattern_J208 n lp σ t0 l4) else (Option.bind (mstL σ 13 ((mI σ 14)) l6) fun σ9 => f_X12_nextPattern_J208 n lp σ9 t0 l4)
noncomputable def f_X12_nextPattern_J184 (n : Nat) (lp : md_S → Int32 → Int32 → Option (md_S × Int32 × Int32)) (σ : md_S) (l4 : Int32) (l6 : Int64) : Option (md_S × Int32 × Int32) :=
  f_X12_nextPattern_J185 n lp σ l4 l6 0
noncomputable def f_X12_nextPattern_J138 (n : Nat) (l1 : Int32) (l4 : Int32) (l5 : Int32) (lp : md_S → Int64 → Option (md_S × Int64)) (σ : md_S) (t0 : Int64) : Option (md_S × Int64) :=
  Option.bind (some (mSI σ 10 (((mI σ 10) + 1)))) fun σ11 => lp σ11 t0
noncomputable def f_X12_nextPattern_J102 (n : Nat) (l1 : Int32) (l4 : Int32) (l5 : Int32) (lp : md_S → Int64 → Option (md_S × Int64)) (σ : md_S) (l6 : Int64) : Option (md_S × Int64) :=
  if (6 : Int32) ≤ ((mI σ 10) - l5) then (f_X12_nextPattern_J138 n l1 l4 l5 lp σ l6) else (Option.bind (f_X12_at n σ ((mI σ 10))) fun p12 => Option.bind (f_X12_digitOf n p12.2 (p12.1)) fun p13 => f_X12_nextPattern_J138 n l1 l4 l5 lp p13.2 ((((37 : Int64) * l6) + (p13.1.toInt64))))
noncomputable def f_X12_nextPattern_L74 (n : Nat) (l1 : Int32) (l4 : Int32) (l5 : Int32) (j : Nat) : md_S → Int64 → Option (md_S × Int64) :=
  Nat.rec (motive := fun _ => md_S → Int64 → Option (md_S × Int64)) (fun _ _ => none) (fun _ lp => fun (σ : md_S) (l6 : Int64) =>
  Option.bind (f_X12_at n σ ((mI σ 10))) fun p14 => Option.bind (f_X12_isLetter n p14.2 (p14.1)) fun p15 => if p15.1 = 0 then (Option.bind (f_X12_at n p15.2 ((mI p15.2 10))) fun p16 => Option.bind (f_X12_isDigit n p16.2 (p16.1)) fun p17 => if p17.1 = 0 then (some (p17.2, l6)) else (f_X12_nextPattern_J102 n l1 l4 l5 lp p17.2 l6)) else (f_X12_nextPattern_J102 n l1 l4 l5 lp p15.2 l6)) j
noncomputable def f_X12_nextPattern_J48 (n : Nat) (lp : md_S → Int32 → Int32 → Option (md_S × Int32 × Int32)) (σ : md_S) (l1 : Int32) (l3 : Int32) (t0 : Int32) : Option (md_S × Int32 × Int32) :=
  if t0 = 0 then (if l3 = (42 : Int32) then (f_X12_nextPattern_J233 n lp σ l1 l3 t0) else (if l3 = (45 : Int32) then (f_X12_nextPattern_J233 n lp σ l1 l3 t0) else (f_X12_nextPattern_J258 n lp σ l1 t0))) else (Option.bind (some (mSI σ 10 (((mI σ 10) + 1)))) fun σ10 => Option.bind (f_X12_nextPattern_L74 n l1 t0 ((mI σ10 10)) n σ10 0) fun q18 => if l1 = 0 then (f_X12_nextPattern_J184 n lp q18.1 t0 (q18.2)) else (if (6 : Int32) < ((mI q18.1 10) - (mI σ10 10)) then (f_X12_nextPattern_J184 n lp q18.1 t0 (q18.2)) else (if (mI q18.1 16) ≤ (mI q18.1 14) then (f_X12_nextPattern_J184 n lp q18.1 t0 (q18.2)) else (f_X12_nextPattern_J185 n lp q18.1 t0 (q18.2) 1))))
noncomputable def f_X12_nextPattern_J43 (n : Nat) (lp : md_S → Int32 → Int32 → Option (md_S × Int32 × Int32)) (σ : md_S) (l1 : Int32) (l3 : Int32) : Option (md_S × Int32 × Int32) :=
  f_X12_nextPattern_J48 n lp σ l1 l3 1
noncomputable def f_X12_nextPattern_L14 (n : Nat) (j : Nat) : md_S → Int32 → Int32 → Option (md_S × Int32 × Int32) :=
  Nat.rec (motive := fun _ => md_S → Int32 → Int32 → Option (md_S × Int32 × Int32)) (fun _ _ _ => none) (fun _ lp => fun (σ : md_S) (l1 : Int32) (l2 : Int32) =>
  if l2 = 0 then (some (σ, l1, l2)) else (Option.bind (f_X12_at n σ (((mI σ 10) + 1))) fun p19 => Option.bind (f_X12_isLetter n p19.2 (p19.1)) fun p20 => if p20.1 = 0 then (Option.bind (f_X12_isDigit n p20.2 (p19.1)) fun p21 => if p21.1 = 0 then (f_X12_nextPattern_J48 n lp p21.2 l1 (p19.1) 0) else (f_X12_nextPattern_J43 n lp p21.2 l1 (p19.1))) else (f_X12_nextPattern_J43 n lp p20.2 l1 (p19.1)))) j
noncomputable def f_X12_nextPattern (n : Nat) (σ0 : md_S) : Option (Int32 × md_S) :=
  Option.bind (some (mSI σ0 14 0)) fun σ3 => Option.bind (some (mSI σ3 15 0)) fun σ4 => Option.bind (f_X12_nextPattern_L14 n n σ4 1 1) fun q22 => if q22.2.1 = 0 then (f_X12_nextPattern_J303 n q22.1) else (if (mI q22.1 14) = 0 then (if (mI q22.1 15) = 0 then (f_X12_nextPattern_J303 n q22.1) else (f_X12_nextPattern_J309 n q22.1)) else (f_X12_nextPattern_J309 n q22.1))
noncomputable def f_X12_nextSign_J180 (n : Nat) (σ : md_S) (t0 : Int32) : Option (Int32 × md_S) :=
  if t0 = 0 then (Option.bind (f_X12_fails n σ (1 : Int32)) fun p1 => some ((0 : Int32), p1.2)) else (some ((0 : Int32), σ))
noncomputable def f_X12_nextSign_J175 (n : Nat) (σ : md_S) : Option (Int32 × md_S) :=
  f_X12_nextSign_J180 n σ 1
noncomputable def f_X12_nextSign_J128 (n : Nat) (σ : md_S) (l1 : Int32) (t0 : Int32) : Option (Int32 × md_S) :=
  if t0 = 0 then (if l1 = (58 : Int32) then (f_X12_nextSign_J175 n σ) else (if l1 = (61 : Int32) then (f_X12_nextSign_J175 n σ) else (if l1 = (46 : Int32) then (f_X12_nextSign_J175 n σ) else (if l1 = (43 : Int32) then (f_X12_nextSign_J175 n σ) else (if l1 = (45 : Int32) then (f_X12_nextSign_J175 n σ) else (if l1 = (42 : Int32) then (f_X12_nextSign_J175 n σ) else (if l1 = (60 : Int32) then (f_X12_nextSign_J175 n σ) else (f_X12_nextSign_J180 n σ 0)))))))) else (f_X12_nextSign_J175 n σ)
noncomputable def f_X12_nextSign_J123 (n : Nat) (σ : md_S) (l1 : Int32) : Option (Int32 × md_S) :=
  f_X12_nextSign_J128 n σ l1 1
noncomputable def f_X12_nextSign_J75 (n : Nat) (σ : md_S) (l1 : Int32) : Option (Int32 × md_S) :=
  if l1 = (123 : Int32) then (f_X12_nextSign_J123 n σ l1) else (if l1 = (125 : Int32) then (f_X12_nextSign_J123 n σ l1) else (if l1 = (40 : Int32) then (f_X12_nextSign_J123 n σ l1) else (if l1 = (41 : Int32) then (f_X12_nextSign_J123 n σ l1) else (if l1 = (91 : Int32) then (f_X12_nextSign_J123 n σ l1) else (if l1 = (93 : Int32) then (f_X12_nextSign_J123 n σ l1) else (if l1 = (44 : Int32) then (f_X12_nextSign_J123 n σ l1) else (if l1 = (59 : Int32) then (f_X12_nextSign_J123 n σ l1) else (f_X12_nextSign_J128 n σ l1 0))))))))
noncomputable def f_X12_nextSign_J61 (n : Nat) (σ : md_S) (t0 : Int32) : Option (Int32 × md_S) :=
  Option.bind (some (mSI σ 11 t0)) fun σ2 => Option.bind (some (mSI σ2 10 (((mI σ2 10) + 1)))) fun σ3 => some ((0 : Int32), σ3)
noncomputable def f_X12_nextSign_J32 (n : Nat) (σ : md_S) (l1 : Int32) : Option (Int32 × md_S) :=
  Option.bind (f_X12_at n σ ((mI σ 10))) fun p4 => if p4.1 = (61 : Int32) then (if l1 = (58 : Int32) then (f_X12_nextSign_J61 n p4.2 256) else (f_X12_nextSign_J61 n p4.2 257)) else (f_X12_nextSign_J75 n p4.2 l1)
noncomputable def f_X12_nextSign (n : Nat) (σ0 : md_S) (a1 : Int32) : Option (Int32 × md_S) :=
  Option.bind (some (mSI σ0 10 (((mI σ0 10) + 1)))) fun σ5 => Option.bind (some (mSI σ5 8 5)) fun σ6 => Option.bind (some (mSI σ6 11 a1)) fun σ7 => if a1 = (58 : Int32) then (f_X12_nextSign_J32 n σ7 a1) else (if a1 = (61 : Int32) then (f_X12_nextSign_J32 n σ7 a1) else (f_X12_nextSign_J75 n σ7 a1))
noncomputable def f_X12_next_L59 (n : Nat) (j : Nat) : md_S → Option (md_S) :=
  Nat.rec (motive := fun _ => md_S → Option (md_S)) (fun _ => none) (fun _ lp => fun (σ : md_S) =>
  if (mI σ 4) ≤ (mI σ 10) then (some σ) else (Option.bind (f_X12_at n σ ((mI σ 10))) fun p4 => if p4.1 = (10 : Int32) then (some p4.2) else (Option.bind (some (mSI p4.2 10 (((mI p4.2 10) + 1)))) fun σ5 => lp σ5))) j
noncomputable def f_X12_next_J45 (n : Nat) (lp : md_S → Int32 → Option (md_S × Int32)) (σ : md_S) (t0 : Int32) : Option (md_S × Int32) :=
  Option.bind (f_X12_at n σ ((mI σ 10))) fun p2 => if p2.1 = (35 : Int32) then (Option.bind (f_X12_next_L59 n n p2.2) fun q6 => lp q6 1) else (if t0 = 0 then (lp p2.2 t0) else (Option.bind (some (mSI p2.2 10 (((mI p2.2 10) + 1)))) fun σ3 => lp σ3 t0))
noncomputable def f_X12_next_J40 (n : Nat) (lp : md_S → Int32 → Option (md_S × Int32)) (σ : md_S) : Option (md_S × Int32) :=
  f_X12_next_J45 n lp σ 1
noncomputable def f_X12_next_L10 (n : Nat) (j : Nat) : md_S → Int32 → Option (md_S × Int32) :=
  Nat.rec (motive := fun _ => md_S → Int32 → Option (md_S × Int32)) (fun _ _ => none) (fun _ lp => fun (σ : md_S) (l1 : Int32) =>
  if l1 = 0 then (some (σ, l1)) else (Option.bind (f_X12_at n σ ((mI σ 10))) fun p7 => if p7.1 = (32 : Int32) then (f_X12_next_J40 n lp p7.2) else (Option.bind (f_X12_at n p7.2 ((mI p7.2 10))) fun p8 => if p8.1 = (10 : Int32) then (f_X12_next_J40 n lp p8.2) else (f_X12_next_J45 n lp p8.2 0)))) j
noncomputable def f_X12_next (n : Nat) (σ0 : md_S) : Option (Int32 × md_S) :=
  Option.bind (f_X12_isFine n σ0 ) fun p1 => if p1.1 = 0 then (some ((0 : Int32), p1.2)) else (Option.bind (f_X12_next_L10 n n p1.2 1) fun q9 => Option.bind (some (mSI q9.1 9 ((mI q9.1 10)))) fun σ10 => Option.bind (f_X12_at n σ10 ((mI σ10 10))) fun p11 => if p11.1 = ((-1) : Int32) then (Option.bind (some (mSI p11.2 8 0)) fun σ18 => some ((0 : Int32), σ18)) else (Option.bind (f_X12_isLetter n p11.2 (p11.1)) fun p12 => if p12.1 = 0 then (Option.bind (f_X12_isDigit n p12.2 (p11.1)) fun p13 => if p13.1 = 0 then (if p11.1 = (47 : Int32) then (Option.bind (f_X12_nextPattern n p13.2 ) fun p15 => some ((0 : Int32), p15.2)) else (Option.bind (f_X12_nextSign n p13.2 (p11.1)) fun p14 => some ((0 : Int32), p14.2))) else (Option.bind (f_X12_nextNumber n p13.2 ) fun p16 => some ((0 : Int32), p16.2))) else (Option.bind (f_X12_nextName n p12.2 ) fun p17 => some ((0 : Int32), p17.2))))
noncomputable def f_X12_isSign (n : Nat) (σ0 : md_S) (a1 : Int32) : Option (Int32 × md_S) :=
  Option.bind (f_X12_isFine n σ0 ) fun p1 => if p1.1 = 0 then (some ((0 : Int32), p1.2)) else (if (mI p1.2 8) = (5 : Int32) then (if (mI p1.2 11) = a1 then (some ((1 : Int32), p1.2)) else (some ((0 : Int32), p1.2))) else (some ((0 : Int32), p1.2)))
noncomputable def f_X12_isKey (n : Nat) (σ0 : md_S) (a1 : Int32) : Option (Int32 × md_S) :=
  Option.bind (f_X12_isFine n σ0 ) fun p1 => if p1.1 = 0 then (some ((0 : Int32), p1.2)) else (if (mI p1.2 8) = (2 : Int32) then (if (mI p1.2 11) = a1 then (some ((1 : Int32), p1.2)) else (some ((0 : Int32), p1.2))) else (some ((0 : Int32), p1.2)))
noncomputable def f_X12_misfit_J20 (n : Nat) (σ : md_S) (t0 : Int32) (t1 : Int32) : Option (Int32 × md_S) :=
  Option.bind (f_X12_failsAt n σ t1 t0) fun p1 => some ((0 : Int32), p1.2)
noncomputable def f_X12_misfit (n : Nat) (σ0 : md_S) : Option (Int32 × md_S) :=
  if (mI σ0 8) = 0 then (f_X12_misfit_J20 n σ0 ((mI σ0 4)) 1) else (f_X12_misfit_J20 n σ0 ((mI σ0 9)) 1)
noncomputable def f_X12_sign (n : Nat) (σ0 : md_S) (a1 : Int32) : Option (Int32 × md_S) :=
  Option.bind (f_X12_isSign n σ0 a1) fun p1 => if p1.1 = 0 then (Option.bind (f_X12_isFine n p1.2 ) fun p2 => if p2.1 = 0 then (some ((0 : Int32), p2.2)) else (Option.bind (f_X12_misfit n p2.2 ) fun p3 => some ((0 : Int32), p3.2))) else (Option.bind (f_X12_next n p1.2 ) fun p4 => some ((0 : Int32), p4.2))
noncomputable def f_X12_key (n : Nat) (σ0 : md_S) (a1 : Int32) : Option (Int32 × md_S) :=
  Option.bind (f_X12_isKey n σ0 a1) fun p1 => if p1.1 = 0 then (Option.bind (f_X12_isFine n p1.2 ) fun p2 => if p2.1 = 0 then (some ((0 : Int32), p2.2)) else (Option.bind (f_X12_misfit n p2.2 ) fun p3 => some ((0 : Int32), p3.2))) else (Option.bind (f_X12_next n p1.2 ) fun p4 => some ((0 : Int32), p4.2))
noncomputable def f_X12_isName_J19 (n : Nat) (σ : md_S) : Option (Int32 × md_S) :=
  Option.bind (f_X12_isFine n σ ) fun p1 => Option.bind (md_zb (p1.1)) fun z2 => some (z2, p1.2)
noncomputable def f_X12_isName (n : Nat) (σ0 : md_S) : Option (Int32 × md_S) :=
  Option.bind (f_X12_isFine n σ0 ) fun p3 => if p3.1 = 0 then (f_X12_isName_J19 n p3.2) else (if (mI p3.2 8) = (1 : Int32) then (f_X12_isName_J19 n p3.2) else (Option.bind (f_X12_misfit n p3.2 ) fun p4 => f_X12_isName_J19 n p4.2))
noncomputable def f_X12_keepPattern_L2 (n : Nat) (l1 : Int32) (j : Nat) : md_S → Int32 → Option (md_S × Int32) :=
  Nat.rec (motive := fun _ => md_S → Int32 → Option (md_S × Int32)) (fun _ _ => none) (fun _ lp => fun (σ : md_S) (l2 : Int32) =>
  if (mI σ 14) ≤ l2 then (some (σ, l2)) else (Option.bind (mldL σ 13 l2) fun v1 => Option.bind (mstL σ 17 ((((5 : Int32) * l1) + l2)) v1) fun σ2 => lp σ2 ((l2 + 1)))) j
noncomputable def f_X12_keepPattern (n : Nat) (σ0 : md_S) (a1 : Int32) : Option (Int32 × md_S) :=
  Option.bind (f_X12_keepPattern_L2 n a1 n σ0 0) fun q3 => Option.bind (mstA q3.1 18 a1 ((mI q3.1 14))) fun σ4 => Option.bind (mstA σ4 19 a1 ((mI σ4 15))) fun σ5 => some ((0 : Int32), σ5)
noncomputable def f_X12_covers_J131 (n : Nat) (σ : md_S) : Option (Int32 × md_S) :=
  some ((1 : Int32), σ)
noncomputable def f_X12_covers_J73 (n : Nat) (l1 : Int32) (l2 : Int32) (l3 : Int32) (l4 : Int32) (lp : md_S → Int32 → Int32 → Option (md_S × Int32 × Int32)) (σ : md_S) (l6 : Int32) (t0 : Int32) : Option (md_S × Int32 × Int32) :=
  lp σ t0 ((l6 + 1))
noncomputable def f_X12_covers_L31 (n : Nat) (l1 : Int32) (l2 : Int32) (l3 : Int32) (l4 : Int32) (j : Nat) : md_S → Int32 → Int32 → Option (md_S × Int32 × Int32) :=
  Nat.rec (motive := fun _ => md_S → Int32 → Int32 → Option (md_S × Int32 × Int32)) (fun _ _ _ => none) (fun _ lp => fun (σ : md_S) (l5 : Int32) (l6 : Int32) =>
  if l3 ≤ l6 then (some (σ, l5, l6)) else (if l5 = 0 then (some (σ, l5, l6)) else (Option.bind (mldL σ 17 ((((5 : Int32) * l1) + l6))) fun v1 => Option.bind (mldL σ 17 ((((5 : Int32) * l2) + l6))) fun v2 => if (lg_cmp v1 v2) = 0 then (f_X12_covers_J73 n l1 l2 l3 l4 lp σ l6 1) else (f_X12_covers_J73 n l1 l2 l3 l4 lp σ l6 0)))) j
noncomputable def f_X12_covers_J26 (n : Nat) (σ : md_S) (l1 : Int32) (l2 : Int32) (l3 : Int32) (l4 : Int32) (t0 : Int32) : Option (Int32 × md_S) :=
  Option.bind (f_X12_covers_L31 n l1 l2 l3 l4 n σ t0 0) fun q3 => if q3.2.1 = 0 then (some ((0 : Int32), q3.1)) else (Option.bind (mldA q3.1 19 l1) fun v4 => if v4 = 0 then (if l4 = l3 then (f_X12_covers_J131 n q3.1) else (some ((0 : Int32), q3.1))) else (Option.bind (mldA q3.1 19 l1) fun v5 => if v5 = (1 : Int32) then (if l4 = (l3 + 1) then (f_X12_covers_J131 n q3.1) else (some ((0 : Int32), q3.1))) else (if l4 ≤ l3 then (some ((0 : Int32), q3.1)) else (f_X12_covers_J131 n q3.1))))
noncomputable def f_X12_covers (n : Nat) (σ0 : md_S) (a1 : Int32) (a2 : Int32) : Option (Int32 × md_S) :=
  Option.bind (mldA σ0 18 a1) fun v6 => Option.bind (mldA σ0 18 a2) fun v7 => if v7 < v6 then (f_X12_covers_J26 n σ0 a1 a2 v6 v7 0) else (f_X12_covers_J26 n σ0 a1 a2 v6 v7 1)
noncomputable def f_X12_pattern_J42 (n : Nat) (σ : md_S) (l1 : Int32) : Option (Int32 × md_S) :=
  Option.bind (f_X12_keepPattern n σ l1) fun p1 => Option.bind (f_X12_next n p1.2 ) fun p2 => some ((0 : Int32), p2.2)
noncomputable def f_X12_pattern (n : Nat) (σ0 : md_S) (a1 : Int32) (a2 : Int32) : Option (Int32 × md_S) :=
  Option.bind (f_X12_isFine n σ0 ) fun p3 => if p3.1 = 0 then (some ((0 : Int32), p3.2)) else (if (mI p3.2 8) = (4 : Int32) then (if a2 = 0 then (f_X12_pattern_J42 n p3.2 a1) else (if (mI p3.2 15) = 0 then (f_X12_pattern_J42 n p3.2 a1) else (Option.bind (f_X12_fails n p3.2 (5 : Int32)) fun p4 => some ((0 : Int32), p4.2)))) else (Option.bind (f_X12_misfit n p3.2 ) fun p5 => some ((0 : Int32), p5.2)))
noncomputable def f_X12_right (n : Nat) (σ0 : md_S) (a1 : Int32) : Option (Int32 × md_S) :=
  Option.bind (f_X12_isName n σ0 ) fun p1 => if p1.1 = 0 then (some ((0 : Int32), p1.2)) else (Option.bind (mldA p1.2 23 a1) fun v2 => if v2 = (8 : Int32) then (Option.bind (f_X12_fails n p1.2 (4 : Int32)) fun p9 => some ((0 : Int32), p9.2)) else (Option.bind (mldA p1.2 23 a1) fun v3 => Option.bind (mstL p1.2 24 ((((8 : Int32) * a1) + v3)) ((mJ p1.2 12))) fun σ4 => Option.bind (f_X12_next n σ4 ) fun p5 => Option.bind (f_X12_pattern n p5.2 (((16 : Int32) + (((8 : Int32) * a1) + v3))) (0 : Int32)) fun p6 => Option.bind (mldA p6.2 23 a1) fun v7 => Option.bind (mstA p6.2 23 a1 ((v7 + 1))) fun σ8 => some ((0 : Int32), σ8)))
noncomputable def f_X12_hasRight_J52 (n : Nat) (l1 : Int32) (l2 : Int64) (l4 : Int32) (lp : md_S → Int32 → Option ((Int32 × md_S) ⊕ (md_S × Int32))) (σ : md_S) (l5 : Int32) : Option ((Int32 × md_S) ⊕ (md_S × Int32)) :=
  lp σ ((l5 + 1))
noncomputable def f_X12_hasRight_L3 (n : Nat) (l1 : Int32) (l2 : Int64) (l4 : Int32) (j : Nat) : md_S → Int32 → Option ((Int32 × md_S) ⊕ (md_S × Int32)) :=
  Nat.rec (motive := fun _ => md_S → Int32 → Option ((Int32 × md_S) ⊕ (md_S × Int32))) (fun _ _ => none) (fun _ lp => fun (σ : md_S) (l5 : Int32) =>
  Option.bind (mldA σ 23 l1) fun v1 => if v1 ≤ l5 then (some (Sum.inr (σ, l5))) else (Option.bind (mldL σ 24 ((((8 : Int32) * l1) + l5))) fun v2 => if (lg_cmp v2 l2) = 0 then (Option.bind (f_X12_covers n σ ((((16 : Int32) + ((8 : Int32) * l1)) + l5)) l4) fun p3 => if p3.1 = 0 then (f_X12_hasRight_J52 n l1 l2 l4 lp p3.2 l5) else (some (Sum.inl ((1 : Int32), p3.2)))) else (f_X12_hasRight_J52 n l1 l2 l4 lp σ l5))) j
noncomputable def f_X12_hasRight (n : Nat) (σ0 : md_S) (a1 : Int32) (a2 : Int64) (a4 : Int32) : Option (Int32 × md_S) :=
  Option.bind (f_X12_hasRight_L3 n a1 a2 a4 n σ0 0) fun q4 => Sum.elim some (fun t4 => some ((0 : Int32), t4.1)) q4
noncomputable def f_X12_hasDomain_J41 (n : Nat) (l1 : Int32) (l2 : Int64) (l4 : Int32) (lp : md_S → Int32 → Option ((Int32 × md_S) ⊕ (md_S × Int32))) (σ : md_S) (l5 : Int32) : Option ((Int32 × md_S) ⊕ (md_S × Int32)) :=
  lp σ ((l5 + 1))
noncomputable def f_X12_hasDomain_L3 (n : Nat) (l1 : Int32) (l2 : Int64) (l4 : Int32) (j : Nat) : md_S → Int32 → Option ((Int32 × md_S) ⊕ (md_S × Int32)) :=
  Nat.rec (motive := fun _ => md_S → Int32 → Option ((Int32 × md_S) ⊕ (md_S × Int32))) (fun _ _ => none) (fun _ lp => fun (σ : md_S) (l5 : Int32) =>
  if (mI σ 20) ≤ l5 then (some (Sum.inr (σ, l5))) else (Option.bind (mldA σ 33 l1) fun v1 => if ((v1 >>> (l5 &&& 31)) &&& 1) = (1 : Int32) then (Option.bind (f_X12_hasRight n σ l5 l2 l4) fun p2 => if p2.1 = 0 then (f_X12_hasDomain_J41 n l1 l2 l4 lp p2.2 l5) else (some (Sum.inl ((1 : Int32), p2.2)))) else (f_X12_hasDomain_J41 n l1 l2 l4 lp σ l5))) j
noncomputable def f_X12_hasDomain (n : Nat) (σ0 : md_S) (a1 : Int32) (a2 : Int64) (a4 : Int32) : Option (Int32 × md_S) :=
  Option.bind (f_X12_hasDomain_L3 n a1 a2 a4 n σ0 0) fun q3 => Sum.elim some (fun t3 => some ((0 : Int32), t3.1)) q3
noncomputable def f_X12_hasLimit (n : Nat) (σ0 : md_S) (a1 : Int32) (a2 : Int64) (a4 : Int32) : Option (Int32 × md_S) :=
  Option.bind (f_X12_hasRight n σ0 (((8 : Int32) + a1)) a2 a4) fun p1 => Option.bind (md_zb (p1.1)) fun z2 => some (z2, p1.2)
noncomputable def f_X12_node (n : Nat) (σ0 : md_S) (a1 : Int32) (a2 : Int32) (a3 : Int32) : Option (Int32 × md_S) :=
  Option.bind (some (mSI σ0 65 (((mI σ0 65) + 1)))) fun σ1 => Option.bind (mstA σ1 66 ((mI σ0 65)) a1) fun σ2 => Option.bind (mstA σ2 67 ((mI σ0 65)) ((mI σ2 64))) fun σ3 => Option.bind (mstA σ3 68 ((mI σ0 65)) a2) fun σ4 => Option.bind (mstA σ4 69 ((mI σ0 65)) a3) fun σ5 => Option.bind (mstA σ5 70 ((mI σ0 65)) ((-1))) fun σ6 => Option.bind (mstA σ6 71 ((mI σ0 65)) ((-1))) fun σ7 => Option.bind (mstA σ7 72 ((mI σ0 65)) ((-1))) fun σ8 => some ((mI σ0 65), σ8)
noncomputable def f_X12_gets_L35 (n : Nat) (l2 : Int32) (j : Nat) : md_S → Int32 → Option (md_S × Int32) :=
  Nat.rec (motive := fun _ => md_S → Int32 → Option (md_S × Int32)) (fun _ _ => none) (fun _ lp => fun (σ : md_S) (l3 : Int32) =>
  Option.bind (mldA σ 71 l3) fun v4 => if v4 = ((-1) : Int32) then (some (σ, l3)) else (Option.bind (mldA σ 71 l3) fun v5 => lp σ v5)) j
noncomputable def f_X12_gets (n : Nat) (σ0 : md_S) (a1 : Int32) (a2 : Int32) : Option (Int32 × md_S) :=
  Option.bind (f_X12_isFine n σ0 ) fun p1 => if p1.1 = 0 then (some ((0 : Int32), p1.2)) else (Option.bind (mstA p1.2 72 a2 a1) fun σ2 => Option.bind (mldA σ2 70 a1) fun v3 => if v3 = ((-1) : Int32) then (Option.bind (mstA σ2 70 a1 a2) fun σ8 => some ((0 : Int32), σ8)) else (Option.bind (f_X12_gets_L35 n a2 n σ2 v3) fun q6 => Option.bind (mstA q6.1 71 (q6.2) a2) fun σ7 => some ((0 : Int32), σ7)))
noncomputable def f_X12_findDomains_J146 (n : Nat) (lp : md_S → Int32 → Option (md_S × Int32)) (σ : md_S) (l1 : Int32) : Option (md_S × Int32) :=
  lp σ ((l1 + 1))
noncomputable def f_X12_findDomains_J49 (n : Nat) (l1 : Int32) (lp : md_S → Int32 → Int32 → Option (md_S × Int32 × Int32)) (σ : md_S) (l3 : Int32) (t0 : Int32) (t1 : Int32) : Option (md_S × Int32 × Int32) :=
  lp σ ((t1 ||| t0)) ((l3 + 1))
noncomputable def f_X12_findDomains_L19 (n : Nat) (l1 : Int32) (j : Nat) : md_S → Int32 → Int32 → Option (md_S × Int32 × Int32) :=
  Nat.rec (motive := fun _ => md_S → Int32 → Int32 → Option (md_S × Int32 × Int32)) (fun _ _ _ => none) (fun _ lp => fun (σ : md_S) (l2 : Int32) (l3 : Int32) =>
  if (mI σ 20) ≤ l3 then (some (σ, l2, l3)) else (Option.bind (f_X12_covers n σ (((8 : Int32) + l3)) (((0 : Int32) + l1))) fun p2 => if p2.1 = 0 then (f_X12_findDomains_J49 n l1 lp p2.2 l3 0 l2) else (f_X12_findDomains_J49 n l1 lp p2.2 l3 (((1 : Int32) <<< (l3 &&& 31))) l2))) j
noncomputable def f_X12_findDomains_J99 (n : Nat) (l1 : Int32) (l2 : Int32) (lp : md_S → Int32 → Option (md_S × Int32)) (σ : md_S) (l3 : Int32) (t0 : Int32) (t1 : Int32) : Option (md_S × Int32) :=
  Option.bind (mstA σ 32 t1 t0) fun σ5 => lp σ5 ((l3 + 1))
noncomputable def f_X12_findDomains_L66 (n : Nat) (l1 : Int32) (l2 : Int32) (j : Nat) : md_S → Int32 → Option (md_S × Int32) :=
  Nat.rec (motive := fun _ => md_S → Int32 → Option (md_S × Int32)) (fun _ _ => none) (fun _ lp => fun (σ : md_S) (l3 : Int32) =>
  if (mI σ 34) ≤ l3 then (some (σ, l3)) else (Option.bind (mldA σ 33 l3) fun v6 => if v6 = l2 then (f_X12_findDomains_J99 n l1 l2 lp σ l3 l3 l1) else (Option.bind (mldA σ 32 l1) fun v7 => f_X12_findDomains_J99 n l1 l2 lp σ l3 v7 l1))) j
noncomputable def f_X12_findDomains_L7 (n : Nat) (j : Nat) : md_S → Int32 → Option (md_S × Int32) :=
  Nat.rec (motive := fun _ => md_S → Int32 → Option (md_S × Int32)) (fun _ _ => none) (fun _ lp => fun (σ : md_S) (l1 : Int32) =>
  if (mI σ 25) ≤ l1 then (some (σ, l1)) else (Option.bind (f_X12_findDomains_L19 n l1 n σ 0 0) fun q3 => Option.bind (mstA q3.1 32 l1 ((-1))) fun σ4 => Option.bind (f_X12_findDomains_L66 n l1 (q3.2.1) n σ4 0) fun q8 => Option.bind (mldA q8.1 32 l1) fun v9 => if v9 = ((-1) : Int32) then (Option.bind (mstA q8.1 32 l1 ((mI q8.1 34))) fun σ10 => Option.bind (mstA σ10 33 ((mI σ10 34)) (q3.2.1)) fun σ11 => Option.bind (some (mSI σ11 34 (((mI σ11 34) + 1)))) fun σ12 => f_X12_findDomains_J146 n lp σ12 l1) else (f_X12_findDomains_J146 n lp q8.1 l1))) j
noncomputable def f_X12_findDomains (n : Nat) (σ0 : md_S) : Option (Int32 × md_S) :=
  Option.bind (some (mSI σ0 34 0)) fun σ1 => Option.bind (f_X12_findDomains_L7 n n σ1 0) fun q13 => some ((0 : Int32), q13.1)
noncomputable def f_X12_areOfOne_J65 (n : Nat) (σ : md_S) : Option (Int32 × md_S) :=
  some ((1 : Int32), σ)
noncomputable def f_X12_areOfOne (n : Nat) (σ0 : md_S) (a1 : Int32) (a2 : Int32) : Option (Int32 × md_S) :=
  Option.bind (mldA σ0 36 a1) fun v1 => Option.bind (mldA σ0 36 a2) fun v2 => if v1 = v2 then (Option.bind (mldA σ0 39 a1) fun v3 => Option.bind (mldA σ0 39 a2) fun v4 => if v3 = v4 then (Option.bind (mldA σ0 36 a1) fun v5 => if v5 = (1 : Int32) then (f_X12_areOfOne_J65 n σ0) else (Option.bind (mldA σ0 36 a1) fun v6 => if v6 = 0 then (Option.bind (mldL σ0 43 a1) fun v7 => Option.bind (mldL σ0 43 a2) fun v8 => if (lg_cmp v7 v8) = 0 then (f_X12_areOfOne_J65 n σ0) else (some ((0 : Int32), σ0))) else (some ((0 : Int32), σ0)))) else (some ((0 : Int32), σ0))) else (some ((0 : Int32), σ0))
noncomputable def f_X12_isOfGroup (n : Nat) (σ0 : md_S) (a1 : Int32) (a2 : Int32) : Option (Int32 × md_S) :=
  Option.bind (mldA σ0 66 a1) fun v1 => if v1 = 7 then (Option.bind (mldA σ0 36 a2) fun v2 => if v2 = 0 then (Option.bind (mldL σ0 43 a2) fun v3 => Option.bind (mldA σ0 68 a1) fun v4 => Option.bind (mldL σ0 61 v4) fun v5 => if (lg_cmp v3 v5) = 0 then (Option.bind (mldA σ0 39 a2) fun v6 => Option.bind (mldA σ0 69 a1) fun v7 => if v6 = v7 then (some ((1 : Int32), σ0)) else (some ((0 : Int32), σ0))) else (some ((0 : Int32), σ0))) else (some ((0 : Int32), σ0))) else (if v1 = 8 then (Option.bind (mldA σ0 36 a2) fun v8 => if v8 = (1 : Int32) then (Option.bind (mldA σ0 39 a2) fun v9 => Option.bind (mldA σ0 68 a1) fun v10 => if v9 = v10 then (some ((1 : Int32), σ0)) else (some ((0 : Int32), σ0))) else (some ((0 : Int32), σ0))) else (if v1 = 23 then (Option.bind (mldA σ0 36 a2) fun v11 => if v11 = (1 : Int32) then (Option.bind (mldA σ0 39 a2) fun v12 => if v12 = 0 then (some ((1 : Int32), σ0)) else (some ((0 : Int32), σ0))) else (some ((0 : Int32), σ0))) else (some ((0 : Int32), σ0))))
noncomputable def f_X12_groupNeeds_J30 (n : Nat) (l1 : Int32) (lp : md_S → Int32 → Option ((Int32 × md_S) ⊕ (md_S × Int32))) (σ : md_S) (l2 : Int32) : Option ((Int32 × md_S) ⊕ (md_S × Int32)) :=
  lp σ ((l2 + 1))
noncomputable def f_X12_groupNeeds_L2 (n : Nat) (l1 : Int32) (j : Nat) : md_S → Int32 → Option ((Int32 × md_S) ⊕ (md_S × Int32)) :=
  Nat.rec (motive := fun _ => md_S → Int32 → Option ((Int32 × md_S) ⊕ (md_S × Int32))) (fun _ _ => none) (fun _ lp => fun (σ : md_S) (l2 : Int32) =>
  if (mI σ 35) ≤ l2 then (some (Sum.inr (σ, l2))) else (Option.bind (mldA σ 47 l2) fun v1 => if v1 = 0 then (f_X12_groupNeeds_J30 n l1 lp σ l2) else (Option.bind (f_X12_isOfGroup n σ l1 l2) fun p2 => if p2.1 = 0 then (f_X12_groupNeeds_J30 n l1 lp p2.2 l2) else (some (Sum.inl ((1 : Int32), p2.2)))))) j
noncomputable def f_X12_groupNeeds (n : Nat) (σ0 : md_S) (a1 : Int32) : Option (Int32 × md_S) :=
  Option.bind (f_X12_groupNeeds_L2 n a1 n σ0 0) fun q3 => Sum.elim some (fun t3 => some ((0 : Int32), t3.1)) q3
noncomputable def f_X12_nodeNeeds_J66 (n : Nat) (σ : md_S) : Option (Int32 × md_S) :=
  some ((0 : Int32), σ)
noncomputable def f_X12_nodeNeeds (n : Nat) (σ0 : md_S) (a1 : Int32) : Option (Int32 × md_S) :=
  Option.bind (mldA σ0 66 a1) fun v1 => if v1 = (25 : Int32) then (some ((1 : Int32), σ0)) else (if v1 = (26 : Int32) then (some ((1 : Int32), σ0)) else (if v1 = (27 : Int32) then (some ((1 : Int32), σ0)) else (if v1 = (10 : Int32) then (Option.bind (mldA σ0 68 a1) fun v4 => Option.bind (mldA σ0 36 v4) fun v5 => if v5 = (3 : Int32) then (Option.bind (mldA σ0 68 a1) fun v6 => Option.bind (mldA σ0 47 v6) fun v7 => if v7 = 0 then (f_X12_nodeNeeds_J66 n σ0) else (some ((1 : Int32), σ0))) else (f_X12_nodeNeeds_J66 n σ0)) else (Option.bind (f_X12_groupNeeds n σ0 a1) fun p2 => Option.bind (md_zb (p2.1)) fun z3 => some (z3, p2.2)))))
noncomputable def f_X12_findNeeds_L2 (n : Nat) (j : Nat) : md_S → Int32 → Option (md_S × Int32) :=
  Nat.rec (motive := fun _ => md_S → Int32 → Option (md_S × Int32)) (fun _ _ => none) (fun _ lp => fun (σ : md_S) (l1 : Int32) =>
  if (mI σ 35) ≤ l1 then (some (σ, l1)) else (Option.bind (mstZ σ 47 l1 0) fun σ1 => lp σ1 ((l1 + 1)))) j
noncomputable def f_X12_findNeeds_J74 (n : Nat) (lp : md_S → Int32 → Int32 → Option (md_S × Int32 × Int32)) (σ : md_S) (l1 : Int32) (l2 : Int32) : Option (md_S × Int32 × Int32) :=
  lp σ l1 ((l2 + 1))
noncomputable def f_X12_findNeeds_L33 (n : Nat) (j : Nat) : md_S → Int32 → Int32 → Option (md_S × Int32 × Int32) :=
  Nat.rec (motive := fun _ => md_S → Int32 → Int32 → Option (md_S × Int32 × Int32)) (fun _ _ _ => none) (fun _ lp => fun (σ : md_S) (l1 : Int32) (l2 : Int32) =>
  if (mI σ 65) ≤ l2 then (some (σ, l1, l2)) else (Option.bind (mldA σ 67 l2) fun v3 => Option.bind (mldA σ 47 v3) fun v4 => if v4 = 0 then (Option.bind (f_X12_nodeNeeds n σ l2) fun p5 => if p5.1 = 0 then (f_X12_findNeeds_J74 n lp p5.2 l1 l2) else (Option.bind (mstZ p5.2 47 v3 1) fun σ6 => f_X12_findNeeds_J74 n lp σ6 1 l2)) else (f_X12_findNeeds_J74 n lp σ l1 l2))) j
noncomputable def f_X12_findNeeds_J156 (n : Nat) (l2 : Int32) (lp : md_S → Int32 → Int32 → Option (md_S × Int32 × Int32)) (σ : md_S) (l3 : Int32) (t0 : Int32) : Option (md_S × Int32 × Int32) :=
  lp σ t0 ((l3 + 1))
noncomputable def f_X12_findNeeds_J151 (n : Nat) (l2 : Int32) (lp : md_S → Int32 → Int32 → Option (md_S × Int32 × Int32)) (σ : md_S) (l3 : Int32) : Option (md_S × Int32 × Int32) :=
  f_X12_findNeeds_J156 n l2 lp σ l3 1
noncomputable def f_X12_findNeeds_J137 (n : Nat) (l2 : Int32) (lp : md_S → Int32 → Int32 → Option (md_S × Int32 × Int32)) (σ : md_S) (l1 : Int32) (l3 : Int32) (t0 : Int32) (t1 : Int32) : Option (md_S × Int32 × Int32) :=
  Option.bind (mstZ σ 47 t1 t0) fun σ8 => if l1 = 0 then (Option.bind (mldA σ8 47 l2) fun v9 => if v9 = 0 then (f_X12_findNeeds_J156 n l2 lp σ8 l3 0) else (f_X12_findNeeds_J151 n l2 lp σ8 l3)) else (f_X12_findNeeds_J151 n l2 lp σ8 l3)
noncomputable def f_X12_findNeeds_J136 (n : Nat) (l2 : Int32) (lp : md_S → Int32 → Int32 → Option (md_S × Int32 × Int32)) (σ : md_S) (l1 : Int32) (l3 : Int32) (t0 : Int32) : Option (md_S × Int32 × Int32) :=
  f_X12_findNeeds_J137 n l2 lp σ l1 l3 0 t0
noncomputable def f_X12_findNeeds_L92 (n : Nat) (l2 : Int32) (j : Nat) : md_S → Int32 → Int32 → Option (md_S × Int32 × Int32) :=
  Nat.rec (motive := fun _ => md_S → Int32 → Int32 → Option (md_S × Int32 × Int32)) (fun _ _ _ => none) (fun _ lp => fun (σ : md_S) (l1 : Int32) (l3 : Int32) =>
  if (mI σ 35) ≤ l3 then (some (σ, l1, l3)) else (Option.bind (mldA σ 47 l2) fun v10 => if v10 = 0 then (Option.bind (mldA σ 47 l3) fun v11 => if v11 = 0 then (f_X12_findNeeds_J136 n l2 lp σ l1 l3 l2) else (Option.bind (f_X12_areOfOne n σ l2 l3) fun p12 => if p12.1 = 0 then (f_X12_findNeeds_J136 n l2 lp p12.2 l1 l3 l2) else (f_X12_findNeeds_J137 n l2 lp p12.2 l1 l3 1 l2))) else (some (σ, l1, l3)))) j
noncomputable def f_X12_findNeeds_L82 (n : Nat) (j : Nat) : md_S → Int32 → Int32 → Option (md_S × Int32 × Int32) :=
  Nat.rec (motive := fun _ => md_S → Int32 → Int32 → Option (md_S × Int32 × Int32)) (fun _ _ _ => none) (fun _ lp => fun (σ : md_S) (l1 : Int32) (l2 : Int32) =>
  if (mI σ 35) ≤ l2 then (some (σ, l1, l2)) else (Option.bind (f_X12_findNeeds_L92 n l2 n σ l1 0) fun q13 => lp q13.1 (q13.2.1) ((l2 + 1)))) j
noncomputable def f_X12_findNeeds_L25 (n : Nat) (j : Nat) : md_S → Int32 → Option (md_S × Int32) :=
  Nat.rec (motive := fun _ => md_S → Int32 → Option (md_S × Int32)) (fun _ _ => none) (fun _ lp => fun (σ : md_S) (l1 : Int32) =>
  if l1 = 0 then (some (σ, l1)) else (Option.bind (f_X12_findNeeds_L33 n n σ 0 0) fun q7 => Option.bind (f_X12_findNeeds_L82 n n q7.1 (q7.2.1) 0) fun q14 => lp q14.1 (q14.2.1))) j
noncomputable def f_X12_findNeeds (n : Nat) (σ0 : md_S) : Option (Int32 × md_S) :=
  Option.bind (f_X12_findNeeds_L2 n n σ0 0) fun q2 => Option.bind (f_X12_findNeeds_L25 n n q2.1 1) fun q15 => some ((0 : Int32), q15.1)
noncomputable def f_X12_grant_L47 (n : Nat) (j : Nat) : md_S → Option (md_S) :=
  Nat.rec (motive := fun _ => md_S → Option (md_S)) (fun _ => none) (fun _ lp => fun (σ : md_S) =>
  Option.bind (f_X12_isFine n σ ) fun p5 => if p5.1 = 0 then (some p5.2) else (if (mI p5.2 8) = (1 : Int32) then (Option.bind (f_X12_right n p5.2 ((mI p5.2 20))) fun p6 => Option.bind (f_X12_sign n p6.2 (59 : Int32)) fun p7 => lp p7.2) else (some p5.2))) j
noncomputable def f_X12_grant (n : Nat) (σ0 : md_S) : Option (Int32 × md_S) :=
  if (mI σ0 20) = (8 : Int32) then (Option.bind (f_X12_fails n σ0 (4 : Int32)) fun p11 => some ((0 : Int32), p11.2)) else (Option.bind (f_X12_next n σ0 ) fun p1 => Option.bind (mstA p1.2 23 ((mI p1.2 20)) 0) fun σ2 => Option.bind (f_X12_pattern n σ2 (((8 : Int32) + (mI σ2 20))) (0 : Int32)) fun p3 => Option.bind (f_X12_sign n p3.2 (123 : Int32)) fun p4 => Option.bind (f_X12_grant_L47 n n p4.2) fun q8 => Option.bind (f_X12_sign n q8 (125 : Int32)) fun p9 => Option.bind (some (mSI p9.2 20 (((mI p9.2 20) + 1)))) fun σ10 => some ((0 : Int32), σ10))
noncomputable def f_X12_moduleOf_L2 (n : Nat) (l1 : Int64) (j : Nat) : md_S → Int32 → Option ((Int32 × md_S) ⊕ (md_S × Int32)) :=
  Nat.rec (motive := fun _ => md_S → Int32 → Option ((Int32 × md_S) ⊕ (md_S × Int32))) (fun _ _ => none) (fun _ lp => fun (σ : md_S) (l3 : Int32) =>
  if (mI σ 25) ≤ l3 then (some (Sum.inr (σ, l3))) else (Option.bind (mldL σ 26 l3) fun v1 => if (lg_cmp v1 l1) = 0 then (some (Sum.inl (l3, σ))) else (lp σ ((l3 + 1))))) j
noncomputable def f_X12_moduleOf (n : Nat) (σ0 : md_S) (a1 : Int64) : Option (Int32 × md_S) :=
  Option.bind (f_X12_moduleOf_L2 n a1 n σ0 0) fun q2 => Sum.elim some (fun t2 => some (((-1) : Int32), t2.1)) q2
noncomputable def f_X12_fieldsAbove_L9 (n : Nat) (j : Nat) : md_S → Int32 → Int32 → Option (md_S × Int32 × Int32) :=
  Nat.rec (motive := fun _ => md_S → Int32 → Int32 → Option (md_S × Int32 × Int32)) (fun _ _ _ => none) (fun _ lp => fun (σ : md_S) (l2 : Int32) (l3 : Int32) =>
  if l3 = ((-1) : Int32) then (some (σ, l2, l3)) else (Option.bind (mldA σ 28 l3) fun v2 => Option.bind (mldA σ 27 l3) fun v3 => lp σ ((l2 + v2)) v3)) j
noncomputable def f_X12_fieldsAbove (n : Nat) (σ0 : md_S) (a1 : Int32) : Option (Int32 × md_S) :=
  Option.bind (mldA σ0 27 a1) fun v1 => Option.bind (f_X12_fieldsAbove_L9 n n σ0 0 v1) fun q4 => some (q4.2.1, q4.1)
noncomputable def f_X12_fieldOf_L12 (n : Nat) (l2 : Int64) (l4 : Int32) (j : Nat) : md_S → Int32 → Option ((Int32 × md_S) ⊕ (md_S × Int32)) :=
  Nat.rec (motive := fun _ => md_S → Int32 → Option ((Int32 × md_S) ⊕ (md_S × Int32))) (fun _ _ => none) (fun _ lp => fun (σ : md_S) (l5 : Int32) =>
  Option.bind (mldA σ 28 l4) fun v1 => if v1 ≤ l5 then (some (Sum.inr (σ, l5))) else (Option.bind (mldL σ 29 ((((4 : Int32) * l4) + l5))) fun v2 => if (lg_cmp v2 l2) = 0 then (Option.bind (f_X12_fieldsAbove n σ l4) fun p3 => some (Sum.inl ((p3.1 + l5), p3.2))) else (lp σ ((l5 + 1))))) j
noncomputable def f_X12_fieldOf_L3 (n : Nat) (l2 : Int64) (j : Nat) : md_S → Int32 → Option ((Int32 × md_S) ⊕ (md_S × Int32)) :=
  Nat.rec (motive := fun _ => md_S → Int32 → Option ((Int32 × md_S) ⊕ (md_S × Int32))) (fun _ _ => none) (fun _ lp => fun (σ : md_S) (l4 : Int32) =>
  if l4 = ((-1) : Int32) then (some (Sum.inr (σ, l4))) else (Option.bind (f_X12_fieldOf_L12 n l2 l4 n σ 0) fun q4 => Sum.elim (fun r => some (Sum.inl r)) (fun t4 => Option.bind (mldA t4.1 27 l4) fun v5 => lp t4.1 v5) q4)) j
noncomputable def f_X12_fieldOf (n : Nat) (σ0 : md_S) (a1 : Int32) (a2 : Int64) : Option (Int32 × md_S) :=
  Option.bind (f_X12_fieldOf_L3 n a2 n σ0 a1) fun q6 => Sum.elim some (fun t6 => some (((-1) : Int32), t6.1)) q6
noncomputable def f_X12_readField (n : Nat) (σ0 : md_S) (a1 : Int32) : Option (Int32 × md_S) :=
  Option.bind (f_X12_isName n σ0 ) fun p1 => if p1.1 = 0 then (some ((0 : Int32), p1.2)) else (Option.bind (mldA p1.2 28 a1) fun v2 => if v2 = (4 : Int32) then (Option.bind (f_X12_fails n p1.2 (4 : Int32)) fun p10 => some ((0 : Int32), p10.2)) else (Option.bind (f_X12_fieldOf n p1.2 a1 ((mJ p1.2 12))) fun p3 => if p3.1 = ((-1) : Int32) then (Option.bind (mldA p3.2 28 a1) fun v4 => Option.bind (mstL p3.2 29 ((((4 : Int32) * a1) + v4)) ((mJ p3.2 12))) fun σ5 => Option.bind (mldA σ5 28 a1) fun v6 => Option.bind (mstA σ5 28 a1 ((v6 + 1))) fun σ7 => Option.bind (f_X12_next n σ7 ) fun p8 => some ((0 : Int32), p8.2)) else (Option.bind (f_X12_fails n p3.2 (2 : Int32)) fun p9 => some ((0 : Int32), p9.2))))
noncomputable def f_X12_beginsPrefix_J175 (n : Nat) (σ : md_S) : Option (Int32 × md_S) :=
  some ((1 : Int32), σ)
noncomputable def f_X12_beginsPrefix_J44 (n : Nat) (σ : md_S) : Option (Int32 × md_S) :=
  some ((1 : Int32), σ)
noncomputable def f_X12_beginsPrefix (n : Nat) (σ0 : md_S) : Option (Int32 × md_S) :=
  if (mI σ0 8) = (1 : Int32) then (some ((1 : Int32), σ0)) else (if (mI σ0 8) = (3 : Int32) then (some ((1 : Int32), σ0)) else (if (mI σ0 8) = (5 : Int32) then (if (mI σ0 11) = (123 : Int32) then (f_X12_beginsPrefix_J44 n σ0) else (if (mI σ0 11) = (40 : Int32) then (f_X12_beginsPrefix_J44 n σ0) else (some ((0 : Int32), σ0)))) else (if (mI σ0 8) = (2 : Int32) then (if (mI σ0 11) = (10 : Int32) then (f_X12_beginsPrefix_J175 n σ0) else (if (mI σ0 11) = (11 : Int32) then (f_X12_beginsPrefix_J175 n σ0) else (if (mI σ0 11) = (12 : Int32) then (f_X12_beginsPrefix_J175 n σ0) else (if (mI σ0 11) = (13 : Int32) then (f_X12_beginsPrefix_J175 n σ0) else (if (mI σ0 11) = (14 : Int32) then (f_X12_beginsPrefix_J175 n σ0) else (if (mI σ0 11) = (15 : Int32) then (f_X12_beginsPrefix_J175 n σ0) else (if (mI σ0 11) = (16 : Int32) then (f_X12_beginsPrefix_J175 n σ0) else (if (mI σ0 11) = (17 : Int32) then (f_X12_beginsPrefix_J175 n σ0) else (if (mI σ0 11) = (18 : Int32) then (f_X12_beginsPrefix_J175 n σ0) else (if (mI σ0 11) = (19 : Int32) then (f_X12_beginsPrefix_J175 n σ0) else (if (mI σ0 11) = (20 : Int32) then (f_X12_beginsPrefix_J175 n σ0) else (if (mI σ0 11) = (21 : Int32) then (f_X12_beginsPrefix_J175 n σ0) else (if (mI σ0 11) = (22 : Int32) then (f_X12_beginsPrefix_J175 n σ0) else (some ((0 : Int32), σ0))))))))))))))) else (some ((0 : Int32), σ0)))))
noncomputable def f_X12_beginsE_J40 (n : Nat) (σ : md_S) : Option (Int32 × md_S) :=
  some ((1 : Int32), σ)
noncomputable def f_X12_beginsE (n : Nat) (σ0 : md_S) : Option (Int32 × md_S) :=
  Option.bind (f_X12_beginsPrefix n σ0 ) fun p1 => if p1.1 = 0 then (if (mI p1.2 8) = (2 : Int32) then (if (mI p1.2 11) = (3 : Int32) then (f_X12_beginsE_J40 n p1.2) else (if (mI p1.2 11) = (5 : Int32) then (f_X12_beginsE_J40 n p1.2) else (if (mI p1.2 11) = (8 : Int32) then (f_X12_beginsE_J40 n p1.2) else (some ((0 : Int32), p1.2))))) else (some ((0 : Int32), p1.2))) else (f_X12_beginsE_J40 n p1.2)
noncomputable def f_X12_deeper (n : Nat) (σ0 : md_S) (a1 : Int32) : Option (Int32 × md_S) :=
  Option.bind (f_X12_isFine n σ0 ) fun p1 => if p1.1 = 0 then (some ((0 : Int32), p1.2)) else (if a1 = 0 then (Option.bind (f_X12_misfit n p1.2 ) fun p4 => some ((0 : Int32), p4.2)) else (if (mI p1.2 63) = (24 : Int32) then (Option.bind (f_X12_fails n p1.2 (4 : Int32)) fun p3 => some ((0 : Int32), p3.2)) else (Option.bind (some (mSI p1.2 63 (((mI p1.2 63) + 1)))) fun σ2 => some ((1 : Int32), σ2))))
noncomputable def f_X12_countsPart_J22 (n : Nat) (σ : md_S) : Option (Int32 × md_S) :=
  Option.bind (some (mSI σ 62 (((mI σ 62) + 1)))) fun σ1 => Option.bind (f_X12_isFine n σ1 ) fun p2 => Option.bind (md_zb (p2.1)) fun z3 => some (z3, p2.2)
noncomputable def f_X12_countsPart (n : Nat) (σ0 : md_S) : Option (Int32 × md_S) :=
  Option.bind (f_X12_isFine n σ0 ) fun p4 => if p4.1 = 0 then (f_X12_countsPart_J22 n p4.2) else (if (mI p4.2 62) = (400 : Int32) then (Option.bind (f_X12_fails n p4.2 (4 : Int32)) fun p5 => f_X12_countsPart_J22 n p5.2) else (f_X12_countsPart_J22 n p4.2))
noncomputable def f_X12_ifE (n : Nat) (rec : md_R) (σ0 : md_S) : Option (Int32 × md_S) :=
  Option.bind (f_X12_countsPart n σ0 ) fun p1 => if p1.1 = 0 then (some ((0 : Int32), p1.2)) else (Option.bind (f_X12_node n p1.2 (41 : Int32) (0 : Int32) (0 : Int32)) fun p2 => Option.bind (f_X12_next n p2.2 ) fun p3 => Option.bind (rec 0 0 0 0 p3.2) fun p4 => Option.bind (f_X12_gets n p4.2 (p2.1) (p4.1)) fun p5 => Option.bind (f_X12_key n p5.2 (6 : Int32)) fun p6 => Option.bind (rec 0 0 0 0 p6.2) fun p7 => Option.bind (f_X12_gets n p7.2 (p2.1) (p7.1)) fun p8 => Option.bind (f_X12_key n p8.2 (7 : Int32)) fun p9 => Option.bind (rec 0 0 0 0 p9.2) fun p10 => Option.bind (f_X12_gets n p10.2 (p2.1) (p10.1)) fun p11 => some (p2.1, p11.2))
noncomputable def f_X12_around (n : Nat) (rec : md_R) (σ0 : md_S) (a1 : Int32) (a2 : Int32) : Option (Int32 × md_S) :=
  Option.bind (f_X12_isFine n σ0 ) fun p1 => if p1.1 = 0 then (some ((0 : Int32), p1.2)) else (Option.bind (mstA p1.2 57 ((mI p1.2 56)) a1) fun σ2 => Option.bind (some (mSI σ2 56 (((mI σ2 56) + 1)))) fun σ3 => Option.bind (rec 0 0 0 0 σ3) fun p4 => Option.bind (f_X12_gets n p4.2 a2 (p4.1)) fun p5 => Option.bind (some (mSI p5.2 56 (((mI p5.2 56) - 1)))) fun σ6 => some ((0 : Int32), σ6))
noncomputable def f_X12_newVariable (n : Nat) (σ0 : md_S) (a1 : Int32) (a2 : Int64) (a4 : Int32) (a5 : Int32) : Option (Int32 × md_S) :=
  Option.bind (some (mSI σ0 50 (((mI σ0 50) + 1)))) fun σ1 => Option.bind (mstA σ1 51 ((mI σ0 50)) a1) fun σ2 => Option.bind (mstL σ2 52 ((mI σ0 50)) a2) fun σ3 => Option.bind (mstA σ3 53 ((mI σ0 50)) a4) fun σ4 => Option.bind (mstZ σ4 54 ((mI σ0 50)) a5) fun σ5 => some ((mI σ0 50), σ5)
noncomputable def f_X12_binds (n : Nat) (σ0 : md_S) (a1 : Int32) : Option (Int32 × md_S) :=
  Option.bind (f_X12_isName n σ0 ) fun p1 => if p1.1 = 0 then (some ((0 : Int32), p1.2)) else (if (mI p1.2 56) = (12 : Int32) then (Option.bind (f_X12_fails n p1.2 (4 : Int32)) fun p5 => some ((0 : Int32), p5.2)) else (Option.bind (f_X12_newVariable n p1.2 ((mI p1.2 64)) ((mJ p1.2 12)) a1 (1 : Int32)) fun p2 => Option.bind (some (mSI p2.2 73 (p2.1))) fun σ3 => Option.bind (f_X12_next n σ3 ) fun p4 => some ((0 : Int32), p4.2)))
noncomputable def f_X12_letE (n : Nat) (rec : md_R) (σ0 : md_S) : Option (Int32 × md_S) :=
  Option.bind (f_X12_countsPart n σ0 ) fun p1 => if p1.1 = 0 then (some ((0 : Int32), p1.2)) else (Option.bind (f_X12_node n p1.2 (40 : Int32) (0 : Int32) (0 : Int32)) fun p2 => Option.bind (mldA p2.2 46 ((mI p2.2 64))) fun v3 => Option.bind (mldA p2.2 46 ((mI p2.2 64))) fun v4 => Option.bind (mstA p2.2 46 ((mI p2.2 64)) ((v4 + 1))) fun σ5 => Option.bind (f_X12_next n σ5 ) fun p6 => Option.bind (f_X12_binds n p6.2 v3) fun p7 => Option.bind (mstA p7.2 68 (p2.1) ((mI p7.2 73))) fun σ8 => Option.bind (f_X12_sign n σ8 (61 : Int32)) fun p9 => Option.bind (rec 0 0 0 0 p9.2) fun p10 => Option.bind (f_X12_gets n p10.2 (p2.1) (p10.1)) fun p11 => Option.bind (f_X12_key n p11.2 (4 : Int32)) fun p12 => Option.bind (rec 7 ((mI p7.2 73)) (p2.1) 0 p12.2) fun p13 => some (p2.1, p13.2))
noncomputable def f_X12_operation (n : Nat) (σ0 : md_S) (a1 : Int32) (a2 : Int32) : Option (Int32 × md_S) :=
  Option.bind (f_X12_countsPart n σ0 ) fun p1 => if p1.1 = 0 then (some ((0 : Int32), p1.2)) else (Option.bind (f_X12_node n p1.2 a1 (0 : Int32) (0 : Int32)) fun p2 => Option.bind (f_X12_gets n p2.2 (p2.1) a2) fun p3 => Option.bind (f_X12_next n p3.2 ) fun p4 => some (p2.1, p4.2))
noncomputable def f_X12_innerPrefix (n : Nat) (rec : md_R) (σ0 : md_S) : Option (Int32 × md_S) :=
  Option.bind (f_X12_beginsPrefix n σ0 ) fun p1 => Option.bind (f_X12_deeper n p1.2 (p1.1)) fun p2 => if p2.1 = 0 then (some ((0 : Int32), p2.2)) else (Option.bind (rec 10 0 0 0 p2.2) fun p3 => Option.bind (some (mSI p3.2 63 (((mI p3.2 63) - 1)))) fun σ4 => some (p3.1, σ4))
noncomputable def f_X12_arguments_L25 (n : Nat) (rec : md_R) (l1 : Int32) (j : Nat) : md_S → Int32 → Int32 → Option ((Int32 × md_S) ⊕ (md_S × Int32 × Int32)) :=
  Nat.rec (motive := fun _ => md_S → Int32 → Int32 → Option ((Int32 × md_S) ⊕ (md_S × Int32 × Int32))) (fun _ _ _ => none) (fun _ lp => fun (σ : md_S) (l2 : Int32) (l3 : Int32) =>
  if l3 = 0 then (some (Sum.inr (σ, l2, l3))) else (Option.bind (f_X12_isFine n σ ) fun p3 => if p3.1 = 0 then (some (Sum.inr (p3.2, l2, l3))) else (if l2 = (3 : Int32) then (Option.bind (f_X12_beginsE n p3.2 ) fun p8 => if p8.1 = 0 then (Option.bind (f_X12_misfit n p8.2 ) fun p9 => some (Sum.inl (l2, p9.2))) else (Option.bind (f_X12_fails n p8.2 (4 : Int32)) fun p10 => some (Sum.inl (l2, p10.2)))) else (Option.bind (rec 0 0 0 0 p3.2) fun p4 => Option.bind (f_X12_gets n p4.2 l1 (p4.1)) fun p5 => Option.bind (f_X12_isSign n p5.2 (44 : Int32)) fun p6 => if p6.1 = 0 then (lp p6.2 ((l2 + 1)) (p6.1)) else (Option.bind (f_X12_next n p6.2 ) fun p7 => lp p7.2 ((l2 + 1)) (p6.1)))))) j
noncomputable def f_X12_arguments (n : Nat) (rec : md_R) (σ0 : md_S) (a1 : Int32) : Option (Int32 × md_S) :=
  Option.bind (f_X12_sign n σ0 (40 : Int32)) fun p1 => Option.bind (f_X12_isSign n p1.2 (41 : Int32)) fun p2 => if p2.1 = 0 then (Option.bind (f_X12_arguments_L25 n rec a1 n p2.2 0 1) fun q11 => Sum.elim some (fun t11 => Option.bind (f_X12_sign n t11.1 (41 : Int32)) fun p12 => some (t11.2.1, p12.2)) q11) else (Option.bind (f_X12_next n p2.2 ) fun p13 => some ((0 : Int32), p13.2))
noncomputable def f_X12_asking_J57 (n : Nat) (rec : md_R) (σ : md_S) (l1 : Int32) (t0 : Int32) : Option (Int32 × md_S) :=
  Option.bind (f_X12_node n σ t0 l1 (0 : Int32)) fun p1 => Option.bind (f_X12_next n p1.2 ) fun p2 => Option.bind (f_X12_isName n p2.2 ) fun p3 => if p3.1 = 0 then (some (p1.1, p3.2)) else (Option.bind (mstL p3.2 49 l1 ((mJ p3.2 12))) fun σ4 => Option.bind (mstZ σ4 136 l1 0) fun σ5 => Option.bind (f_X12_next n σ5 ) fun p6 => Option.bind (f_X12_pattern n p6.2 (((240 : Int32) + l1)) (1 : Int32)) fun p7 => Option.bind (f_X12_isSign n p7.2 (91 : Int32)) fun p8 => if p8.1 = 0 then (some (p1.1, p8.2)) else (Option.bind (mstZ p8.2 136 l1 1) fun σ9 => Option.bind (f_X12_next n σ9 ) fun p10 => Option.bind (rec 0 0 0 0 p10.2) fun p11 => Option.bind (f_X12_gets n p11.2 (p1.1) (p11.1)) fun p12 => Option.bind (f_X12_sign n p12.2 (93 : Int32)) fun p13 => some (p1.1, p13.2)))
noncomputable def f_X12_asking (n : Nat) (rec : md_R) (σ0 : md_S) : Option (Int32 × md_S) :=
  Option.bind (f_X12_countsPart n σ0 ) fun p14 => if p14.1 = 0 then (some ((0 : Int32), p14.2)) else (if (mI p14.2 48) = (24 : Int32) then (Option.bind (f_X12_fails n p14.2 (4 : Int32)) fun p16 => some ((0 : Int32), p16.2)) else (Option.bind (some (mSI p14.2 48 (((mI p14.2 48) + 1)))) fun σ15 => if (mI σ15 11) = (17 : Int32) then (f_X12_asking_J57 n rec σ15 ((mI p14.2 48)) 25) else (f_X12_asking_J57 n rec σ15 ((mI p14.2 48)) 26)))
noncomputable def f_X12_newUnit (n : Nat) (σ0 : md_S) (a1 : Int32) (a2 : Int32) (a3 : Int32) : Option (Int32 × md_S) :=
  Option.bind (f_X12_isFine n σ0 ) fun p1 => if p1.1 = 0 then (some ((0 : Int32), p1.2)) else (if (mI p1.2 35) = (60 : Int32) then (Option.bind (f_X12_fails n p1.2 (4 : Int32)) fun p13 => some ((0 : Int32), p13.2)) else (Option.bind (some (mSI p1.2 35 (((mI p1.2 35) + 1)))) fun σ2 => Option.bind (mstA σ2 36 ((mI p1.2 35)) a1) fun σ3 => Option.bind (mstA σ3 37 ((mI p1.2 35)) a2) fun σ4 => Option.bind (mstA σ4 38 ((mI p1.2 35)) ((mI σ4 9))) fun σ5 => Option.bind (mstA σ5 39 ((mI p1.2 35)) 0) fun σ6 => Option.bind (mstA σ6 40 ((mI p1.2 35)) a3) fun σ7 => Option.bind (mstA σ7 44 ((mI p1.2 35)) 0) fun σ8 => Option.bind (mstA σ8 46 ((mI p1.2 35)) 0) fun σ9 => Option.bind (mstA σ9 42 ((mI p1.2 35)) ((-1))) fun σ10 => Option.bind (mstA σ10 55 ((mI p1.2 35)) ((-1))) fun σ11 => Option.bind (mstL σ11 43 ((mI p1.2 35)) ((mJ σ11 12))) fun σ12 => some ((mI p1.2 35), σ12)))
noncomputable def f_X12_parameters_J62 (n : Nat) (l1 : Int32) (l2 : Int32) (l3 : Int32) (lp : md_S → Int32 → Option ((Int32 × md_S) ⊕ (md_S × Int32))) (σ : md_S) : Option ((Int32 × md_S) ⊕ (md_S × Int32)) :=
  Option.bind (f_X12_fails n σ (4 : Int32)) fun p4 => some (Sum.inl ((0 : Int32), p4.2))
noncomputable def f_X12_parameters_L71 (n : Nat) (l1 : Int32) (l2 : Int32) (l3 : Int32) (j : Nat) : md_S → Int32 → Option ((Int32 × md_S) ⊕ (md_S × Int32)) :=
  Nat.rec (motive := fun _ => md_S → Int32 → Option ((Int32 × md_S) ⊕ (md_S × Int32))) (fun _ _ => none) (fun _ lp => fun (σ : md_S) (l5 : Int32) =>
  if (mI σ 56) ≤ l5 then (some (Sum.inr (σ, l5))) else (Option.bind (mldA σ 57 l5) fun v7 => Option.bind (mldL σ 52 v7) fun v8 => if (lg_cmp v8 (mJ σ 12)) = 0 then (Option.bind (f_X12_fails n σ (2 : Int32)) fun p9 => some (Sum.inl ((0 : Int32), p9.2))) else (lp σ ((l5 + 1))))) j
noncomputable def f_X12_parameters_L31 (n : Nat) (l1 : Int32) (l2 : Int32) (l3 : Int32) (j : Nat) : md_S → Int32 → Option ((Int32 × md_S) ⊕ (md_S × Int32)) :=
  Nat.rec (motive := fun _ => md_S → Int32 → Option ((Int32 × md_S) ⊕ (md_S × Int32))) (fun _ _ => none) (fun _ lp => fun (σ : md_S) (l4 : Int32) =>
  if l4 = 0 then (some (Sum.inr (σ, l4))) else (Option.bind (f_X12_isName n σ ) fun p5 => if p5.1 = 0 then (some (Sum.inr (p5.2, l4))) else (Option.bind (mldA p5.2 39 l1) fun v6 => if v6 = (3 : Int32) then (f_X12_parameters_J62 n l1 l2 l3 lp p5.2) else (if (mI p5.2 56) = (12 : Int32) then (f_X12_parameters_J62 n l1 l2 l3 lp p5.2) else (Option.bind (f_X12_parameters_L71 n l1 l2 l3 n p5.2 l3) fun q10 => Sum.elim (fun r => some (Sum.inl r)) (fun t10 => Option.bind (mldA t10.1 39 l1) fun v11 => Option.bind (f_X12_newVariable n t10.1 l1 ((mJ t10.1 12)) ((l2 + v11)) (0 : Int32)) fun p12 => Option.bind (mstA p12.2 57 ((mI t10.1 56)) (p12.1)) fun σ13 => Option.bind (some (mSI σ13 56 (((mI σ13 56) + 1)))) fun σ14 => Option.bind (mldA σ14 39 l1) fun v15 => Option.bind (mstA σ14 39 l1 ((v15 + 1))) fun σ16 => Option.bind (f_X12_next n σ16 ) fun p17 => Option.bind (f_X12_isSign n p17.2 (44 : Int32)) fun p18 => if p18.1 = 0 then (lp p18.2 (p18.1)) else (Option.bind (f_X12_next n p18.2 ) fun p19 => lp p19.2 (p18.1))) q10))))) j
noncomputable def f_X12_parameters (n : Nat) (σ0 : md_S) (a1 : Int32) (a2 : Int32) : Option (Int32 × md_S) :=
  Option.bind (f_X12_sign n σ0 (40 : Int32)) fun p1 => Option.bind (f_X12_isFine n p1.2 ) fun p2 => if p2.1 = 0 then (some ((0 : Int32), p2.2)) else (Option.bind (f_X12_isSign n p2.2 (41 : Int32)) fun p3 => if p3.1 = 0 then (Option.bind (f_X12_parameters_L31 n a1 a2 ((mI p1.2 56)) n p3.2 1) fun q20 => Sum.elim some (fun t20 => some ((0 : Int32), t20.1)) q20) else (some ((0 : Int32), p3.2)))
noncomputable def f_X12_row_L43 (n : Nat) (rec : md_R) (l2 : Int32) (j : Nat) : md_S → Option (md_S) :=
  Nat.rec (motive := fun _ => md_S → Option (md_S)) (fun _ => none) (fun _ lp => fun (σ : md_S) =>
  Option.bind (f_X12_isSign n σ (59 : Int32)) fun p6 => if p6.1 = 0 then (some p6.2) else (Option.bind (f_X12_countsPart n p6.2 ) fun p7 => if p7.1 = 0 then (some p7.2) else (Option.bind (f_X12_next n p7.2 ) fun p8 => Option.bind (rec 0 0 0 0 p8.2) fun p9 => Option.bind (f_X12_gets n p9.2 l2 (p9.1)) fun p10 => lp p10.2))) j
noncomputable def f_X12_row (n : Nat) (rec : md_R) (σ0 : md_S) : Option (Int32 × md_S) :=
  Option.bind (f_X12_sign n σ0 (123 : Int32)) fun p1 => Option.bind (rec 0 0 0 0 p1.2) fun p2 => Option.bind (f_X12_isSign n p2.2 (59 : Int32)) fun p3 => if p3.1 = 0 then (Option.bind (f_X12_sign n p3.2 (125 : Int32)) fun p13 => some (p2.1, p13.2)) else (Option.bind (f_X12_node n p3.2 (42 : Int32) (0 : Int32) (0 : Int32)) fun p4 => Option.bind (f_X12_gets n p4.2 (p4.1) (p2.1)) fun p5 => Option.bind (f_X12_row_L43 n rec (p4.1) n p5.2) fun q11 => Option.bind (f_X12_sign n q11 (125 : Int32)) fun p12 => some (p4.1, p12.2))
noncomputable def f_X12_fun_J78 (n : Nat) (rec : md_R) (σ : md_S) (l1 : Int32) (l2 : Int32) (l3 : Int32) : Option (Int32 × md_S) :=
  Option.bind (f_X12_isFine n σ ) fun p1 => if p1.1 = 0 then (some (l2, p1.2)) else (Option.bind (some (mSI p1.2 64 l1)) fun σ2 => Option.bind (rec 19 0 0 0 σ2) fun p3 => Option.bind (mstA p3.2 41 l1 (p3.1)) fun σ4 => Option.bind (some (mSI σ4 64 ((mI p1.2 64)))) fun σ5 => Option.bind (some (mSI σ5 56 l3)) fun σ6 => some (l2, σ6))
noncomputable def f_X12_fun (n : Nat) (rec : md_R) (σ0 : md_S) : Option (Int32 × md_S) :=
  Option.bind (f_X12_countsPart n σ0 ) fun p7 => if p7.1 = 0 then (some ((0 : Int32), p7.2)) else (Option.bind (mldA p7.2 37 ((mI p7.2 64))) fun v8 => Option.bind (f_X12_newUnit n p7.2 (1 : Int32) v8 ((mI p7.2 64))) fun p9 => Option.bind (f_X12_node n p9.2 (9 : Int32) (p9.1) (0 : Int32)) fun p10 => Option.bind (f_X12_next n p10.2 ) fun p11 => Option.bind (f_X12_parameters n p11.2 (p9.1) (0 : Int32)) fun p12 => Option.bind (f_X12_sign n p12.2 (41 : Int32)) fun p13 => Option.bind (f_X12_isFine n p13.2 ) fun p14 => if p14.1 = 0 then (f_X12_fun_J78 n rec p14.2 (p9.1) (p10.1) ((mI p11.2 56))) else (Option.bind (f_X12_isSign n p14.2 (123 : Int32)) fun p15 => if p15.1 = 0 then (Option.bind (f_X12_misfit n p15.2 ) fun p16 => f_X12_fun_J78 n rec p16.2 (p9.1) (p10.1) ((mI p11.2 56))) else (f_X12_fun_J78 n rec p15.2 (p9.1) (p10.1) ((mI p11.2 56)))))
noncomputable def f_X12_newAtom (n : Nat) (σ0 : md_S) : Option (Int32 × md_S) :=
  Option.bind (f_X12_countsPart n σ0 ) fun p1 => if p1.1 = 0 then (some ((0 : Int32), p1.2)) else (Option.bind (f_X12_next n p1.2 ) fun p2 => Option.bind (f_X12_isName n p2.2 ) fun p3 => if p3.1 = 0 then (some ((0 : Int32), p3.2)) else (Option.bind (f_X12_moduleOf n p3.2 ((mJ p3.2 12))) fun p4 => if p4.1 = ((-1) : Int32) then (Option.bind (f_X12_fails n p4.2 (3 : Int32)) fun p7 => some ((0 : Int32), p7.2)) else (Option.bind (f_X12_node n p4.2 (4 : Int32) (p4.1) (0 : Int32)) fun p5 => Option.bind (f_X12_next n p5.2 ) fun p6 => some (p5.1, p6.2))))
noncomputable def f_X12_captures_J94 (n : Nat) (l1 : Int32) (lp : md_S → Int32 → Option (md_S × Int32)) (σ : md_S) (l2 : Int32) : Option (md_S × Int32) :=
  Option.bind (mldA σ 40 l2) fun v1 => lp σ v1
noncomputable def f_X12_captures_J56 (n : Nat) (l1 : Int32) (l2 : Int32) (lp : md_S → Int32 → Int32 → Option (md_S × Int32 × Int32)) (σ : md_S) (l4 : Int32) (t0 : Int32) : Option (md_S × Int32 × Int32) :=
  lp σ t0 ((l4 + 1))
noncomputable def f_X12_captures_J51 (n : Nat) (l1 : Int32) (l2 : Int32) (lp : md_S → Int32 → Int32 → Option (md_S × Int32 × Int32)) (σ : md_S) (l4 : Int32) : Option (md_S × Int32 × Int32) :=
  f_X12_captures_J56 n l1 l2 lp σ l4 1
noncomputable def f_X12_captures_L20 (n : Nat) (l1 : Int32) (l2 : Int32) (j : Nat) : md_S → Int32 → Int32 → Option (md_S × Int32 × Int32) :=
  Nat.rec (motive := fun _ => md_S → Int32 → Int32 → Option (md_S × Int32 × Int32)) (fun _ _ _ => none) (fun _ lp => fun (σ : md_S) (l3 : Int32) (l4 : Int32) =>
  Option.bind (mldA σ 44 l2) fun v3 => if v3 ≤ l4 then (some (σ, l3, l4)) else (if l3 = 0 then (Option.bind (mldA σ 45 ((((16 : Int32) * l2) + l4))) fun v4 => if v4 = l1 then (f_X12_captures_J51 n l1 l2 lp σ l4) else (f_X12_captures_J56 n l1 l2 lp σ l4 0)) else (f_X12_captures_J51 n l1 l2 lp σ l4))) j
noncomputable def f_X12_captures_L5 (n : Nat) (l1 : Int32) (j : Nat) : md_S → Int32 → Option (md_S × Int32) :=
  Nat.rec (motive := fun _ => md_S → Int32 → Option (md_S × Int32)) (fun _ _ => none) (fun _ lp => fun (σ : md_S) (l2 : Int32) =>
  Option.bind (mldA σ 51 l1) fun v2 => if l2 = v2 then (some (σ, l2)) else (Option.bind (f_X12_captures_L20 n l1 l2 n σ 0 0) fun q5 => if q5.2.1 = 0 then (Option.bind (mldA q5.1 44 l2) fun v6 => Option.bind (mstA q5.1 45 ((((16 : Int32) * l2) + v6)) l1) fun σ7 => Option.bind (mldA σ7 44 l2) fun v8 => Option.bind (mstA σ7 44 l2 ((v8 + 1))) fun σ9 => f_X12_captures_J94 n l1 lp σ9 l2) else (f_X12_captures_J94 n l1 lp q5.1 l2))) j
noncomputable def f_X12_captures (n : Nat) (σ0 : md_S) (a1 : Int32) : Option (Int32 × md_S) :=
  Option.bind (f_X12_captures_L5 n a1 n σ0 ((mI σ0 64))) fun q10 => some ((0 : Int32), q10.1)
noncomputable def f_X12_simple (n : Nat) (σ0 : md_S) (a1 : Int32) (a2 : Int32) (a3 : Int32) : Option (Int32 × md_S) :=
  Option.bind (f_X12_countsPart n σ0 ) fun p1 => if p1.1 = 0 then (some ((0 : Int32), p1.2)) else (Option.bind (f_X12_node n p1.2 a1 a2 a3) fun p2 => Option.bind (f_X12_next n p2.2 ) fun p3 => some (p2.1, p3.2))
noncomputable def f_X12_selfAtom_L5 (n : Nat) (j : Nat) : md_S → Int32 → Option (md_S × Int32) :=
  Nat.rec (motive := fun _ => md_S → Int32 → Option (md_S × Int32)) (fun _ _ => none) (fun _ lp => fun (σ : md_S) (l1 : Int32) =>
  Option.bind (mldA σ 40 l1) fun v1 => if v1 = ((-1) : Int32) then (some (σ, l1)) else (Option.bind (mldA σ 40 l1) fun v2 => lp σ v2)) j
noncomputable def f_X12_selfAtom (n : Nat) (σ0 : md_S) : Option (Int32 × md_S) :=
  Option.bind (f_X12_selfAtom_L5 n n σ0 ((mI σ0 64))) fun q3 => if (mI q3.1 62) = (400 : Int32) then (Option.bind (f_X12_fails n q3.1 (4 : Int32)) fun p8 => some ((0 : Int32), p8.2)) else (Option.bind (mldA q3.1 55 (q3.2)) fun v4 => Option.bind (f_X12_captures n q3.1 v4) fun p5 => Option.bind (mldA p5.2 55 (q3.2)) fun v6 => Option.bind (f_X12_simple n p5.2 (2 : Int32) v6 (0 : Int32)) fun p7 => some (p7.1, p7.2))
noncomputable def f_X12_numberOf_L2 (n : Nat) (l1 : Int32) (j : Nat) : md_S → Int32 → Option ((Int32 × md_S) ⊕ (md_S × Int32)) :=
  Nat.rec (motive := fun _ => md_S → Int32 → Option ((Int32 × md_S) ⊕ (md_S × Int32))) (fun _ _ => none) (fun _ lp => fun (σ : md_S) (l2 : Int32) =>
  if (mI σ 58) ≤ l2 then (some (Sum.inr (σ, l2))) else (Option.bind (mldA σ 59 l2) fun v1 => if v1 = l1 then (some (Sum.inl (l2, σ))) else (lp σ ((l2 + 1))))) j
noncomputable def f_X12_numberOf (n : Nat) (σ0 : md_S) (a1 : Int32) : Option (Int32 × md_S) :=
  Option.bind (f_X12_numberOf_L2 n a1 n σ0 0) fun q2 => Sum.elim some (fun t2 => Option.bind (mstA t2.1 59 ((mI t2.1 58)) a1) fun σ3 => Option.bind (some (mSI σ3 58 (((mI σ3 58) + 1)))) fun σ4 => some (((mI σ4 58) - 1), σ4)) q2
noncomputable def f_X12_simpleNumber (n : Nat) (σ0 : md_S) : Option (Int32 × md_S) :=
  Option.bind (f_X12_numberOf n σ0 ((mI σ0 11))) fun p1 => Option.bind (f_X12_node n p1.2 (0 : Int32) (p1.1) (0 : Int32)) fun p2 => Option.bind (f_X12_next n p2.2 ) fun p3 => some (p2.1, p3.2)
noncomputable def f_X12_variable_J47 (n : Nat) (lp : md_S → Int32 → Int32 → Option (md_S × Int32 × Int32)) (σ : md_S) (l2 : Int32) (t0 : Int32) : Option (md_S × Int32 × Int32) :=
  lp σ t0 ((l2 + (-1)))
noncomputable def f_X12_variable_L9 (n : Nat) (j : Nat) : md_S → Int32 → Int32 → Option (md_S × Int32 × Int32) :=
  Nat.rec (motive := fun _ => md_S → Int32 → Int32 → Option (md_S × Int32 × Int32)) (fun _ _ _ => none) (fun _ lp => fun (σ : md_S) (l1 : Int32) (l2 : Int32) =>
  if l2 < 0 then (some (σ, l1, l2)) else (if l1 = ((-1) : Int32) then (Option.bind (mldA σ 57 l2) fun v1 => Option.bind (mldL σ 52 v1) fun v2 => if (lg_cmp v2 (mJ σ 12)) = 0 then (Option.bind (mldA σ 57 l2) fun v3 => f_X12_variable_J47 n lp σ l2 v3) else (f_X12_variable_J47 n lp σ l2 ((-1)))) else (some (σ, l1, l2)))) j
noncomputable def f_X12_variable (n : Nat) (σ0 : md_S) : Option (Int32 × md_S) :=
  Option.bind (f_X12_variable_L9 n n σ0 ((-1)) (((mI σ0 56) - 1))) fun q4 => if (mI q4.1 62) = (400 : Int32) then (Option.bind (f_X12_fails n q4.1 (4 : Int32)) fun p8 => some ((0 : Int32), p8.2)) else (if q4.2.1 = ((-1) : Int32) then (Option.bind (f_X12_fails n q4.1 (3 : Int32)) fun p7 => some ((0 : Int32), p7.2)) else (Option.bind (f_X12_captures n q4.1 (q4.2.1)) fun p5 => Option.bind (f_X12_simple n p5.2 (2 : Int32) (q4.2.1) (0 : Int32)) fun p6 => some (p6.1, p6.2)))
noncomputable def f_X12_atom_J130 (n : Nat) (rec : md_R) (σ : md_S) : Option (Int32 × md_S) :=
  Option.bind (rec 20 0 0 0 σ) fun p1 => some (p1.1, p1.2)
noncomputable def f_X12_atom (n : Nat) (rec : md_R) (σ0 : md_S) : Option (Int32 × md_S) :=
  if (mI σ0 8) = (3 : Int32) then (Option.bind (f_X12_countsPart n σ0 ) fun p23 => if p23.1 = 0 then (some ((0 : Int32), p23.2)) else (Option.bind (f_X12_simpleNumber n p23.2 ) fun p24 => some (p24.1, p24.2))) else (if (mI σ0 8) = (1 : Int32) then (Option.bind (f_X12_variable n σ0 ) fun p22 => some (p22.1, p22.2)) else (Option.bind (f_X12_isKey n σ0 (14 : Int32)) fun p2 => if p2.1 = 0 then (Option.bind (f_X12_isKey n p2.2 (15 : Int32)) fun p3 => if p3.1 = 0 then (Option.bind (f_X12_isKey n p3.2 (16 : Int32)) fun p4 => if p4.1 = 0 then (Option.bind (f_X12_isKey n p4.2 (13 : Int32)) fun p5 => if p5.1 = 0 then (Option.bind (f_X12_isKey n p5.2 (12 : Int32)) fun p6 => if p6.1 = 0 then (Option.bind (f_X12_isKey n p6.2 (17 : Int32)) fun p7 => if p7.1 = 0 then (Option.bind (f_X12_isKey n p7.2 (18 : Int32)) fun p8 => if p8.1 = 0 then (Option.bind (f_X12_isSign n p8.2 (123 : Int32)) fun p9 => if p9.1 = 0 then (Option.bind (f_X12_isSign n p9.2 (40 : Int32)) fun p10 => if p10.1 = 0 then (Option.bind (f_X12_isFine n p10.2 ) fun p11 => if p11.1 = 0 then (some ((0 : Int32), p11.2)) else (Option.bind (f_X12_misfit n p11.2 ) fun p12 => some ((0 : Int32), p12.2))) else (Option.bind (f_X12_next n p10.2 ) fun p13 => Option.bind (rec 0 0 0 0 p13.2) fun p14 => Option.bind (f_X12_sign n p14.2 (41 : Int32)) fun p15 => some (p14.1, p15.2))) else (Option.bind (rec 19 0 0 0 p9.2) fun p16 => some (p16.1, p16.2))) else (f_X12_atom_J130 n rec p8.2)) else (f_X12_atom_J130 n rec p7.2)) else (Option.bind (rec 18 0 0 0 p6.2) fun p17 => some (p17.1, p17.2))) else (Option.bind (f_X12_newAtom n p5.2 ) fun p18 => some (p18.1, p18.2))) else (Option.bind (f_X12_simple n p4.2 (27 : Int32) (0 : Int32) (0 : Int32)) fun p19 => some (p19.1, p19.2))) else (Option.bind (f_X12_selfAtom n p3.2 ) fun p20 => some (p20.1, p20.2))) else (Option.bind (f_X12_simple n p2.2 (1 : Int32) (0 : Int32) (0 : Int32)) fun p21 => some (p21.1, p21.2))))
noncomputable def f_X12_nameOf_L2 (n : Nat) (l1 : Int64) (j : Nat) : md_S → Int32 → Option ((Int32 × md_S) ⊕ (md_S × Int32)) :=
  Nat.rec (motive := fun _ => md_S → Int32 → Option ((Int32 × md_S) ⊕ (md_S × Int32))) (fun _ _ => none) (fun _ lp => fun (σ : md_S) (l3 : Int32) =>
  if (mI σ 60) ≤ l3 then (some (Sum.inr (σ, l3))) else (Option.bind (mldL σ 61 l3) fun v1 => if (lg_cmp v1 l1) = 0 then (some (Sum.inl (l3, σ))) else (lp σ ((l3 + 1))))) j
noncomputable def f_X12_nameOf (n : Nat) (σ0 : md_S) (a1 : Int64) : Option (Int32 × md_S) :=
  Option.bind (f_X12_nameOf_L2 n a1 n σ0 0) fun q2 => Sum.elim some (fun t2 => Option.bind (mstL t2.1 61 ((mI t2.1 60)) a1) fun σ3 => Option.bind (some (mSI σ3 60 (((mI σ3 60) + 1)))) fun σ4 => some (((mI σ4 60) - 1), σ4)) q2
noncomputable def f_X12_dotted_J68 (n : Nat) (rec : md_R) (σ : md_S) (l1 : Int32) (l2 : Int32) (l3 : Int32) (t0 : Int32) : Option (Int32 × md_S) :=
  Option.bind (f_X12_node n σ t0 l2 (0 : Int32)) fun p1 => Option.bind (f_X12_gets n p1.2 (p1.1) l1) fun p2 => if l3 = 0 then (Option.bind (f_X12_isSign n p2.2 (40 : Int32)) fun p3 => if p3.1 = 0 then (some (p1.1, p3.2)) else (Option.bind (rec 16 (p1.1) 0 0 p3.2) fun p4 => Option.bind (mstA p4.2 69 (p1.1) (p4.1)) fun σ5 => some (p1.1, σ5))) else (Option.bind (f_X12_next n p2.2 ) fun p6 => Option.bind (rec 1 0 0 0 p6.2) fun p7 => Option.bind (f_X12_gets n p7.2 (p1.1) (p7.1)) fun p8 => some (p1.1, p8.2))
noncomputable def f_X12_dotted (n : Nat) (rec : md_R) (σ0 : md_S) (a1 : Int32) : Option (Int32 × md_S) :=
  Option.bind (f_X12_countsPart n σ0 ) fun p9 => if p9.1 = 0 then (some (a1, p9.2)) else (Option.bind (f_X12_next n p9.2 ) fun p10 => Option.bind (f_X12_isName n p10.2 ) fun p11 => if p11.1 = 0 then (some (a1, p11.2)) else (Option.bind (f_X12_nameOf n p11.2 ((mJ p11.2 12))) fun p12 => Option.bind (f_X12_next n p12.2 ) fun p13 => Option.bind (f_X12_isSign n p13.2 (256 : Int32)) fun p14 => if p14.1 = 0 then (Option.bind (f_X12_isSign n p14.2 (40 : Int32)) fun p15 => if p15.1 = 0 then (f_X12_dotted_J68 n rec p15.2 a1 (p12.1) (p14.1) 5) else (f_X12_dotted_J68 n rec p15.2 a1 (p12.1) (p14.1) 7)) else (f_X12_dotted_J68 n rec p14.2 a1 (p12.1) (p14.1) 6)))
noncomputable def f_X12_postfix_J105 (n : Nat) (rec : md_R) (lp : md_S → Int32 → Int32 → Option ((Int32 × md_S) ⊕ (md_S × Int32 × Int32))) (σ : md_S) (l1 : Int32) (t0 : Int32) : Option ((Int32 × md_S) ⊕ (md_S × Int32 × Int32)) :=
  lp σ l1 t0
noncomputable def f_X12_postfix_J104 (n : Nat) (rec : md_R) (lp : md_S → Int32 → Int32 → Option ((Int32 × md_S) ⊕ (md_S × Int32 × Int32))) (σ : md_S) (l1 : Int32) : Option ((Int32 × md_S) ⊕ (md_S × Int32 × Int32)) :=
  f_X12_postfix_J105 n rec lp σ l1 0
noncomputable def f_X12_postfix_L7 (n : Nat) (rec : md_R) (j : Nat) : md_S → Int32 → Int32 → Option ((Int32 × md_S) ⊕ (md_S × Int32 × Int32)) :=
  Nat.rec (motive := fun _ => md_S → Int32 → Int32 → Option ((Int32 × md_S) ⊕ (md_S × Int32 × Int32))) (fun _ _ _ => none) (fun _ lp => fun (σ : md_S) (l1 : Int32) (l2 : Int32) =>
  if l2 = 0 then (some (Sum.inr (σ, l1, l2))) else (Option.bind (f_X12_isFine n σ ) fun p2 => if p2.1 = 0 then (some (Sum.inr (p2.2, l1, l2))) else (Option.bind (f_X12_isSign n p2.2 (40 : Int32)) fun p3 => if p3.1 = 0 then (Option.bind (f_X12_isSign n p3.2 (46 : Int32)) fun p4 => if p4.1 = 0 then (lp p4.2 l1 0) else (Option.bind (rec 15 l1 0 0 p4.2) fun p5 => Option.bind (f_X12_isFine n p5.2 ) fun p6 => if p6.1 = 0 then (f_X12_postfix_J104 n rec lp p6.2 (p5.1)) else (Option.bind (mldA p6.2 66 (p5.1)) fun v7 => if v7 = (6 : Int32) then (f_X12_postfix_J104 n rec lp p6.2 (p5.1)) else (f_X12_postfix_J105 n rec lp p6.2 (p5.1) 1)))) else (Option.bind (f_X12_countsPart n p3.2 ) fun p8 => if p8.1 = 0 then (some (Sum.inl (l1, p8.2))) else (Option.bind (f_X12_node n p8.2 (8 : Int32) (0 : Int32) (0 : Int32)) fun p9 => Option.bind (f_X12_gets n p9.2 (p9.1) l1) fun p10 => Option.bind (rec 16 (p9.1) 0 0 p10.2) fun p11 => Option.bind (mstA p11.2 68 (p9.1) (p11.1)) fun σ12 => lp σ12 (p9.1) l2))))) j
noncomputable def f_X12_postfix (n : Nat) (rec : md_R) (σ0 : md_S) : Option (Int32 × md_S) :=
  Option.bind (rec 17 0 0 0 σ0) fun p1 => Option.bind (f_X12_postfix_L7 n rec n p1.2 (p1.1) 1) fun q13 => Sum.elim some (fun t13 => some (t13.2.1, t13.1)) q13
noncomputable def f_X12_bodyOf (n : Nat) (rec : md_R) (σ0 : md_S) (a1 : Int32) : Option (Int32 × md_S) :=
  Option.bind (f_X12_isFine n σ0 ) fun p1 => if p1.1 = 0 then (some ((0 : Int32), p1.2)) else (Option.bind (some (mSI p1.2 64 a1)) fun σ2 => Option.bind (rec 1 0 0 0 σ2) fun p3 => Option.bind (mstA p3.2 41 a1 (p3.1)) fun σ4 => Option.bind (some (mSI σ4 64 ((mI p1.2 64)))) fun σ5 => some ((0 : Int32), σ5))
noncomputable def f_X12_priv_J149 (n : Nat) (rec : md_R) (σ : md_S) (l1 : Int32) (l2 : Int32) : Option (Int32 × md_S) :=
  Option.bind (rec 12 l1 0 0 σ) fun p1 => some (l2, p1.2)
noncomputable def f_X12_priv_L111 (n : Nat) (rec : md_R) (l1 : Int32) (l2 : Int32) (l3 : Int32) (j : Nat) : md_S → Int32 → Option (md_S × Int32) :=
  Nat.rec (motive := fun _ => md_S → Int32 → Option (md_S × Int32)) (fun _ _ => none) (fun _ lp => fun (σ : md_S) (l4 : Int32) =>
  if l4 = 0 then (some (σ, l4)) else (Option.bind (f_X12_isFine n σ ) fun p12 => if p12.1 = 0 then (some (p12.2, l4)) else (Option.bind (f_X12_next n p12.2 ) fun p13 => Option.bind (f_X12_right n p13.2 l3) fun p14 => Option.bind (f_X12_isSign n p14.2 (44 : Int32)) fun p15 => lp p15.2 (p15.1)))) j
noncomputable def f_X12_priv (n : Nat) (rec : md_R) (σ0 : md_S) : Option (Int32 × md_S) :=
  Option.bind (f_X12_countsPart n σ0 ) fun p2 => if p2.1 = 0 then (some ((0 : Int32), p2.2)) else (Option.bind (mldA p2.2 37 ((mI p2.2 64))) fun v3 => Option.bind (f_X12_newUnit n p2.2 (2 : Int32) v3 ((mI p2.2 64))) fun p4 => Option.bind (f_X12_node n p4.2 (10 : Int32) (p4.1) (0 : Int32)) fun p5 => Option.bind (f_X12_next n p5.2 ) fun p6 => Option.bind (f_X12_isSign n p6.2 (91 : Int32)) fun p7 => if p7.1 = 0 then (f_X12_priv_J149 n rec p7.2 (p4.1) (p5.1)) else (if (mI p7.2 22) = (12 : Int32) then (Option.bind (f_X12_fails n p7.2 (4 : Int32)) fun p18 => some (p5.1, p18.2)) else (Option.bind (mstA p7.2 36 (p4.1) 3) fun σ8 => Option.bind (mstA σ8 42 (p4.1) ((mI σ8 22))) fun σ9 => Option.bind (some (mSI σ9 22 (((mI σ9 22) + 1)))) fun σ10 => Option.bind (mstA σ10 23 (((8 : Int32) + (mI σ9 22))) 0) fun σ11 => Option.bind (f_X12_priv_L111 n rec (p4.1) (p5.1) (((8 : Int32) + (mI σ9 22))) n σ11 1) fun q16 => Option.bind (f_X12_sign n q16.1 (93 : Int32)) fun p17 => f_X12_priv_J149 n rec p17.2 (p4.1) (p5.1))))
noncomputable def f_X12_under (n : Nat) (rec : md_R) (σ0 : md_S) : Option (Int32 × md_S) :=
  Option.bind (f_X12_countsPart n σ0 ) fun p1 => if p1.1 = 0 then (some ((0 : Int32), p1.2)) else (Option.bind (mldA p1.2 37 ((mI p1.2 64))) fun v2 => Option.bind (f_X12_newUnit n p1.2 (4 : Int32) v2 ((mI p1.2 64))) fun p3 => Option.bind (f_X12_node n p3.2 (10 : Int32) (p3.1) (0 : Int32)) fun p4 => Option.bind (f_X12_next n p4.2 ) fun p5 => Option.bind (rec 1 0 0 0 p5.2) fun p6 => Option.bind (f_X12_gets n p6.2 (p4.1) (p6.1)) fun p7 => Option.bind (f_X12_sign n p7.2 (58 : Int32)) fun p8 => Option.bind (rec 12 (p3.1) 0 0 p8.2) fun p9 => some (p4.1, p9.2))
noncomputable def f_X12_prefix_J90 (n : Nat) (rec : md_R) (σ : md_S) (t0 : Int32) : Option (Int32 × md_S) :=
  Option.bind (f_X12_node n σ t0 (0 : Int32) (0 : Int32)) fun p1 => Option.bind (f_X12_next n p1.2 ) fun p2 => Option.bind (rec 1 0 0 0 p2.2) fun p3 => Option.bind (f_X12_gets n p3.2 (p1.1) (p3.1)) fun p4 => some (p1.1, p4.2)
noncomputable def f_X12_prefix_J36 (n : Nat) (rec : md_R) (σ : md_S) : Option (Int32 × md_S) :=
  Option.bind (f_X12_countsPart n σ ) fun p5 => if p5.1 = 0 then (some ((0 : Int32), p5.2)) else (if (mI p5.2 11) = (19 : Int32) then (f_X12_prefix_J90 n rec p5.2 21) else (if (mI p5.2 11) = (22 : Int32) then (f_X12_prefix_J90 n rec p5.2 22) else (if (mI p5.2 11) = (20 : Int32) then (f_X12_prefix_J90 n rec p5.2 23) else (f_X12_prefix_J90 n rec p5.2 24))))
noncomputable def f_X12_prefix (n : Nat) (rec : md_R) (σ0 : md_S) : Option (Int32 × md_S) :=
  Option.bind (f_X12_isKey n σ0 (19 : Int32)) fun p6 => if p6.1 = 0 then (Option.bind (f_X12_isKey n p6.2 (22 : Int32)) fun p7 => if p7.1 = 0 then (Option.bind (f_X12_isKey n p7.2 (20 : Int32)) fun p8 => if p8.1 = 0 then (Option.bind (f_X12_isKey n p8.2 (21 : Int32)) fun p9 => if p9.1 = 0 then (Option.bind (f_X12_isKey n p9.2 (10 : Int32)) fun p10 => if p10.1 = 0 then (Option.bind (f_X12_isKey n p10.2 (11 : Int32)) fun p11 => if p11.1 = 0 then (Option.bind (rec 14 0 0 0 p11.2) fun p12 => some (p12.1, p12.2)) else (Option.bind (rec 13 0 0 0 p11.2) fun p13 => some (p13.1, p13.2))) else (Option.bind (rec 11 0 0 0 p10.2) fun p14 => some (p14.1, p14.2))) else (f_X12_prefix_J36 n rec p9.2)) else (f_X12_prefix_J36 n rec p8.2)) else (f_X12_prefix_J36 n rec p7.2)) else (f_X12_prefix_J36 n rec p6.2)
noncomputable def f_X12_anyPrefix_J18 (n : Nat) (rec : md_R) (σ : md_S) : Option (Int32 × md_S) :=
  Option.bind (f_X12_isFine n σ ) fun p1 => if p1.1 = 0 then (some ((0 : Int32), p1.2)) else (Option.bind (rec 10 0 0 0 p1.2) fun p2 => some (p2.1, p2.2))
noncomputable def f_X12_anyPrefix (n : Nat) (rec : md_R) (σ0 : md_S) : Option (Int32 × md_S) :=
  Option.bind (f_X12_isFine n σ0 ) fun p3 => if p3.1 = 0 then (f_X12_anyPrefix_J18 n rec p3.2) else (Option.bind (f_X12_beginsPrefix n p3.2 ) fun p4 => if p4.1 = 0 then (Option.bind (f_X12_misfit n p4.2 ) fun p5 => f_X12_anyPrefix_J18 n rec p5.2) else (f_X12_anyPrefix_J18 n rec p4.2))
noncomputable def f_X12_product_L5 (n : Nat) (rec : md_R) (j : Nat) : md_S → Int32 → Option (md_S × Int32) :=
  Nat.rec (motive := fun _ => md_S → Int32 → Option (md_S × Int32)) (fun _ _ => none) (fun _ lp => fun (σ : md_S) (l1 : Int32) =>
  Option.bind (f_X12_isSign n σ (42 : Int32)) fun p2 => if p2.1 = 0 then (some (p2.2, l1)) else (Option.bind (f_X12_operation n p2.2 (13 : Int32) l1) fun p3 => Option.bind (rec 5 0 0 0 p3.2) fun p4 => Option.bind (f_X12_gets n p4.2 (p3.1) (p4.1)) fun p5 => lp p5.2 (p3.1))) j
noncomputable def f_X12_product (n : Nat) (rec : md_R) (σ0 : md_S) : Option (Int32 × md_S) :=
  Option.bind (rec 5 0 0 0 σ0) fun p1 => Option.bind (f_X12_product_L5 n rec n p1.2 (p1.1)) fun q6 => some (q6.2, q6.1)
noncomputable def f_X12_sum_J40 (n : Nat) (rec : md_R) (lp : md_S → Int32 → Option (md_S × Int32)) (σ : md_S) (l1 : Int32) (t0 : Int32) : Option (md_S × Int32) :=
  Option.bind (f_X12_operation n σ t0 l1) fun p2 => Option.bind (rec 4 0 0 0 p2.2) fun p3 => Option.bind (f_X12_gets n p3.2 (p2.1) (p3.1)) fun p4 => lp p4.2 (p2.1)
noncomputable def f_X12_sum_J23 (n : Nat) (rec : md_R) (lp : md_S → Int32 → Option (md_S × Int32)) (σ : md_S) (l1 : Int32) : Option (md_S × Int32) :=
  if (mI σ 11) = (43 : Int32) then (f_X12_sum_J40 n rec lp σ l1 11) else (f_X12_sum_J40 n rec lp σ l1 12)
noncomputable def f_X12_sum_L5 (n : Nat) (rec : md_R) (j : Nat) : md_S → Int32 → Option (md_S × Int32) :=
  Nat.rec (motive := fun _ => md_S → Int32 → Option (md_S × Int32)) (fun _ _ => none) (fun _ lp => fun (σ : md_S) (l1 : Int32) =>
  Option.bind (f_X12_isSign n σ (43 : Int32)) fun p5 => if p5.1 = 0 then (Option.bind (f_X12_isSign n p5.2 (45 : Int32)) fun p6 => if p6.1 = 0 then (some (p6.2, l1)) else (f_X12_sum_J23 n rec lp p6.2 l1)) else (f_X12_sum_J23 n rec lp p5.2 l1)) j
noncomputable def f_X12_sum (n : Nat) (rec : md_R) (σ0 : md_S) : Option (Int32 × md_S) :=
  Option.bind (rec 4 0 0 0 σ0) fun p1 => Option.bind (f_X12_sum_L5 n rec n p1.2 (p1.1)) fun q7 => some (q7.2, q7.1)
noncomputable def f_X12_tryE (n : Nat) (rec : md_R) (σ0 : md_S) : Option (Int32 × md_S) :=
  Option.bind (f_X12_countsPart n σ0 ) fun p1 => if p1.1 = 0 then (some ((0 : Int32), p1.2)) else (Option.bind (f_X12_node n p1.2 (19 : Int32) (0 : Int32) (0 : Int32)) fun p2 => Option.bind (f_X12_next n p2.2 ) fun p3 => Option.bind (rec 0 0 0 0 p3.2) fun p4 => Option.bind (f_X12_gets n p4.2 (p2.1) (p4.1)) fun p5 => Option.bind (f_X12_isKey n p5.2 (9 : Int32)) fun p6 => if p6.1 = 0 then (Option.bind (f_X12_key n p6.2 (9 : Int32)) fun p15 => some (p2.1, p15.2)) else (Option.bind (mldA p6.2 46 ((mI p6.2 64))) fun v7 => Option.bind (mldA p6.2 46 ((mI p6.2 64))) fun v8 => Option.bind (mstA p6.2 46 ((mI p6.2 64)) ((v8 + 1))) fun σ9 => Option.bind (f_X12_next n σ9 ) fun p10 => Option.bind (f_X12_binds n p10.2 v7) fun p11 => Option.bind (mstA p11.2 68 (p2.1) ((mI p11.2 73))) fun σ12 => Option.bind (f_X12_sign n σ12 (58 : Int32)) fun p13 => Option.bind (rec 7 ((mI p11.2 73)) (p2.1) 0 p13.2) fun p14 => some (p2.1, p14.2)))
noncomputable def f_X12_wholeE_J81 (n : Nat) (rec : md_R) (σ : md_S) (l1 : Int32) (t0 : Int32) : Option (Int32 × md_S) :=
  Option.bind (f_X12_operation n σ t0 l1) fun p1 => Option.bind (rec 3 0 0 0 p1.2) fun p2 => Option.bind (f_X12_gets n p2.2 (p1.1) (p2.1)) fun p3 => some (p1.1, p3.2)
noncomputable def f_X12_wholeE_J64 (n : Nat) (rec : md_R) (σ : md_S) (l1 : Int32) : Option (Int32 × md_S) :=
  if (mI σ 11) = (60 : Int32) then (f_X12_wholeE_J81 n rec σ l1 14) else (f_X12_wholeE_J81 n rec σ l1 15)
noncomputable def f_X12_wholeE (n : Nat) (rec : md_R) (σ0 : md_S) : Option (Int32 × md_S) :=
  Option.bind (f_X12_isKey n σ0 (3 : Int32)) fun p4 => if p4.1 = 0 then (Option.bind (f_X12_isKey n p4.2 (5 : Int32)) fun p5 => if p5.1 = 0 then (Option.bind (f_X12_isKey n p5.2 (8 : Int32)) fun p6 => if p6.1 = 0 then (Option.bind (rec 3 0 0 0 p6.2) fun p7 => Option.bind (f_X12_isSign n p7.2 (60 : Int32)) fun p8 => if p8.1 = 0 then (Option.bind (f_X12_isSign n p8.2 (257 : Int32)) fun p9 => if p9.1 = 0 then (some (p7.1, p9.2)) else (f_X12_wholeE_J64 n rec p9.2 (p7.1))) else (f_X12_wholeE_J64 n rec p8.2 (p7.1))) else (Option.bind (rec 9 0 0 0 p6.2) fun p10 => some (p10.1, p10.2))) else (Option.bind (rec 8 0 0 0 p5.2) fun p11 => some (p11.1, p11.2))) else (Option.bind (rec 6 0 0 0 p4.2) fun p12 => some (p12.1, p12.2))
noncomputable def f_X12_e (n : Nat) (rec : md_R) (σ0 : md_S) : Option (Int32 × md_S) :=
  Option.bind (f_X12_beginsE n σ0 ) fun p1 => Option.bind (f_X12_deeper n p1.2 (p1.1)) fun p2 => if p2.1 = 0 then (some ((0 : Int32), p2.2)) else (Option.bind (rec 2 0 0 0 p2.2) fun p3 => Option.bind (some (mSI p3.2 63 (((mI p3.2 63) - 1)))) fun σ4 => some (p3.1, σ4))
/-- the group e, to a depth -/
noncomputable def md_Ge (n d : Nat) : md_R :=
  Nat.rec (motive := fun _ => md_R) (fun _ _ _ _ _ => none) (fun _ rec => fun t a b c σ =>
    if t = 0 then f_X12_e n rec σ else
    if t = 1 then f_X12_innerPrefix n rec σ else
    if t = 2 then f_X12_wholeE n rec σ else
    if t = 3 then f_X12_sum n rec σ else
    if t = 4 then f_X12_product n rec σ else
    if t = 5 then f_X12_anyPrefix n rec σ else
    if t = 6 then f_X12_letE n rec σ else
    if t = 7 then f_X12_around n rec σ a b else
    if t = 8 then f_X12_ifE n rec σ else
    if t = 9 then f_X12_tryE n rec σ else
    if t = 10 then f_X12_prefix n rec σ else
    if t = 11 then f_X12_priv n rec σ else
    if t = 12 then f_X12_bodyOf n rec σ a else
    if t = 13 then f_X12_under n rec σ else
    if t = 14 then f_X12_postfix n rec σ else
    if t = 15 then f_X12_dotted n rec σ a else
    if t = 16 then f_X12_arguments n rec σ a else
    if t = 17 then f_X12_atom n rec σ else
    if t = 18 then f_X12_fun n rec σ else
    if t = 19 then f_X12_row n rec σ else
    if t = 20 then f_X12_asking n rec σ else
    none) d
noncomputable def f_X12_readMethod_J151 (n : Nat) (σ : md_S) (l1 : Int32) (l3 : Int32) (l4 : Int32) : Option (Int32 × md_S) :=
  Option.bind (f_X12_sign n σ (41 : Int32)) fun p1 => Option.bind (mldA p1.2 30 l1) fun v2 => Option.bind (mstA p1.2 31 ((((12 : Int32) * l1) + v2)) l3) fun σ3 => Option.bind (mldA σ3 30 l1) fun v4 => Option.bind (mstA σ3 30 l1 ((v4 + 1))) fun σ5 => Option.bind (f_X12_sign n σ5 (61 : Int32)) fun p6 => Option.bind (some (mSI p6.2 64 l3)) fun σ7 => Option.bind (md_Ge n 400 0 0 0 0 σ7) fun p8 => Option.bind (mstA p8.2 41 l3 (p8.1)) fun σ9 => Option.bind (some (mSI σ9 64 ((-1)))) fun σ10 => Option.bind (some (mSI σ10 56 l4)) fun σ11 => Option.bind (f_X12_sign n σ11 (59 : Int32)) fun p12 => some ((0 : Int32), p12.2)
noncomputable def f_X12_readMethod_J145 (n : Nat) (l1 : Int32) (l2 : Int32) (l3 : Int32) (l4 : Int32) (lp : md_S → Int32 → Option ((Int32 × md_S) ⊕ (md_S × Int32))) (σ : md_S) (l5 : Int32) : Option ((Int32 × md_S) ⊕ (md_S × Int32)) :=
  lp σ ((l5 + 1))
noncomputable def f_X12_readMethod_L80 (n : Nat) (l1 : Int32) (l2 : Int32) (l3 : Int32) (l4 : Int32) (j : Nat) : md_S → Int32 → Option ((Int32 × md_S) ⊕ (md_S × Int32)) :=
  Nat.rec (motive := fun _ => md_S → Int32 → Option ((Int32 × md_S) ⊕ (md_S × Int32))) (fun _ _ => none) (fun _ lp => fun (σ : md_S) (l5 : Int32) =>
  Option.bind (mldA σ 30 l1) fun v21 => if v21 ≤ l5 then (some (Sum.inr (σ, l5))) else (Option.bind (mldA σ 31 ((((12 : Int32) * l1) + l5))) fun v22 => Option.bind (mldL σ 43 v22) fun v23 => Option.bind (mldL σ 43 l3) fun v24 => if (lg_cmp v23 v24) = 0 then (Option.bind (mldA σ 39 v22) fun v25 => Option.bind (mldA σ 39 l3) fun v26 => if v25 = v26 then (Option.bind (f_X12_failsAt n σ (2 : Int32) l2) fun p27 => some (Sum.inl ((0 : Int32), p27.2))) else (f_X12_readMethod_J145 n l1 l2 l3 l4 lp σ l5)) else (f_X12_readMethod_J145 n l1 l2 l3 l4 lp σ l5))) j
noncomputable def f_X12_readMethod (n : Nat) (σ0 : md_S) (a1 : Int32) : Option (Int32 × md_S) :=
  Option.bind (mldA σ0 30 a1) fun v13 => if v13 = (12 : Int32) then (Option.bind (f_X12_fails n σ0 (4 : Int32)) fun p29 => some ((0 : Int32), p29.2)) else (Option.bind (f_X12_newUnit n σ0 (0 : Int32) a1 ((-1) : Int32)) fun p14 => Option.bind (f_X12_isFine n p14.2 ) fun p15 => if p15.1 = 0 then (some ((0 : Int32), p15.2)) else (Option.bind (f_X12_next n p15.2 ) fun p16 => Option.bind (f_X12_newVariable n p16.2 (p14.1) (0 : Int64) (0 : Int32) (0 : Int32)) fun p17 => Option.bind (mstA p17.2 55 (p14.1) (p17.1)) fun σ18 => Option.bind (f_X12_parameters n σ18 (p14.1) (1 : Int32)) fun p19 => Option.bind (f_X12_isSign n p19.2 (41 : Int32)) fun p20 => if p20.1 = 0 then (f_X12_readMethod_J151 n p20.2 a1 (p14.1) ((mI p16.2 56))) else (Option.bind (f_X12_readMethod_L80 n a1 ((mI σ0 9)) (p14.1) ((mI p16.2 56)) n p20.2 0) fun q28 => Sum.elim some (fun t28 => f_X12_readMethod_J151 n t28.1 a1 (p14.1) ((mI p16.2 56))) q28)))
noncomputable def f_X12_readModule_L161 (n : Nat) (l1 : Int32) (j : Nat) : md_S → Option (md_S) :=
  Nat.rec (motive := fun _ => md_S → Option (md_S)) (fun _ => none) (fun _ lp => fun (σ : md_S) =>
  Option.bind (f_X12_isKey n σ (2 : Int32)) fun p3 => if p3.1 = 0 then (some p3.2) else (Option.bind (f_X12_next n p3.2 ) fun p4 => Option.bind (f_X12_readField n p4.2 l1) fun p5 => Option.bind (f_X12_sign n p5.2 (59 : Int32)) fun p6 => lp p6.2)) j
noncomputable def f_X12_readModule_L187 (n : Nat) (l1 : Int32) (j : Nat) : md_S → Option (md_S) :=
  Nat.rec (motive := fun _ => md_S → Option (md_S)) (fun _ => none) (fun _ lp => fun (σ : md_S) =>
  Option.bind (f_X12_isFine n σ ) fun p8 => if p8.1 = 0 then (some p8.2) else (if (mI p8.2 8) = (1 : Int32) then (Option.bind (f_X12_readMethod n p8.2 l1) fun p9 => lp p9.2) else (some p8.2))) j
noncomputable def f_X12_readModule_J145 (n : Nat) (σ : md_S) (l1 : Int32) : Option (Int32 × md_S) :=
  Option.bind (some (mSI σ 25 (((mI σ 25) + 1)))) fun σ1 => Option.bind (f_X12_sign n σ1 (123 : Int32)) fun p2 => Option.bind (f_X12_readModule_L161 n l1 n p2.2) fun q7 => Option.bind (f_X12_readModule_L187 n l1 n q7) fun q10 => Option.bind (f_X12_sign n q10 (125 : Int32)) fun p11 => some ((0 : Int32), p11.2)
noncomputable def f_X12_readModule (n : Nat) (σ0 : md_S) : Option (Int32 × md_S) :=
  Option.bind (f_X12_key n σ0 (1 : Int32)) fun p12 => Option.bind (f_X12_isName n p12.2 ) fun p13 => if p13.1 = 0 then (some ((0 : Int32), p13.2)) else (if (mI p13.2 25) = (8 : Int32) then (Option.bind (f_X12_fails n p13.2 (4 : Int32)) fun p30 => some ((0 : Int32), p30.2)) else (Option.bind (f_X12_moduleOf n p13.2 ((mJ p13.2 12))) fun p14 => if p14.1 = ((-1) : Int32) then (Option.bind (mstL p14.2 26 ((mI p13.2 25)) ((mJ p14.2 12))) fun σ15 => Option.bind (mstA σ15 27 ((mI p13.2 25)) ((-1))) fun σ16 => Option.bind (mstA σ16 28 ((mI p13.2 25)) 0) fun σ17 => Option.bind (mstA σ17 30 ((mI p13.2 25)) 0) fun σ18 => Option.bind (f_X12_next n σ18 ) fun p19 => Option.bind (f_X12_pattern n p19.2 (((0 : Int32) + (mI p13.2 25))) (1 : Int32)) fun p20 => Option.bind (f_X12_isSign n p20.2 (58 : Int32)) fun p21 => if p21.1 = 0 then (f_X12_readModule_J145 n p21.2 ((mI p13.2 25))) else (Option.bind (f_X12_next n p21.2 ) fun p22 => Option.bind (f_X12_isName n p22.2 ) fun p23 => if p23.1 = 0 then (f_X12_readModule_J145 n p23.2 ((mI p13.2 25))) else (Option.bind (f_X12_moduleOf n p23.2 ((mJ p23.2 12))) fun p24 => Option.bind (mstA p24.2 27 ((mI p13.2 25)) (p24.1)) fun σ25 => Option.bind (mldA σ25 27 ((mI p13.2 25))) fun v26 => if v26 = ((-1) : Int32) then (Option.bind (f_X12_fails n σ25 (3 : Int32)) fun p28 => some ((0 : Int32), p28.2)) else (Option.bind (f_X12_next n σ25 ) fun p27 => f_X12_readModule_J145 n p27.2 ((mI p13.2 25)))))) else (Option.bind (f_X12_fails n p14.2 (2 : Int32)) fun p29 => some ((0 : Int32), p29.2))))
noncomputable def f_X12_readAll_L0 (n : Nat) (j : Nat) : md_S → Option (md_S) :=
  Nat.rec (motive := fun _ => md_S → Option (md_S)) (fun _ => none) (fun _ lp => fun (σ : md_S) =>
  Option.bind (f_X12_isKey n σ (0 : Int32)) fun p1 => if p1.1 = 0 then (some p1.2) else (Option.bind (f_X12_grant n p1.2 ) fun p2 => lp p2.2)) j
noncomputable def f_X12_readAll_L15 (n : Nat) (j : Nat) : md_S → Option (md_S) :=
  Nat.rec (motive := fun _ => md_S → Option (md_S)) (fun _ => none) (fun _ lp => fun (σ : md_S) =>
  Option.bind (f_X12_readModule n σ ) fun p4 => Option.bind (f_X12_isFine n p4.2 ) fun p5 => if p5.1 = 0 then (some p5.2) else (if (mI p5.2 8) = 0 then (some p5.2) else (lp p5.2))) j
noncomputable def f_X12_readAll (n : Nat) (σ0 : md_S) : Option (Int32 × md_S) :=
  Option.bind (f_X12_readAll_L0 n n σ0) fun q3 => Option.bind (f_X12_readAll_L15 n n q3) fun q6 => some ((0 : Int32), q6)
noncomputable def f_X12_put (n : Nat) (σ0 : md_S) (a1 : Int32) : Option (Int32 × md_S) :=
  Option.bind (mstB σ0 74 ((mI σ0 75)) ((a1.toInt8.toInt32))) fun σ1 => Option.bind (some (mSI σ1 75 (((mI σ1 75) + 1)))) fun σ2 => some ((0 : Int32), σ2)
noncomputable def f_X12_putNumber (n : Nat) (σ0 : md_S) (a1 : Int32) : Option (Int32 × md_S) :=
  Option.bind (f_X12_put n σ0 ((a1 >>> (8 &&& 31)))) fun p1 => Option.bind (f_X12_put n p1.2 a1) fun p2 => some ((0 : Int32), p2.2)
noncomputable def f_X12_put_ (n : Nat) (σ0 : md_S) (a1 : Int32) (a2 : Int32) : Option (Int32 × md_S) :=
  Option.bind (f_X12_put n σ0 a1) fun p1 => Option.bind (f_X12_putNumber n p1.2 a2) fun p2 => some ((0 : Int32), p2.2)
noncomputable def f_X12_opening_J60 (n : Nat) (σ : md_S) (l1 : Int32) (l2 : Int32) (t0 : Int32) : Option (Int32 × md_S) :=
  Option.bind (f_X12_put_ n σ t0 l2) fun p1 => Option.bind (mldA p1.2 36 l1) fun v2 => if v2 = (3 : Int32) then (Option.bind (mldA p1.2 42 l1) fun v3 => Option.bind (f_X12_putNumber n p1.2 v3) fun p4 => some ((0 : Int32), p4.2)) else (some ((0 : Int32), p1.2))
noncomputable def f_X12_opening (n : Nat) (σ0 : md_S) (a1 : Int32) : Option (Int32 × md_S) :=
  Option.bind (mldA σ0 37 a1) fun v5 => Option.bind (mldA σ0 32 v5) fun v6 => Option.bind (mldA σ0 36 a1) fun v7 => if v7 = (2 : Int32) then (f_X12_opening_J60 n σ0 a1 v6 31) else (Option.bind (mldA σ0 36 a1) fun v8 => if v8 = (3 : Int32) then (f_X12_opening_J60 n σ0 a1 v6 32) else (Option.bind (mldA σ0 36 a1) fun v9 => if v9 = (4 : Int32) then (f_X12_opening_J60 n σ0 a1 v6 33) else (f_X12_opening_J60 n σ0 a1 v6 30)))
noncomputable def f_X12_isSpine_J37 (n : Nat) (σ : md_S) : Option (Int32 × md_S) :=
  some ((1 : Int32), σ)
noncomputable def f_X12_isSpine (n : Nat) (σ0 : md_S) (a0 : Int32) : Option (Int32 × md_S) :=
  if a0 = (5 : Int32) then (f_X12_isSpine_J37 n σ0) else (if a0 = (6 : Int32) then (f_X12_isSpine_J37 n σ0) else (if a0 = (7 : Int32) then (f_X12_isSpine_J37 n σ0) else (if a0 = (8 : Int32) then (f_X12_isSpine_J37 n σ0) else (Option.bind (f_X12_in n σ0 ((a0.toInt64)) (11 : Int64) (15 : Int64)) fun p1 => if p1.1 = 0 then (some ((0 : Int32), p1.2)) else (f_X12_isSpine_J37 n p1.2)))))
noncomputable def f_X12_localsOf_J20 (n : Nat) (σ : md_S) (l1 : Int32) (t0 : Int32) (t1 : Int32) : Option (Int32 × md_S) :=
  Option.bind (mldA σ 39 l1) fun v1 => Option.bind (mldA σ 46 l1) fun v2 => some ((((t1 + t0) + v1) + v2), σ)
noncomputable def f_X12_localsOf (n : Nat) (σ0 : md_S) (a1 : Int32) : Option (Int32 × md_S) :=
  Option.bind (mldA σ0 44 a1) fun v3 => Option.bind (mldA σ0 36 a1) fun v4 => if v4 = 0 then (f_X12_localsOf_J20 n σ0 a1 1 v3) else (f_X12_localsOf_J20 n σ0 a1 0 v3)
noncomputable def f_X12_begins_J35 (n : Nat) (σ : md_S) (l1 : Int32) : Option (Int32 × md_S) :=
  Option.bind (f_X12_put n σ l1) fun p1 => some ((0 : Int32), p1.2)
noncomputable def f_X12_begins (n : Nat) (σ0 : md_S) (a1 : Int32) (a2 : Int32) : Option (Int32 × md_S) :=
  if (mI σ0 78) = 0 then (f_X12_begins_J35 n σ0 a1) else (if a2 = 0 then (f_X12_begins_J35 n σ0 a1) else (Option.bind (f_X12_localsOf n σ0 ((mI σ0 79))) fun p2 => Option.bind (f_X12_put_ n p2.2 (2 : Int32) (p2.1)) fun p3 => Option.bind (f_X12_put n p3.2 ((a1 + 64))) fun p4 => some ((0 : Int32), p4.2)))
noncomputable def f_X12_localOf_J82 (n : Nat) (σ : md_S) (t0 : Int32) (t1 : Int32) : Option (Int32 × md_S) :=
  some ((t1 + t0), σ)
noncomputable def f_X12_localOf_J77 (n : Nat) (σ : md_S) (t0 : Int32) (t1 : Int32) (t2 : Int32) : Option (Int32 × md_S) :=
  f_X12_localOf_J82 n σ ((t1 + t0)) t2
noncomputable def f_X12_localOf_L2 (n : Nat) (l1 : Int32) (l2 : Int32) (j : Nat) : md_S → Int32 → Option ((Int32 × md_S) ⊕ (md_S × Int32)) :=
  Nat.rec (motive := fun _ => md_S → Int32 → Option ((Int32 × md_S) ⊕ (md_S × Int32))) (fun _ _ => none) (fun _ lp => fun (σ : md_S) (l3 : Int32) =>
  Option.bind (mldA σ 44 l1) fun v1 => if v1 ≤ l3 then (some (Sum.inr (σ, l3))) else (Option.bind (mldA σ 45 ((((16 : Int32) * l1) + l3))) fun v2 => if v2 = l2 then (some (Sum.inl (l3, σ))) else (lp σ ((l3 + 1))))) j
noncomputable def f_X12_localOf (n : Nat) (σ0 : md_S) (a1 : Int32) (a2 : Int32) : Option (Int32 × md_S) :=
  Option.bind (f_X12_localOf_L2 n a1 a2 n σ0 0) fun q3 => Sum.elim some (fun t3 => Option.bind (mldA t3.1 44 a1) fun v4 => Option.bind (mldA t3.1 53 a2) fun v5 => Option.bind (mldA t3.1 54 a2) fun v6 => if v6 = 0 then (f_X12_localOf_J82 n t3.1 0 ((v4 + v5))) else (Option.bind (mldA t3.1 39 a1) fun v7 => Option.bind (mldA t3.1 36 a1) fun v8 => if v8 = 0 then (f_X12_localOf_J77 n t3.1 1 v7 ((v4 + v5))) else (f_X12_localOf_J77 n t3.1 0 v7 ((v4 + v5))))) q3
noncomputable def f_X12_codeBegin_J22 (n : Nat) (σ : md_S) (t0 : Int32) (t1 : Int32) : Option (Int32 × md_S) :=
  Option.bind (mldA σ 76 ((t1 + t0))) fun v1 => some (v1, σ)
noncomputable def f_X12_codeBegin (n : Nat) (σ0 : md_S) : Option (Int32 × md_S) :=
  if (mI σ0 78) = 0 then (f_X12_codeBegin_J22 n σ0 0 (((2 : Int32) * (mI σ0 79)))) else (f_X12_codeBegin_J22 n σ0 1 (((2 : Int32) * (mI σ0 79))))
noncomputable def f_X12_fill (n : Nat) (σ0 : md_S) (a1 : Int32) : Option (Int32 × md_S) :=
  Option.bind (f_X12_codeBegin n σ0 ) fun p1 => Option.bind (mstB p1.2 74 a1 (((((mI σ0 75) - p1.1) >>> (8 &&& 31)).toInt8.toInt32))) fun σ2 => Option.bind (mstB σ2 74 ((a1 + 1)) ((((mI σ0 75) - p1.1).toInt8.toInt32))) fun σ3 => some ((0 : Int32), σ3)
noncomputable def f_X12_gap (n : Nat) (σ0 : md_S) (a1 : Int32) : Option (Int32 × md_S) :=
  Option.bind (f_X12_put_ n σ0 a1 (0 : Int32)) fun p1 => some (((mI p1.2 75) - 2), p1.2)
noncomputable def f_X12_writeIf (n : Nat) (rec : md_R) (σ0 : md_S) (a1 : Int32) : Option (Int32 × md_S) :=
  Option.bind (rec 0 a1 0 0 σ0) fun p1 => Option.bind (f_X12_gap n p1.2 (18 : Int32)) fun p2 => Option.bind (mldA p2.2 71 a1) fun v3 => Option.bind (rec 0 v3 0 0 p2.2) fun p4 => Option.bind (f_X12_gap n p4.2 (17 : Int32)) fun p5 => Option.bind (f_X12_fill n p5.2 (p2.1)) fun p6 => Option.bind (mldA p6.2 71 a1) fun v7 => Option.bind (mldA p6.2 71 v7) fun v8 => Option.bind (rec 0 v8 0 0 p6.2) fun p9 => Option.bind (f_X12_fill n p9.2 (p5.1)) fun p10 => some ((0 : Int32), p10.2)
noncomputable def f_X12_writeTry (n : Nat) (rec : md_R) (σ0 : md_S) (a1 : Int32) (a2 : Int32) : Option (Int32 × md_S) :=
  Option.bind (f_X12_gap n σ0 (19 : Int32)) fun p1 => Option.bind (rec 0 a2 0 0 p1.2) fun p2 => Option.bind (f_X12_put n p2.2 (20 : Int32)) fun p3 => Option.bind (f_X12_gap n p3.2 (17 : Int32)) fun p4 => Option.bind (f_X12_fill n p4.2 (p1.1)) fun p5 => Option.bind (mldA p5.2 68 a1) fun v6 => Option.bind (f_X12_localOf n p5.2 ((mI p5.2 79)) v6) fun p7 => Option.bind (f_X12_put_ n p7.2 (3 : Int32) (p7.1)) fun p8 => Option.bind (mldA p8.2 71 a2) fun v9 => Option.bind (rec 0 v9 0 0 p8.2) fun p10 => Option.bind (f_X12_fill n p10.2 (p4.1)) fun p11 => some ((0 : Int32), p11.2)
noncomputable def f_X12_writeUnit_J74 (n : Nat) (σ : md_S) (l2 : Int32) (t0 : Int32) (t1 : Int32) : Option (Int32 × md_S) :=
  Option.bind (f_X12_begins n σ t1 t0) fun p1 => Option.bind (f_X12_putNumber n p1.2 l2) fun p2 => some ((0 : Int32), p2.2)
noncomputable def f_X12_writeUnit_J73 (n : Nat) (σ : md_S) (l2 : Int32) (t0 : Int32) : Option (Int32 × md_S) :=
  f_X12_writeUnit_J74 n σ l2 0 t0
noncomputable def f_X12_writeUnit_L2 (n : Nat) (l1 : Int32) (l2 : Int32) (j : Nat) : md_S → Int32 → Option (md_S × Int32) :=
  Nat.rec (motive := fun _ => md_S → Int32 → Option (md_S × Int32)) (fun _ _ => none) (fun _ lp => fun (σ : md_S) (l3 : Int32) =>
  Option.bind (mldA σ 44 l2) fun v3 => if v3 ≤ l3 then (some (σ, l3)) else (Option.bind (mldA σ 45 ((((16 : Int32) * l2) + l3))) fun v4 => Option.bind (f_X12_localOf n σ ((mI σ 79)) v4) fun p5 => Option.bind (f_X12_put_ n p5.2 (2 : Int32) (p5.1)) fun p6 => lp p6.2 ((l3 + 1)))) j
noncomputable def f_X12_writeUnit (n : Nat) (σ0 : md_S) (a1 : Int32) (a2 : Int32) : Option (Int32 × md_S) :=
  Option.bind (f_X12_writeUnit_L2 n a1 a2 n σ0 0) fun q7 => if a1 = (10 : Int32) then (Option.bind (mldA q7.1 36 a2) fun v8 => if v8 = (3 : Int32) then (Option.bind (mldA q7.1 47 a2) fun v9 => if v9 = 0 then (f_X12_writeUnit_J73 n q7.1 a2 a1) else (f_X12_writeUnit_J74 n q7.1 a2 1 a1)) else (f_X12_writeUnit_J73 n q7.1 a2 a1)) else (f_X12_writeUnit_J73 n q7.1 a2 a1)
noncomputable def f_X12_writeOne_J469 (n : Nat) (rec : md_R) (l2 : Int32) (lp : md_S → Int32 → Option (md_S × Int32)) (σ : md_S) (l3 : Int32) : Option (md_S × Int32) :=
  Option.bind (rec 0 l3 0 0 σ) fun p1 => Option.bind (mldA p1.2 71 l3) fun v2 => lp p1.2 v2
noncomputable def f_X12_writeOne_L453 (n : Nat) (rec : md_R) (l2 : Int32) (j : Nat) : md_S → Int32 → Option (md_S × Int32) :=
  Nat.rec (motive := fun _ => md_S → Int32 → Option (md_S × Int32)) (fun _ _ => none) (fun _ lp => fun (σ : md_S) (l3 : Int32) =>
  if l3 = ((-1) : Int32) then (some (σ, l3)) else (if l3 = l2 then (f_X12_writeOne_J469 n rec l2 lp σ l3) else (Option.bind (f_X12_put n σ (16 : Int32)) fun p3 => f_X12_writeOne_J469 n rec l2 lp p3.2 l3))) j
noncomputable def f_X12_writeOne_J451 (n : Nat) (rec : md_R) (σ : md_S) (l2 : Int32) : Option (Int32 × md_S) :=
  Option.bind (f_X12_writeOne_L453 n rec l2 n σ l2) fun q4 => some ((0 : Int32), q4.1)
noncomputable def f_X12_writeOne_J360 (n : Nat) (rec : md_R) (σ : md_S) (l1 : Int32) (l2 : Int32) : Option (Int32 × md_S) :=
  Option.bind (rec 0 l2 0 0 σ) fun p5 => Option.bind (mldA p5.2 66 l1) fun v6 => Option.bind (f_X12_put n p5.2 v6) fun p7 => some ((0 : Int32), p7.2)
noncomputable def f_X12_writeOne_J336 (n : Nat) (rec : md_R) (σ : md_S) (l1 : Int32) : Option (Int32 × md_S) :=
  Option.bind (mldA σ 66 l1) fun v8 => Option.bind (f_X12_begins n σ v8 (1 : Int32)) fun p9 => Option.bind (mldA p9.2 68 l1) fun v10 => Option.bind (f_X12_putNumber n p9.2 v10) fun p11 => some ((0 : Int32), p11.2)
noncomputable def f_X12_writeOne_J326 (n : Nat) (rec : md_R) (σ : md_S) (l1 : Int32) (l2 : Int32) : Option (Int32 × md_S) :=
  if l2 = ((-1) : Int32) then (f_X12_writeOne_J336 n rec σ l1) else (Option.bind (rec 0 l2 0 0 σ) fun p12 => f_X12_writeOne_J336 n rec p12.2 l1)
noncomputable def f_X12_writeOne_J311 (n : Nat) (rec : md_R) (σ : md_S) (l1 : Int32) : Option (Int32 × md_S) :=
  Option.bind (mldA σ 68 l1) fun v13 => Option.bind (f_X12_writeUnit n σ (10 : Int32) v13) fun p14 => some ((0 : Int32), p14.2)
noncomputable def f_X12_writeOne (n : Nat) (rec : md_R) (σ0 : md_S) (a1 : Int32) : Option (Int32 × md_S) :=
  Option.bind (mldA σ0 70 a1) fun v15 => Option.bind (mldA σ0 66 a1) fun v16 => if v16 = 0 then (Option.bind (mldA σ0 68 a1) fun v17 => Option.bind (f_X12_put_ n σ0 (0 : Int32) v17) fun p18 => some ((0 : Int32), p18.2)) else (if v16 = 1 then (Option.bind (f_X12_put n σ0 (1 : Int32)) fun p19 => some ((0 : Int32), p19.2)) else (if v16 = 2 then (Option.bind (mldA σ0 68 a1) fun v20 => Option.bind (f_X12_localOf n σ0 ((mI σ0 79)) v20) fun p21 => Option.bind (f_X12_put_ n p21.2 (2 : Int32) (p21.1)) fun p22 => some ((0 : Int32), p22.2)) else (if v16 = 4 then (Option.bind (mldA σ0 68 a1) fun v23 => Option.bind (f_X12_put_ n σ0 (4 : Int32) v23) fun p24 => some ((0 : Int32), p24.2)) else (if v16 = 9 then (Option.bind (mldA σ0 68 a1) fun v25 => Option.bind (f_X12_writeUnit n σ0 (9 : Int32) v25) fun p26 => some ((0 : Int32), p26.2)) else (if v16 = 10 then (if v15 = ((-1) : Int32) then (f_X12_writeOne_J311 n rec σ0 a1) else (Option.bind (rec 0 v15 0 0 σ0) fun p27 => f_X12_writeOne_J311 n rec p27.2 a1)) else (if v16 = 19 then (Option.bind (rec 3 a1 v15 0 σ0) fun p28 => some ((0 : Int32), p28.2)) else (if v16 = 21 then (f_X12_writeOne_J360 n rec σ0 a1 v15) else (if v16 = 22 then (f_X12_writeOne_J360 n rec σ0 a1 v15) else (if v16 = 23 then (Option.bind (rec 0 v15 0 0 σ0) fun p29 => Option.bind (f_X12_groupNeeds n p29.2 a1) fun p30 => Option.bind (f_X12_begins n p30.2 (23 : Int32) (p30.1)) fun p31 => some ((0 : Int32), p31.2)) else (if v16 = 24 then (f_X12_writeOne_J360 n rec σ0 a1 v15) else (if v16 = 25 then (f_X12_writeOne_J326 n rec σ0 a1 v15) else (if v16 = 26 then (f_X12_writeOne_J326 n rec σ0 a1 v15) else (if v16 = 27 then (if (mI σ0 78) = 0 then (Option.bind (f_X12_put n σ0 (27 : Int32)) fun p32 => some ((0 : Int32), p32.2)) else (Option.bind (f_X12_localsOf n σ0 ((mI σ0 79))) fun p33 => Option.bind (f_X12_put_ n p33.2 (2 : Int32) (p33.1)) fun p34 => some ((0 : Int32), p34.2))) else (if v16 = 40 then (Option.bind (rec 0 v15 0 0 σ0) fun p35 => Option.bind (mldA p35.2 68 a1) fun v36 => Option.bind (f_X12_localOf n p35.2 ((mI p35.2 79)) v36) fun p37 => Option.bind (f_X12_put_ n p37.2 (3 : Int32) (p37.1)) fun p38 => Option.bind (mldA p38.2 71 v15) fun v39 => Option.bind (rec 0 v39 0 0 p38.2) fun p40 => some ((0 : Int32), p40.2)) else (if v16 = 41 then (Option.bind (rec 2 v15 0 0 σ0) fun p41 => some ((0 : Int32), p41.2)) else (f_X12_writeOne_J451 n rec σ0 v15))))))))))))))))
noncomputable def f_X12_writeSpine_J18 (n : Nat) (σ : md_S) (l1 : Int32) (l2 : Int32) : Option (Int32 × md_S) :=
  Option.bind (mldA σ 68 l1) fun v1 => Option.bind (f_X12_put_ n σ l2 v1) fun p2 => some ((0 : Int32), p2.2)
noncomputable def f_X12_writeSpine (n : Nat) (σ0 : md_S) (a1 : Int32) : Option (Int32 × md_S) :=
  Option.bind (mldA σ0 66 a1) fun v3 => if v3 = (5 : Int32) then (f_X12_writeSpine_J18 n σ0 a1 v3) else (if v3 = (6 : Int32) then (f_X12_writeSpine_J18 n σ0 a1 v3) else (if v3 = (7 : Int32) then (Option.bind (f_X12_groupNeeds n σ0 a1) fun p9 => Option.bind (f_X12_begins n p9.2 v3 (p9.1)) fun p10 => Option.bind (mldA p10.2 68 a1) fun v11 => Option.bind (f_X12_putNumber n p10.2 v11) fun p12 => Option.bind (mldA p12.2 69 a1) fun v13 => Option.bind (f_X12_putNumber n p12.2 v13) fun p14 => some ((0 : Int32), p14.2)) else (if v3 = (8 : Int32) then (Option.bind (f_X12_groupNeeds n σ0 a1) fun p5 => Option.bind (f_X12_begins n p5.2 v3 (p5.1)) fun p6 => Option.bind (mldA p6.2 68 a1) fun v7 => Option.bind (f_X12_putNumber n p6.2 v7) fun p8 => some ((0 : Int32), p8.2)) else (Option.bind (f_X12_put n σ0 v3) fun p4 => some ((0 : Int32), p4.2)))))
noncomputable def f_X12_write_L2 (n : Nat) (rec : md_R) (l1 : Int32) (j : Nat) : md_S → Int32 → Option (md_S × Int32) :=
  Nat.rec (motive := fun _ => md_S → Int32 → Option (md_S × Int32)) (fun _ _ => none) (fun _ lp => fun (σ : md_S) (l2 : Int32) =>
  Option.bind (mldA σ 66 l2) fun v1 => Option.bind (f_X12_isSpine n σ v1) fun p2 => if p2.1 = 0 then (some (p2.2, l2)) else (Option.bind (mldA p2.2 70 l2) fun v3 => lp p2.2 v3)) j
noncomputable def f_X12_write_L53 (n : Nat) (rec : md_R) (l1 : Int32) (l2 : Int32) (j : Nat) : md_S → Int32 → Option (md_S × Int32) :=
  Nat.rec (motive := fun _ => md_S → Int32 → Option (md_S × Int32)) (fun _ _ => none) (fun _ lp => fun (σ : md_S) (l3 : Int32) =>
  if l3 = ((-1) : Int32) then (some (σ, l3)) else (Option.bind (rec 0 l3 0 0 σ) fun p9 => Option.bind (mldA p9.2 71 l3) fun v10 => lp p9.2 v10)) j
noncomputable def f_X12_write_L29 (n : Nat) (rec : md_R) (l1 : Int32) (j : Nat) : md_S → Int32 → Option (md_S × Int32) :=
  Nat.rec (motive := fun _ => md_S → Int32 → Option (md_S × Int32)) (fun _ _ => none) (fun _ lp => fun (σ : md_S) (l2 : Int32) =>
  if l2 = l1 then (some (σ, l2)) else (Option.bind (mldA σ 72 l2) fun v6 => Option.bind (mldA σ 70 v6) fun v7 => Option.bind (mldA σ 71 v7) fun v8 => Option.bind (f_X12_write_L53 n rec l1 v6 n σ v8) fun q11 => Option.bind (f_X12_writeSpine n q11.1 v6) fun p12 => lp p12.2 v6)) j
noncomputable def f_X12_write (n : Nat) (rec : md_R) (σ0 : md_S) (a1 : Int32) : Option (Int32 × md_S) :=
  Option.bind (f_X12_write_L2 n rec a1 n σ0 a1) fun q4 => Option.bind (rec 1 (q4.2) 0 0 q4.1) fun p5 => Option.bind (f_X12_write_L29 n rec a1 n p5.2 (q4.2)) fun q13 => some ((0 : Int32), q13.1)
/-- the group w, to a depth -/
noncomputable def md_Gw (n d : Nat) : md_R :=
  Nat.rec (motive := fun _ => md_R) (fun _ _ _ _ _ => none) (fun _ rec => fun t a b c σ =>
    if t = 0 then f_X12_write n rec σ a else
    if t = 1 then f_X12_writeOne n rec σ a else
    if t = 2 then f_X12_writeIf n rec σ a else
    if t = 3 then f_X12_writeTry n rec σ a b else
    none) d
noncomputable def f_X12_writeAll_J76 (n : Nat) (l1 : Int32) (lp : md_S → Int32 → Option (md_S × Int32)) (σ : md_S) (l2 : Int32) : Option (md_S × Int32) :=
  Option.bind (mldA σ 41 l2) fun v4 => Option.bind (md_Gw n 1800 0 v4 0 0 σ) fun p5 => Option.bind (f_X12_put n p5.2 (28 : Int32)) fun p6 => Option.bind (mstA p6.2 77 ((((2 : Int32) * l2) + l1)) ((mI p6.2 75))) fun σ7 => lp σ7 ((l2 + 1))
noncomputable def f_X12_writeAll_L28 (n : Nat) (l1 : Int32) (j : Nat) : md_S → Int32 → Option (md_S × Int32) :=
  Nat.rec (motive := fun _ => md_S → Int32 → Option (md_S × Int32)) (fun _ _ => none) (fun _ lp => fun (σ : md_S) (l2 : Int32) =>
  if (mI σ 35) ≤ l2 then (some (σ, l2)) else (Option.bind (some (mSI σ 79 l2)) fun σ8 => Option.bind (mstA σ8 76 ((((2 : Int32) * l2) + l1)) ((mI σ8 75))) fun σ9 => if (mI σ9 78) = 0 then (f_X12_writeAll_J76 n l1 lp σ9 l2) else (Option.bind (mldA σ9 47 l2) fun v10 => if v10 = 0 then (f_X12_writeAll_J76 n l1 lp σ9 l2) else (Option.bind (f_X12_opening n σ9 l2) fun p11 => f_X12_writeAll_J76 n l1 lp p11.2 l2)))) j
noncomputable def f_X12_writeAll_J23 (n : Nat) (lp : md_S → Int32 → Option (md_S × Int32)) (σ : md_S) (l1 : Int32) (t0 : Int32) : Option (md_S × Int32) :=
  Option.bind (md_zb t0) fun z2 => Option.bind (some (mSI σ 78 t0)) fun σ3 => Option.bind (f_X12_writeAll_L28 n l1 n σ3 0) fun q12 => lp q12.1 ((l1 + 1))
noncomputable def f_X12_writeAll_L7 (n : Nat) (j : Nat) : md_S → Int32 → Option (md_S × Int32) :=
  Nat.rec (motive := fun _ => md_S → Int32 → Option (md_S × Int32)) (fun _ _ => none) (fun _ lp => fun (σ : md_S) (l1 : Int32) =>
  if (2 : Int32) ≤ l1 then (some (σ, l1)) else (if l1 = (1 : Int32) then (f_X12_writeAll_J23 n lp σ l1 1) else (f_X12_writeAll_J23 n lp σ l1 0))) j
noncomputable def f_X12_writeAll (n : Nat) (σ0 : md_S) : Option (Int32 × md_S) :=
  Option.bind (some (mSI σ0 75 0)) fun σ1 => Option.bind (f_X12_writeAll_L7 n n σ1 0) fun q13 => some ((0 : Int32), q13.1)
noncomputable def f_X12_program_J165 (n : Nat) (σ : md_S) (t0 : Int32) : Option (Int32 × md_S) :=
  Option.bind (some (mSI σ 0 t0)) fun σ1 => if (mI σ1 5) = 0 then (some ((0 : Int32), σ1)) else (Option.bind (f_X12_findDomains n σ1 ) fun p2 => Option.bind (f_X12_findNeeds n p2.2 ) fun p3 => Option.bind (f_X12_writeAll n p3.2 ) fun p4 => some ((mI p4.2 35), p4.2))
noncomputable def f_X12_program_L10 (n : Nat) (j : Nat) : md_S → Int32 → Option (md_S × Int32) :=
  Nat.rec (motive := fun _ => md_S → Int32 → Option (md_S × Int32)) (fun _ _ => none) (fun _ lp => fun (σ : md_S) (l1 : Int32) =>
  if (mI σ 4) ≤ l1 then (some (σ, l1)) else (Option.bind (mldA σ 1 l1) fun v6 => Option.bind (mstA σ 3 l1 v6) fun σ7 => lp σ7 ((l1 + 1)))) j
noncomputable def f_X12_program (n : Nat) (σ0 : md_S) : Option (Int32 × md_S) :=
  Option.bind (some (mSI σ0 4 ((mI σ0 2)))) fun σ5 => Option.bind (f_X12_program_L10 n n σ5 0) fun q8 => Option.bind (some (mSI q8.1 2 0)) fun σ9 => Option.bind (some (mSI σ9 86 0)) fun σ10 => Option.bind (some (mSI σ10 5 0)) fun σ11 => Option.bind (some (mSI σ11 6 0)) fun σ12 => Option.bind (some (mSI σ12 7 ((-1)))) fun σ13 => Option.bind (some (mSI σ13 20 0)) fun σ14 => Option.bind (some (mSI σ14 22 0)) fun σ15 => Option.bind (some (mSI σ15 25 0)) fun σ16 => Option.bind (some (mSI σ16 35 0)) fun σ17 => Option.bind (some (mSI σ17 48 0)) fun σ18 => Option.bind (some (mSI σ18 50 0)) fun σ19 => Option.bind (some (mSI σ19 56 0)) fun σ20 => Option.bind (some (mSI σ20 58 0)) fun σ21 => Option.bind (some (mSI σ21 60 0)) fun σ22 => Option.bind (some (mSI σ22 62 0)) fun σ23 => Option.bind (some (mSI σ23 63 0)) fun σ24 => Option.bind (some (mSI σ24 65 0)) fun σ25 => Option.bind (some (mSI σ25 64 ((-1)))) fun σ26 => Option.bind (some (mSI σ26 16 4)) fun σ27 => Option.bind (some (mSI σ27 10 0)) fun σ28 => Option.bind (f_X12_next n σ28 ) fun p29 => Option.bind (f_X12_readAll n p29.2 ) fun p30 => Option.bind (f_X12_isFine n p30.2 ) fun p31 => Option.bind (md_zb (p31.1)) fun z32 => Option.bind (some (mSI p31.2 5 (p31.1))) fun σ33 => if (mI σ33 5) = 0 then (f_X12_program_J165 n σ33 1) else (f_X12_program_J165 n σ33 0)
noncomputable def f_X12_fault (n : Nat) (σ0 : md_S) (a1 : Int32) : Option (Int32 × md_S) :=
  Option.bind (some (mSI σ0 0 0)) fun σ1 => if a1 = 0 then (some ((mI σ1 6), σ1)) else (if a1 = (1 : Int32) then (some ((mI σ1 7), σ1)) else (some (((-1) : Int32), σ1)))
noncomputable def f_X12_count_J66 (n : Nat) (l1 : Int32) (lp : md_S → Int32 → Int32 → Option (md_S × Int32 × Int32)) (σ : md_S) (l3 : Int32) (t0 : Int32) (t1 : Int32) : Option (md_S × Int32 × Int32) :=
  lp σ ((t1 + t0)) ((l3 + 1))
noncomputable def f_X12_count_L43 (n : Nat) (l1 : Int32) (j : Nat) : md_S → Int32 → Int32 → Option (md_S × Int32 × Int32) :=
  Nat.rec (motive := fun _ => md_S → Int32 → Int32 → Option (md_S × Int32 × Int32)) (fun _ _ _ => none) (fun _ lp => fun (σ : md_S) (l2 : Int32) (l3 : Int32) =>
  if (mI σ 35) ≤ l3 then (some (σ, l2, l3)) else (Option.bind (mldA σ 47 l3) fun v3 => if v3 = 0 then (f_X12_count_J66 n l1 lp σ l3 0 l2) else (f_X12_count_J66 n l1 lp σ l3 1 l2))) j
noncomputable def f_X12_count (n : Nat) (σ0 : md_S) (a1 : Int32) : Option (Int32 × md_S) :=
  Option.bind (some (mSI σ0 0 0)) fun σ1 => if a1 = (9 : Int32) then (some ((mI σ1 2), σ1)) else (Option.bind (f_X12_in n σ1 ((a1.toInt64)) (0 : Int64) (8 : Int64)) fun p2 => if p2.1 = 0 then (some (((-1) : Int32), p2.2)) else (if (mI p2.2 5) = 0 then (some ((0 : Int32), p2.2)) else (Option.bind (f_X12_count_L43 n a1 n p2.2 0 0) fun q4 => Option.bind (mstA q4.1 80 ((0 : Int32)) ((mI q4.1 35))) fun σ5 => Option.bind (mstA σ5 80 ((1 : Int32)) ((mI σ5 25))) fun σ6 => Option.bind (mstA σ6 80 ((2 : Int32)) ((mI σ6 20))) fun σ7 => Option.bind (mstA σ7 80 ((3 : Int32)) ((mI σ7 34))) fun σ8 => Option.bind (mstA σ8 80 ((4 : Int32)) ((mI σ8 22))) fun σ9 => Option.bind (mstA σ9 80 ((5 : Int32)) ((mI σ9 48))) fun σ10 => Option.bind (mstA σ10 80 ((6 : Int32)) (q4.2.1)) fun σ11 => Option.bind (mstA σ11 80 ((7 : Int32)) ((mI σ11 58))) fun σ12 => Option.bind (mstA σ12 80 ((8 : Int32)) ((mI σ12 60))) fun σ13 => Option.bind (mldA σ13 80 a1) fun v14 => some (v14, σ13))))
noncomputable def f_X12_isUnit (n : Nat) (σ0 : md_S) (a1 : Int32) : Option (Int32 × md_S) :=
  if (mI σ0 5) = 0 then (some ((0 : Int32), σ0)) else (Option.bind (f_X12_in n σ0 ((a1.toInt64)) (0 : Int64) ((((mI σ0 35) - 1).toInt64))) fun p1 => if p1.1 = 0 then (some ((0 : Int32), p1.2)) else (some ((1 : Int32), p1.2)))
noncomputable def f_X12_unit (n : Nat) (σ0 : md_S) (a1 : Int32) (a2 : Int32) : Option (Int32 × md_S) :=
  Option.bind (some (mSI σ0 0 0)) fun σ1 => Option.bind (f_X12_isUnit n σ1 a1) fun p2 => if p2.1 = 0 then (some (((-1) : Int32), p2.2)) else (if a2 = 0 then (Option.bind (mldA p2.2 36 a1) fun v3 => some (v3, p2.2)) else (if a2 = 1 then (Option.bind (mldA p2.2 37 a1) fun v4 => some (v4, p2.2)) else (if a2 = 2 then (Option.bind (mldA p2.2 38 a1) fun v5 => some (v5, p2.2)) else (if a2 = 3 then (Option.bind (mldA p2.2 39 a1) fun v6 => some (v6, p2.2)) else (if a2 = 4 then (Option.bind (mldA p2.2 44 a1) fun v7 => some (v7, p2.2)) else (if a2 = 5 then (Option.bind (f_X12_localsOf n p2.2 a1) fun p8 => some (p8.1, p8.2)) else (if a2 = 6 then (Option.bind (mldA p2.2 47 a1) fun v9 => if v9 = 0 then (some ((0 : Int32), p2.2)) else (some ((1 : Int32), p2.2))) else (if a2 = 7 then (Option.bind (mldA p2.2 77 (((2 : Int32) * a1))) fun v10 => Option.bind (mldA p2.2 76 (((2 : Int32) * a1))) fun v11 => some ((v10 - v11), p2.2)) else (if a2 = 8 then (Option.bind (mldA p2.2 77 ((((2 : Int32) * a1) + 1))) fun v12 => Option.bind (mldA p2.2 76 ((((2 : Int32) * a1) + 1))) fun v13 => some ((v12 - v13), p2.2)) else (some (((-1) : Int32), p2.2)))))))))))
noncomputable def f_X12_code_J27 (n : Nat) (σ : md_S) (l3 : Int32) (t0 : Int32) (t1 : Int32) : Option (Int32 × md_S) :=
  Option.bind (mldA σ 77 ((t1 + t0))) fun v1 => Option.bind (mldA σ 76 ((t1 + t0))) fun v2 => Option.bind (f_X12_in n σ ((l3.toInt64)) (0 : Int64) ((((v1 - v2) - 1).toInt64))) fun p3 => if p3.1 = 0 then (some (((-1) : Int32), p3.2)) else (Option.bind (mldA p3.2 76 ((t1 + t0))) fun v4 => Option.bind (mldA p3.2 74 ((v4 + l3))) fun v5 => some ((v5 &&& 255), p3.2))
noncomputable def f_X12_code (n : Nat) (σ0 : md_S) (a1 : Int32) (a2 : Int32) (a3 : Int32) : Option (Int32 × md_S) :=
  Option.bind (some (mSI σ0 0 0)) fun σ6 => Option.bind (f_X12_isUnit n σ6 a1) fun p7 => if p7.1 = 0 then (some (((-1) : Int32), p7.2)) else (if a2 = 0 then (f_X12_code_J27 n p7.2 a3 0 (((2 : Int32) * a1))) else (f_X12_code_J27 n p7.2 a3 1 (((2 : Int32) * a1))))
noncomputable def f_X12_number (n : Nat) (σ0 : md_S) (a1 : Int32) : Option (Int32 × md_S) :=
  Option.bind (some (mSI σ0 0 0)) fun σ1 => if (mI σ1 5) = 0 then (some ((0 : Int32), σ1)) else (Option.bind (f_X12_in n σ1 ((a1.toInt64)) (0 : Int64) ((((mI σ1 58) - 1).toInt64))) fun p2 => if p2.1 = 0 then (some ((0 : Int32), p2.2)) else (Option.bind (mldA p2.2 59 a1) fun v3 => some (v3, p2.2)))
noncomputable def f_X12_domain (n : Nat) (σ0 : md_S) (a1 : Int32) : Option (Int32 × md_S) :=
  Option.bind (some (mSI σ0 0 0)) fun σ1 => if (mI σ1 5) = 0 then (some (((-1) : Int32), σ1)) else (Option.bind (f_X12_in n σ1 ((a1.toInt64)) (0 : Int64) ((((mI σ1 25) - 1).toInt64))) fun p2 => if p2.1 = 0 then (some (((-1) : Int32), p2.2)) else (Option.bind (mldA p2.2 32 a1) fun v3 => some (v3, p2.2)))
noncomputable def f_X12_asks_J206 (n : Nat) (σ : md_S) (l1 : Int32) (l2 : Int32) (l3 : Int32) : Option (Int32 × md_S) :=
  Option.bind (some (mSI σ 6 l1)) fun σ1 => Option.bind (some (mSI σ1 7 l2)) fun σ2 => Option.bind (md_zb l3) fun z3 => some (z3, σ2)
noncomputable def f_X12_asks_J177 (n : Nat) (σ : md_S) (l1 : Int32) (l2 : Int32) (l4 : Int64) (l6 : Int32) (t0 : Int32) : Option (Int32 × md_S) :=
  if t0 = 0 then (f_X12_asks_J206 n σ l1 l2 t0) else (Option.bind (some (mSI σ 14 l6)) fun σ4 => Option.bind (f_X12_keepPattern n σ4 (264 : Int32)) fun p5 => Option.bind (some (mSJ p5.2 82 l4)) fun σ6 => Option.bind (some (mSI σ6 81 1)) fun σ7 => f_X12_asks_J206 n σ7 l1 l2 t0)
noncomputable def f_X12_asks_J176 (n : Nat) (σ : md_S) (l1 : Int32) (l2 : Int32) (l4 : Int64) (l6 : Int32) : Option (Int32 × md_S) :=
  f_X12_asks_J177 n σ l1 l2 l4 l6 0
noncomputable def f_X12_asks_J138 (n : Nat) (σ : md_S) (l1 : Int32) (l2 : Int32) (l3 : Int32) (l4 : Int64) : Option (Int32 × md_S) :=
  if l3 = 0 then (f_X12_asks_J206 n σ l1 l2 l3) else (Option.bind (f_X12_next n σ ) fun p8 => Option.bind (f_X12_isFine n p8.2 ) fun p9 => if p9.1 = 0 then (f_X12_asks_J176 n p9.2 l1 l2 l4 ((mI σ 14))) else (if (mI p9.2 8) = 0 then (f_X12_asks_J177 n p9.2 l1 l2 l4 ((mI σ 14)) 1) else (f_X12_asks_J176 n p9.2 l1 l2 l4 ((mI σ 14)))))
noncomputable def f_X12_asks_J137 (n : Nat) (σ : md_S) (l1 : Int32) (l2 : Int32) (l4 : Int64) (t0 : Int32) : Option (Int32 × md_S) :=
  f_X12_asks_J138 n σ l1 l2 t0 l4
noncomputable def f_X12_asks_J136 (n : Nat) (σ : md_S) (l1 : Int32) (l2 : Int32) (l4 : Int64) : Option (Int32 × md_S) :=
  f_X12_asks_J137 n σ l1 l2 l4 0
noncomputable def f_X12_asks_J95 (n : Nat) (σ : md_S) (l1 : Int32) (l2 : Int32) (t0 : Int32) : Option (Int32 × md_S) :=
  if t0 = 0 then (f_X12_asks_J138 n σ l1 l2 t0 ((mJ σ 12))) else (Option.bind (f_X12_next n σ ) fun p10 => Option.bind (f_X12_isFine n p10.2 ) fun p11 => if p11.1 = 0 then (f_X12_asks_J136 n p11.2 l1 l2 ((mJ σ 12))) else (if (mI p11.2 8) = (4 : Int32) then (if (mI p11.2 15) = 0 then (f_X12_asks_J137 n p11.2 l1 l2 ((mJ σ 12)) 1) else (f_X12_asks_J136 n p11.2 l1 l2 ((mJ σ 12)))) else (f_X12_asks_J136 n p11.2 l1 l2 ((mJ σ 12)))))
noncomputable def f_X12_asks_J94 (n : Nat) (σ : md_S) (l1 : Int32) (l2 : Int32) : Option (Int32 × md_S) :=
  f_X12_asks_J95 n σ l1 l2 0
noncomputable def f_X12_asks_L25 (n : Nat) (l1 : Int32) (l2 : Int32) (j : Nat) : md_S → Int32 → Option (md_S × Int32) :=
  Nat.rec (motive := fun _ => md_S → Int32 → Option (md_S × Int32)) (fun _ _ => none) (fun _ lp => fun (σ : md_S) (l3 : Int32) =>
  if (mI σ 4) ≤ l3 then (some (σ, l3)) else (Option.bind (mldA σ 1 l3) fun v14 => Option.bind (mstA σ 3 l3 v14) fun σ15 => lp σ15 ((l3 + 1)))) j
noncomputable def f_X12_asks (n : Nat) (σ0 : md_S) : Option (Int32 × md_S) :=
  Option.bind (some (mSI σ0 0 0)) fun σ12 => Option.bind (some (mSI σ12 4 ((mI σ12 2)))) fun σ13 => Option.bind (f_X12_asks_L25 n ((mI σ12 6)) ((mI σ12 7)) n σ13 0) fun q16 => Option.bind (some (mSI q16.1 2 0)) fun σ17 => Option.bind (some (mSI σ17 6 0)) fun σ18 => Option.bind (some (mSI σ18 16 5)) fun σ19 => Option.bind (some (mSI σ19 10 0)) fun σ20 => Option.bind (f_X12_next n σ20 ) fun p21 => Option.bind (f_X12_isFine n p21.2 ) fun p22 => if p22.1 = 0 then (f_X12_asks_J94 n p22.2 ((mI σ12 6)) ((mI σ12 7))) else (if (mI p22.2 8) = (1 : Int32) then (f_X12_asks_J95 n p22.2 ((mI σ12 6)) ((mI σ12 7)) 1) else (f_X12_asks_J94 n p22.2 ((mI σ12 6)) ((mI σ12 7))))
noncomputable def f_X12_has_J79 (n : Nat) (σ : md_S) (t0 : Int32) : Option (Int32 × md_S) :=
  if t0 = 0 then (some ((0 : Int32), σ)) else (some ((1 : Int32), σ))
noncomputable def f_X12_has_J37 (n : Nat) (σ : md_S) (l1 : Int32) (l2 : Int32) (t0 : Int32) (t1 : Int64) (t2 : Int64) : Option (Int32 × md_S) :=
  Option.bind (f_X12_in n σ t2 t1 (((t0 - 1).toInt64))) fun p1 => if p1.1 = 0 then (some (((-1) : Int32), p1.2)) else (if l2 = 0 then (Option.bind (f_X12_hasDomain n p1.2 l1 ((mJ p1.2 82)) (264 : Int32)) fun p2 => f_X12_has_J79 n p2.2 (p2.1)) else (Option.bind (f_X12_hasLimit n p1.2 l1 ((mJ p1.2 82)) (264 : Int32)) fun p3 => f_X12_has_J79 n p3.2 (p3.1)))
noncomputable def f_X12_has (n : Nat) (σ0 : md_S) (a1 : Int32) (a2 : Int32) : Option (Int32 × md_S) :=
  Option.bind (some (mSI σ0 0 0)) fun σ4 => if (mI σ4 5) = 0 then (some (((-1) : Int32), σ4)) else (if (mI σ4 81) = 0 then (some (((-1) : Int32), σ4)) else (if a2 = 0 then (f_X12_has_J37 n σ4 a1 a2 ((mI σ4 34)) 0 ((a1.toInt64))) else (f_X12_has_J37 n σ4 a1 a2 ((mI σ4 22)) 0 ((a1.toInt64)))))
noncomputable def f_X12_own (n : Nat) (σ0 : md_S) (a1 : Int32) : Option (Int32 × md_S) :=
  Option.bind (mldA σ0 37 a1) fun v1 => Option.bind (mldA σ0 32 v1) fun v2 => if (((mI σ0 85) >>> (v2 &&& 31)) &&& 1) = (1 : Int32) then (some ((1 : Int32), σ0)) else (some ((0 : Int32), σ0))
noncomputable def f_X12_adds_J26 (n : Nat) (σ : md_S) (l1 : Int32) (l3 : Int32) (t0 : Int32) : Option (Int32 × md_S) :=
  Option.bind (mldA σ 83 l1) fun v1 => Option.bind (mstA σ 83 l1 ((v1 ||| l3))) fun σ2 => Option.bind (md_zb t0) fun z3 => some (z3, σ2)
noncomputable def f_X12_adds_J9 (n : Nat) (σ : md_S) (l1 : Int32) (t0 : Int32) : Option (Int32 × md_S) :=
  Option.bind (mldA σ 83 l1) fun v4 => if (v4 &&& t0) = 0 then (f_X12_adds_J26 n σ l1 t0 1) else (f_X12_adds_J26 n σ l1 t0 0)
noncomputable def f_X12_adds (n : Nat) (σ0 : md_S) (a1 : Int32) (a2 : Int32) : Option (Int32 × md_S) :=
  if a2 = 0 then (f_X12_adds_J9 n σ0 a1 2) else (f_X12_adds_J9 n σ0 a1 1)
noncomputable def f_X12_goesOn_J305 (n : Nat) (σ : md_S) (t0 : Int32) (t1 : Int32) : Option (Int32 × md_S) :=
  Option.bind (f_X12_adds n σ t1 t0) fun p1 => Option.bind (md_zb (p1.1)) fun z2 => some (z2, p1.2)
noncomputable def f_X12_goesOn_J304 (n : Nat) (σ : md_S) (t0 : Int32) : Option (Int32 × md_S) :=
  f_X12_goesOn_J305 n σ 0 t0
noncomputable def f_X12_goesOn_J281 (n : Nat) (σ : md_S) (l5 : Int32) (t0 : Int32) : Option (Int32 × md_S) :=
  if t0 = 0 then (f_X12_goesOn_J304 n σ l5) else (Option.bind (f_X12_own n σ l5) fun p3 => if p3.1 = 0 then (f_X12_goesOn_J304 n p3.2 l5) else (f_X12_goesOn_J305 n p3.2 1 l5))
noncomputable def f_X12_goesOn_J276 (n : Nat) (σ : md_S) (l5 : Int32) : Option (Int32 × md_S) :=
  f_X12_goesOn_J281 n σ l5 1
noncomputable def f_X12_goesOn_J130 (n : Nat) (σ : md_S) (l5 : Int32) (t0 : Int32) : Option (Int32 × md_S) :=
  Option.bind (some (mSI σ 84 (((mI σ 84) ||| l5)))) fun σ4 => Option.bind (md_zb t0) fun z5 => some (z5, σ4)
noncomputable def f_X12_goesOn_J113 (n : Nat) (σ : md_S) (t0 : Int32) : Option (Int32 × md_S) :=
  if ((mI σ 84) &&& t0) = 0 then (f_X12_goesOn_J130 n σ t0 1) else (f_X12_goesOn_J130 n σ t0 0)
noncomputable def f_X12_goesOn_J89 (n : Nat) (l1 : Int32) (l2 : Int32) (lp : md_S → Int32 → Int32 → Option (md_S × Int32 × Int32)) (σ : md_S) (l4 : Int32) (l5 : Int32) : Option (md_S × Int32 × Int32) :=
  lp σ l4 ((l5 + 1))
noncomputable def f_X12_goesOn_J87 (n : Nat) (l1 : Int32) (l2 : Int32) (lp : md_S → Int32 → Int32 → Option (md_S × Int32 × Int32)) (σ : md_S) (l5 : Int32) (t0 : Int32) : Option (md_S × Int32 × Int32) :=
  f_X12_goesOn_J89 n l1 l2 lp σ t0 l5
noncomputable def f_X12_goesOn_J82 (n : Nat) (l1 : Int32) (l2 : Int32) (lp : md_S → Int32 → Int32 → Option (md_S × Int32 × Int32)) (σ : md_S) (l5 : Int32) : Option (md_S × Int32 × Int32) :=
  f_X12_goesOn_J87 n l1 l2 lp σ l5 1
noncomputable def f_X12_goesOn_J71 (n : Nat) (l1 : Int32) (l2 : Int32) (lp : md_S → Int32 → Int32 → Option (md_S × Int32 × Int32)) (σ : md_S) (l4 : Int32) (l5 : Int32) (t0 : Int32) (t1 : Int32) : Option (md_S × Int32 × Int32) :=
  Option.bind (f_X12_adds n σ t1 t0) fun p6 => if p6.1 = 0 then (if l4 = 0 then (f_X12_goesOn_J87 n l1 l2 lp p6.2 l5 0) else (f_X12_goesOn_J82 n l1 l2 lp p6.2 l5)) else (f_X12_goesOn_J82 n l1 l2 lp p6.2 l5)
noncomputable def f_X12_goesOn_J70 (n : Nat) (l1 : Int32) (l2 : Int32) (lp : md_S → Int32 → Int32 → Option (md_S × Int32 × Int32)) (σ : md_S) (l4 : Int32) (l5 : Int32) (t0 : Int32) : Option (md_S × Int32 × Int32) :=
  f_X12_goesOn_J71 n l1 l2 lp σ l4 l5 0 t0
noncomputable def f_X12_goesOn_L31 (n : Nat) (l1 : Int32) (l2 : Int32) (j : Nat) : md_S → Int32 → Int32 → Option (md_S × Int32 × Int32) :=
  Nat.rec (motive := fun _ => md_S → Int32 → Int32 → Option (md_S × Int32 × Int32)) (fun _ _ _ => none) (fun _ lp => fun (σ : md_S) (l4 : Int32) (l5 : Int32) =>
  if (mI σ 35) ≤ l5 then (some (σ, l4, l5)) else (Option.bind (f_X12_isOfGroup n σ l1 l5) fun p7 => if p7.1 = 0 then (f_X12_goesOn_J89 n l1 l2 lp p7.2 l4 l5) else (if l2 = 0 then (f_X12_goesOn_J70 n l1 l2 lp p7.2 l4 l5 l5) else (Option.bind (f_X12_own n p7.2 l5) fun p8 => if p8.1 = 0 then (f_X12_goesOn_J70 n l1 l2 lp p8.2 l4 l5 l5) else (f_X12_goesOn_J71 n l1 l2 lp p8.2 l4 l5 1 l5))))) j
noncomputable def f_X12_goesOn_J28 (n : Nat) (σ : md_S) (l1 : Int32) (l2 : Int32) (l4 : Int32) : Option (Int32 × md_S) :=
  Option.bind (f_X12_goesOn_L31 n l1 l2 n σ l4 0) fun q9 => Option.bind (md_zb (q9.2.1)) fun z10 => some (z10, q9.1)
noncomputable def f_X12_goesOn_J229 (n : Nat) (l5 : Int32) (lp : md_S → Int32 → Int32 → Option (md_S × Int32 × Int32)) (σ : md_S) (l6 : Int32) (t0 : Int32) : Option (md_S × Int32 × Int32) :=
  lp σ t0 ((l6 + 1))
noncomputable def f_X12_goesOn_J224 (n : Nat) (l5 : Int32) (lp : md_S → Int32 → Int32 → Option (md_S × Int32 × Int32)) (σ : md_S) (l6 : Int32) : Option (md_S × Int32 × Int32) :=
  f_X12_goesOn_J229 n l5 lp σ l6 1
noncomputable def f_X12_goesOn_J219 (n : Nat) (l5 : Int32) (lp : md_S → Int32 → Int32 → Option (md_S × Int32 × Int32)) (σ : md_S) (l4 : Int32) (l6 : Int32) : Option (md_S × Int32 × Int32) :=
  if l4 = 0 then (f_X12_goesOn_J229 n l5 lp σ l6 0) else (f_X12_goesOn_J224 n l5 lp σ l6)
noncomputable def f_X12_goesOn_J213 (n : Nat) (l5 : Int32) (lp : md_S → Int32 → Int32 → Option (md_S × Int32 × Int32)) (σ : md_S) (l4 : Int32) (l6 : Int32) (t0 : Int32) (t1 : Int32) : Option (md_S × Int32 × Int32) :=
  Option.bind (f_X12_adds n σ t1 t0) fun p16 => if p16.1 = 0 then (f_X12_goesOn_J219 n l5 lp p16.2 l4 l6) else (f_X12_goesOn_J224 n l5 lp p16.2 l6)
noncomputable def f_X12_goesOn_J212 (n : Nat) (l5 : Int32) (lp : md_S → Int32 → Int32 → Option (md_S × Int32 × Int32)) (σ : md_S) (l4 : Int32) (l6 : Int32) (t0 : Int32) : Option (md_S × Int32 × Int32) :=
  f_X12_goesOn_J213 n l5 lp σ l4 l6 0 t0
noncomputable def f_X12_goesOn_L174 (n : Nat) (l5 : Int32) (j : Nat) : md_S → Int32 → Int32 → Option (md_S × Int32 × Int32) :=
  Nat.rec (motive := fun _ => md_S → Int32 → Int32 → Option (md_S × Int32 × Int32)) (fun _ _ _ => none) (fun _ lp => fun (σ : md_S) (l4 : Int32) (l6 : Int32) =>
  if (3 : Int32) ≤ l6 then (some (σ, l4, l6)) else (if ((mI σ 84) &&& l6) = 0 then (f_X12_goesOn_J219 n l5 lp σ l4 l6) else (if l6 = (1 : Int32) then (Option.bind (f_X12_own n σ l5) fun p17 => if p17.1 = 0 then (f_X12_goesOn_J212 n l5 lp p17.2 l4 l6 l5) else (f_X12_goesOn_J213 n l5 lp p17.2 l4 l6 1 l5)) else (f_X12_goesOn_J212 n l5 lp σ l4 l6 l5)))) j
noncomputable def f_X12_goesOn (n : Nat) (σ0 : md_S) (a1 : Int32) (a2 : Int32) : Option (Int32 × md_S) :=
  Option.bind (mldA σ0 66 a1) fun v11 => if v11 = (7 : Int32) then (f_X12_goesOn_J28 n σ0 a1 a2 0) else (if v11 = (8 : Int32) then (f_X12_goesOn_J28 n σ0 a1 a2 0) else (if v11 = (23 : Int32) then (f_X12_goesOn_J28 n σ0 a1 a2 0) else (if v11 = (27 : Int32) then (if a2 = 0 then (f_X12_goesOn_J113 n σ0 2) else (f_X12_goesOn_J113 n σ0 1)) else (if v11 = (10 : Int32) then (Option.bind (mldA σ0 68 a1) fun v12 => Option.bind (mldA σ0 36 v12) fun v13 => if v13 = (4 : Int32) then (Option.bind (f_X12_goesOn_L174 n v12 n σ0 0 1) fun q18 => Option.bind (md_zb (q18.2.1)) fun z19 => some (z19, q18.1)) else (Option.bind (mldA σ0 36 v12) fun v14 => if v14 = (2 : Int32) then (f_X12_goesOn_J276 n σ0 v12) else (if a2 = 0 then (Option.bind (mldA σ0 42 v12) fun v15 => if (((mI σ0 85) >>> (((8 : Int32) + v15) &&& 31)) &&& 1) = (1 : Int32) then (f_X12_goesOn_J276 n σ0 v12) else (f_X12_goesOn_J281 n σ0 v12 0)) else (f_X12_goesOn_J276 n σ0 v12)))) else (some ((0 : Int32), σ0))))))
noncomputable def f_X12_bitsOf_J36 (n : Nat) (l1 : Int64) (l3 : Int32) (lp : md_S → Int32 → Int32 → Option (md_S × Int32 × Int32)) (σ : md_S) (l5 : Int32) (t0 : Int32) (t1 : Int32) : Option (md_S × Int32 × Int32) :=
  lp σ ((t1 ||| t0)) ((l5 + 1))
noncomputable def f_X12_bitsOf_L6 (n : Nat) (l1 : Int64) (l3 : Int32) (j : Nat) : md_S → Int32 → Int32 → Option (md_S × Int32 × Int32) :=
  Nat.rec (motive := fun _ => md_S → Int32 → Int32 → Option (md_S × Int32 × Int32)) (fun _ _ _ => none) (fun _ lp => fun (σ : md_S) (l4 : Int32) (l5 : Int32) =>
  if (mI σ 34) ≤ l5 then (some (σ, l4, l5)) else (Option.bind (f_X12_hasDomain n σ l5 l1 l3) fun p1 => if p1.1 = 0 then (f_X12_bitsOf_J36 n l1 l3 lp p1.2 l5 0 l4) else (f_X12_bitsOf_J36 n l1 l3 lp p1.2 l5 (((1 : Int32) <<< (l5 &&& 31))) l4))) j
noncomputable def f_X12_bitsOf_J81 (n : Nat) (l1 : Int64) (l3 : Int32) (lp : md_S → Int32 → Int32 → Option (md_S × Int32 × Int32)) (σ : md_S) (l5 : Int32) (t0 : Int32) (t1 : Int32) : Option (md_S × Int32 × Int32) :=
  lp σ ((t1 ||| t0)) ((l5 + 1))
