/-! the start: the constructors from an empty heap, looked at once; the law's model always comes to its end -/
/-- no cell of ours, n cells of others -/
def hE (n : Nat) : MHp := mkH (fun _ => 0) (fun _ => 0) (fun _ _ => 0) (fun _ _ => 0) (fun _ _ => none) (fun _ _ => 0) (fun _ _ => 0) (fun _ _ => none) n 0
def st1 : Option MHp := (some (nO (hE 0) 12 16)).bind fun h => mX11_init h (hS (hE 0))
def st2 : Option MHp := st1.bind fun H => (some (nO H 17 51)).bind fun h => mX16_init h (hS H)
def st3 : Option MHp := st2.bind fun R => some (nA R 21 1)
def ckI : List (Nat × Nat × Int32) := [(57, 4, 0), (57, 5, 0), (0, 13, 0), (0, 14, 0), (0, 15, 0), (55, 1, 0), (56, 6, 0), (56, 7, 0), (185, 1, -1), (194, 1, -1), (206, 0, 0), (206, 2, 0), (208, 10, 0), (208, 7, 0), (208, 18, 0), (208, 49, 0), (208, 1, 0), (208, 3, 0), (208, 2, -1), (208, 19, 0), (208, 32, -1), (208, 34, -1), (208, 37, 3), (208, 38, 3), (208, 39, 10), (208, 40, 0)]
def ckJ : List (Nat × Nat × Int32) := [(184, 0, 3), (184, 1, 3), (184, 2, 10), (184, 3, 0), (1, 0, 0), (110, 0, 0), (111, 0, 0), (112, 0, 0), (113, 0, 0), (114, 0, 0), (115, 0, 0), (199, 0, 0), (211, 0, 0), (212, 0, 0), (213, 0, 0), (214, 0, 0), (215, 0, 0), (218, 0, 0), (220, 0, 0), (226, 0, 0)]
def ck3 (H : MHp) : Bool := (List.range 208).all (fun k => decide (hK H k = clK.getD k 0) && decide (hN H k = clN.getD k 0)) && (clR.all (fun x => decide (hR H x.1 x.2.1 = some x.2.2)) && (clA.all (fun x => decide (hAR H x.1 x.2.1 = some x.2.2)) && (ckI.all (fun x => decide (hI H x.1 x.2.1 = x.2.2)) && (ckJ.all (fun x => decide (hAI H x.1 x.2.1 = x.2.2)) && ((List.range 26).all (fun k => decide (hK H (208 + k) = rlK.getD k 0) && decide (hN H (208 + k) = rlN.getD k 0)) && (rlR.all (fun x => decide (hR H (208 + x.1) x.2.1 = some (208 + x.2.2))) && (decide (hR H 56 5 = some 57) && (decide (hR H 0 12 = some 2) && (decide (hR H 208 4 = none) && decide (hS H = 234))))))))))
theorem st1_ok : ∃ H : MHp, st1 = some H ∧ hS H = 208 := by
  have h : st1.elim false (fun H => decide (hS H = 208)) = true := by decide +kernel
  cases e : st1 with
  | none => rw [e] at h; cases h
  | some H => rw [e] at h; exact ⟨H, rfl, of_decide_eq_true h⟩
theorem st2_ok : ∃ H : MHp, st2 = some H ∧ hS H = 233 := by
  have h : st2.elim false (fun H => decide (hS H = 233)) = true := by decide +kernel
  cases e : st2 with
  | none => rw [e] at h; cases h
  | some H => rw [e] at h; exact ⟨H, rfl, of_decide_eq_true h⟩
theorem st3_ok : ∃ H : MHp, st3 = some H ∧ ck3 H = true := by
  have h : st3.elim false ck3 = true := by decide +kernel
  cases e : st3 with
  | none => rw [e] at h; cases h
  | some H => rw [e] at h; exact ⟨H, rfl, h⟩
theorem zr {H : MHp} {k : Nat} (z : hAI H k = (fun _ => 0) ∨ hAI H k = stV 0) (e : hAI H k 0 = 0) : hAI H k = fun _ => 0 := by
  rcases z with z | z
  · exact z
  · rw [z] at e; exact absurd e (by decide)
/-- the state at the start -/
def A0s : AS := mkA (fun _ => 0) (fun i => if i = 4 then -1 else if i = 5 then -1 else if i = 6 then 3 else if i = 7 then 3 else if i = 8 then 10 else 0) (fun _ _ => 0) B0 (fun _ => (none, none, none, noT)) (fun _ _ => none)
theorem A0s_W : WA A0s := by
  refine ⟨B0_W.1, Nat.zero_le _, Nat.zero_le _, Nat.zero_le _, Nat.zero_le _, fun k hk => absurd hk (Nat.not_lt_zero k), fun _ => ⟨rfl, rfl, rfl, rfl, rfl⟩, (show (0 : Int32) ≤ 0 by decide), (show (0 : Int32) ≤ 999 by decide), fun r hr => absurd hr (Nat.not_lt_zero r), Or.inl rfl, (show (1 : Int32) ≤ 3 by decide), (show (3 : Int32) ≤ 20 by decide), (show (1 : Int32) ≤ 3 by decide), (show (3 : Int32) ≤ 50 by decide), (show (1 : Int32) ≤ 10 by decide), (show (10 : Int32) ≤ 99 by decide), (show (0 : Int32) ≤ 0 by decide), (show (0 : Int32) ≤ 1000 by decide), fun k => ?_, B0_W.2.1, B0_W.2.2⟩
  show (0 : Int32).toInt8.toInt32 = 0
  decide
theorem st_rel {n : Nat} {H h : MHp} (S : Sh n H h) (k : ck3 H = true) : CR n h A0s ∧ RR (n + 208) h A0s := by
  obtain ⟨s1, s2, s3⟩ := S
  unfold ck3 at k
  simp only [Bool.and_eq_true] at k
  obtain ⟨k1, k2, k3, k4, k5, k6, k7, k8, k9, k10, k11⟩ := k
  rw [List.all_eq_true] at k1 k2 k3 k4 k5 k6 k7
  have r8 := of_decide_eq_true k8
  have r9 := of_decide_eq_true k9
  have r10 := of_decide_eq_true k10
  have r11 := of_decide_eq_true k11
  have gK : ∀ j : Nat, hK h (n + j) = hK H j := fun j => (s2 j).1
  have gN : ∀ j : Nat, hN h (n + j) = hN H j := fun j => (s2 j).2.1
  have gI : ∀ j : Nat, hI h (n + j) = hI H j := fun j => (s2 j).2.2.1
  have gAI : ∀ j : Nat, hAI h (n + j) = hAI H j := fun j => (s2 j).2.2.2.2.1
  have gR : ∀ j i : Nat, hR h (n + j) i = mp n (hR H j i) := fun j => (s2 j).2.2.2.2.2.2.1
  have gAR : ∀ j i : Nat, hAR h (n + j) i = mp n (hAR H j i) := fun j => (s2 j).2.2.2.2.2.2.2
  have I : ∀ x : Nat × Nat × Int32, x ∈ ckI → hI h (n + x.1) x.2.1 = x.2.2 := fun x hx => by rw [gI]; exact of_decide_eq_true (k4 x hx)
  have J : ∀ x : Nat × Nat × Int32, x ∈ ckJ → hAI H x.1 x.2.1 = x.2.2 := fun x hx => of_decide_eq_true (k5 x hx)
  have Z : ∀ j : Nat, (j, 0, (0 : Int32)) ∈ ckJ → hAI h (n + j) = fun _ => 0 := fun j hj => by rw [gAI]; exact zr (s3 j) (J _ hj)
  have L : CL n h := by
    refine ⟨fun j hj => ?_, fun x hx => ?_, fun x hx => ?_⟩
    · have := k1 j (List.mem_range.mpr hj)
      rw [Bool.and_eq_true] at this
      rw [gK, gN]
      exact ⟨of_decide_eq_true this.1, of_decide_eq_true this.2⟩
    · rw [gR, of_decide_eq_true (k2 x hx), mp_some]
    · rw [gAR, of_decide_eq_true (k3 x hx), mp_some]
  have M : QL (n + 208) h := by
    refine ⟨fun j hj => ?_, fun x hx => ?_⟩
    · have := k6 j (List.mem_range.mpr hj)
      rw [Bool.and_eq_true] at this
      rw [Nat.add_assoc, gK, gN]
      exact ⟨of_decide_eq_true this.1, of_decide_eq_true this.2⟩
    · rw [Nat.add_assoc, gR, of_decide_eq_true (k7 x hx), mp_some, Nat.add_assoc]
  have I0 : ∀ (j : Nat) (v : Int32), (0, j, v) ∈ ckI → hI h n j = v := fun j v hx => I (0, j, v) hx
  have I8 : ∀ (j : Nat) (v : Int32), (208, j, v) ∈ ckI → hI h (n + 208) j = v := fun j v hx => I (208, j, v) hx
  have Z8 : ∀ j : Nat, (208 + j, 0, (0 : Int32)) ∈ ckJ → hAI h (n + 208 + j) = fun _ => 0 := fun j hj => by rw [Nat.add_assoc]; exact Z _ hj
  refine ⟨⟨⟨57, 2, L, Or.inr ⟨rfl, rfl⟩, by rw [gR, r8, mp_some], ?_, ⟨I (57, 4, 0) (by decide +kernel), I (57, 5, 0) (by decide +kernel), fun f hf => absurd hf (Nat.not_lt_zero f), fun k hk => absurd hk (Nat.not_lt_zero k)⟩, fun f hf => absurd hf (Nat.not_lt_zero f)⟩, ⟨I0 13 0 (by decide +kernel), I0 14 0 (by decide +kernel), I0 15 0 (by decide +kernel), I (55, 1, 0) (by decide +kernel), fun e => absurd (show (0 : Int32) = 4 from e) (by decide), I (56, 6, 0) (by decide +kernel), I (56, 7, 0) (by decide +kernel), I (185, 1, -1) (by decide +kernel), I (194, 1, -1) (by decide +kernel)⟩, ⟨by rw [gAI]; exact J (184, 0, 3) (by decide +kernel), by rw [gAI]; exact J (184, 1, 3) (by decide +kernel), by rw [gAI]; exact J (184, 2, 10) (by decide +kernel), by rw [gAI]; exact J (184, 3, 0) (by decide +kernel), Z 1 (by decide +kernel), Z 110 (by decide +kernel), Z 111 (by decide +kernel), Z 112 (by decide +kernel), Z 113 (by decide +kernel), Z 114 (by decide +kernel), Z 115 (by decide +kernel), Z 199 (by decide +kernel)⟩, ⟨fun r hr => absurd hr (Nat.not_lt_zero r), fun e => absurd rfl e, ⟨0, by omega, I (206, 0, 0) (by decide +kernel), I (206, 2, 0) (by decide +kernel), fun k hk => absurd hk (Nat.not_lt_zero k)⟩, fun k hk => absurd hk (Nat.not_lt_zero k)⟩⟩, ⟨M, by omega, fun _ => ?_, fun e => absurd e (Nat.not_lt_zero _)⟩, ⟨I8 10 0 (by decide +kernel), I8 7 0 (by decide +kernel), I8 18 0 (by decide +kernel), I8 49 0 (by decide +kernel), I8 1 0 (by decide +kernel), I8 3 0 (by decide +kernel), I8 2 (-1) (by decide +kernel), I8 19 0 (by decide +kernel), I8 32 (-1) (by decide +kernel), I8 34 (-1) (by decide +kernel), I8 37 3 (by decide +kernel), I8 38 3 (by decide +kernel), I8 39 10 (by decide +kernel), I8 40 0 (by decide +kernel)⟩, ⟨Z8 3 (by decide +kernel), Z8 4 (by decide +kernel), Z8 5 (by decide +kernel), Z8 6 (by decide +kernel), Z8 7 (by decide +kernel), fun r hr => absurd hr (Nat.not_lt_zero r), Z8 10 (by decide +kernel), Z8 12 (by decide +kernel), Z8 18 (by decide +kernel)⟩, ⟨fun e => absurd rfl e, fun k hk => absurd hk (Nat.not_lt_zero k), fun k hk => absurd hk (Nat.not_lt_zero k)⟩⟩
  · have e := gR 0 12
    rw [r9, mp_some] at e
    exact e
  · rw [gR, r10]; rfl
theorem hE_S (n : Nat) : hS (hE n) = n := (rfl)
theorem law_pure (L : Nat) (xs : Nat → Int32) (n : Nat) (hL : L ≤ 3584) : ∃ res : MHp, mL_law L xs (hE n) = some res := by
  have S0 : Sh n (hE 0) (hE n) := ⟨by rw [hE_S, hE_S]; rfl, fun k => ⟨rfl, rfl, rfl, rfl, rfl, rfl, fun j => rfl, fun j => rfl⟩, fun k => Or.inl rfl⟩
  obtain ⟨H1, e1, s1⟩ := st1_ok
  obtain ⟨H2, e2, s2⟩ := st2_ok
  obtain ⟨H3, e3, k3⟩ := st3_ok
  have u1 := e1
  have u2 := e2
  have u3 := e3
  unfold st1 at u1
  rw [o_bind] at u1
  unfold st2 at u2
  rw [e1, o_bind, o_bind] at u2
  unfold st3 at u3
  rw [e2, o_bind] at u3
  obtain ⟨r1, f1, T1⟩ := Q_X11_init (S0.nO 12 16) S0.1 H1 u1
  obtain ⟨r2, f2, T2⟩ := Q_X16_init (T1.nO 17 51) T1.1 H2 u2
  have T3 := T2.nA 21 1
  rw [Option.some.inj u3] at T3
  obtain ⟨C, R⟩ := st_rel T3 k3
  have q1 : hS r1 = n + 208 := by rw [T1.1, s1]
  have q2 : hS r2 = n + 208 + 25 := by rw [T2.1, s2]
  obtain ⟨res, er⟩ := lw_loop (xs := xs) (m := n + 208) rfl hL 513 0 (nA r2 21 1) A0s rfl (by omega) A0s_W C R
  rw [show Int32.ofNat (7 * 0) = (0 : Int32) from rfl] at er
  refine ⟨res, ?_⟩
  rw [mL_law, o_bind, f1, o_bind, o_bind, f2, o_bind, o_bind, hE_S, q1, q2]
  exact er
