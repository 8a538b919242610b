/-! the reference's ways -/
def Rc (m ls cs : Nat) (h : MHp) : Prop := QL m h ∧ hI h m 45 = Int32.ofNat ls ∧ hI h m 46 = Int32.ofNat cs ∧ (1 ≤ ls ∧ ls ≤ 10) ∧ (1 ≤ cs ∧ cs ≤ 10) ∧ ls * cs ≤ 60
def Rf (m : Nat) (h h' : MHp) : Prop := Rs m h h' ∧ hI h' = hI h ∧ ∀ a : Nat, a ≠ m + 22 → a ≠ m + 23 → hAI h' a = hAI h a
theorem Rf.rf {m : Nat} {h : MHp} : Rf m h h := ⟨Rs.rf, rfl, fun _ _ _ => rfl⟩
theorem Rf.tr {m : Nat} {h h1 h2 : MHp} (A : Rf m h h1) (B : Rf m h1 h2) : Rf m h h2 := ⟨A.1.tr B.1, B.2.1.trans A.2.1, fun a x y => (B.2.2 a x y).trans (A.2.2 a x y)⟩
theorem Rc.sc {m ls cs : Nat} {h h' : MHp} (G : Rc m ls cs h) (S : Rs m h h') (i : hI h' = hI h) : Rc m ls cs h' := by
  obtain ⟨g1, g2, g3, g4⟩ := G
  exact ⟨S.QL g1, by rw [i]; exact g2, by rw [i]; exact g3, g4⟩
def Ry (m ls cs q : Nat) (h : MHp) (y : Nat → Int) : Prop := ∀ cl : Nat, cl < ls * cs → cl ≠ q → hAI h (m + 21) cl = Int32.ofInt (y cl)
theorem Ry.f {m ls cs q : Nat} {h h' : MHp} {y : Nat → Int} (Y : Ry m ls cs q h y) (S : Rf m h h') : Ry m ls cs q h' y := by
  intro cl hcl hne
  rw [S.2.2 _ (by omega) (by omega)]
  exact Y cl hcl hne
theorem oI_0 {x : Int} (h0 : 0 ≤ x) (h1 : x ≤ 60) : (Int32.ofInt x = 0) = ¬ (0 < x) := by
  obtain ⟨n, rfl⟩ : ∃ n : Nat, x = (n : Int) := ⟨x.toNat, by omega⟩
  rw [oI_n, show (0 : Int32) = Int32.ofNat 0 from rfl, eq_of (by omega) (by omega)]
  exact propext ⟨fun h => by omega, fun h => by omega⟩
theorem q_fc {m ls cs q n hd u v st : Nat} {out : Int64} {y : Nat → Int} {h : MHp} {fr : Nat → Option Nat} {qu ps : Nat → Nat} (G : Rc m ls cs h) (Y : Ry m ls cs q h y) (B : ∀ cl : Nat, cl < ls * cs → 0 ≤ y cl ∧ y cl ≤ 60) (hq : q < ls * cs) (F : FI (m + 22) (m + 23) (ls + cs) st (okF ls cs q (bL out) y false) h fr qu ps n hd u v) (hv : v < ls + cs) : ∃ (h1 : MHp) (fr1 : Nat → Option Nat) (qu1 ps1 : Nat → Nat) (n1 : Nat), (∀ (nn : Nat) (k51 : MHp → Nat → Int32 → Int64 → Int32 → Int32 → Int32 → Option (Int32 × MHp)) (gl : Int32), mX16_leads_l70 k51 (nn + 1) h m gl out (Int32.ofNat q) (Int32.ofNat n) (Int32.ofNat hd) (Int32.ofNat u) (Int32.ofNat v) = mX16_leads_l70 k51 nn h1 m gl out (Int32.ofNat q) (Int32.ofNat n1) (Int32.ofNat hd) (Int32.ofNat u) (Int32.ofNat (v + 1))) ∧ Rf m h h1 ∧ FI (m + 22) (m + 23) (ls + cs) st (okF ls cs q (bL out) y false) h1 fr1 qu1 ps1 n1 hd u (v + 1) := by
  obtain ⟨hu, fu⟩ := F.u
  obtain ⟨L, g1, g2, g3, g4, g5⟩ := id G
  have K := qK0 L
  have bv := bad_n (k := v) (n := 20) (by omega) (by omega)
  have clv : (Int32.ofNat v).toNatClampNeg = v := cl_of (by omega)
  have side : (u < ls ∧ ls ≤ v ∨ ls ≤ u ∧ v < ls) ∨ (u < ls ∧ v < ls ∨ ls ≤ u ∧ ls ≤ v) := by omega
  have skip : (fr v ≠ none ∨ ¬ okF ls cs q (bL out) y false u v = true) → (∀ (nn : Nat) (k51 : MHp → Nat → Int32 → Int64 → Int32 → Int32 → Int32 → Option (Int32 × MHp)) (gl : Int32), mX16_leads_l70 k51 (nn + 1) h m gl out (Int32.ofNat q) (Int32.ofNat n) (Int32.ofNat hd) (Int32.ofNat u) (Int32.ofNat v) = mX16_leads_b232 k51 (mX16_leads_l70 k51 nn) h m gl out (Int32.ofNat q) (Int32.ofNat n) (Int32.ofNat hd) (Int32.ofNat u) (Int32.ofNat v)) → ∃ (h1 : MHp) (fr1 : Nat → Option Nat) (qu1 ps1 : Nat → Nat) (n1 : Nat), (∀ (nn : Nat) (k51 : MHp → Nat → Int32 → Int64 → Int32 → Int32 → Int32 → Option (Int32 × MHp)) (gl : Int32), mX16_leads_l70 k51 (nn + 1) h m gl out (Int32.ofNat q) (Int32.ofNat n) (Int32.ofNat hd) (Int32.ofNat u) (Int32.ofNat v) = mX16_leads_l70 k51 nn h1 m gl out (Int32.ofNat q) (Int32.ofNat n1) (Int32.ofNat hd) (Int32.ofNat u) (Int32.ofNat (v + 1))) ∧ Rf m h h1 ∧ FI (m + 22) (m + 23) (ls + cs) st (okF ls cs q (bL out) y false) h1 fr1 qu1 ps1 n1 hd u (v + 1) := fun hs he =>
    ⟨h, fr, qu, ps, n, fun nn k51 gl => by rw [he, mX16_leads_b232, s1_of], Rf.rf, F.skip hs⟩
  have c0 : ¬ Int32.ofNat (ls + cs) ≤ Int32.ofNat v := by rw [le_of (by omega) (by omega)]; omega
  rcases side with s | s
  · have s2 : u < ls ∧ ls ≤ v ∧ v < ls + cs ∨ ls ≤ u ∧ u < ls + cs ∧ v < ls := by omega
    have hcb := cb_lt s2
    have base : ∀ (nn : Nat) (k51 : MHp → Nat → Int32 → Int64 → Int32 → Int32 → Int32 → Option (Int32 × MHp)) (gl : Int32), mX16_leads_l70 k51 (nn + 1) h m gl out (Int32.ofNat q) (Int32.ofNat n) (Int32.ofNat hd) (Int32.ofNat u) (Int32.ofNat v) = (if oi (fr v) = -1 then mX16_leads_b171 k51 (mX16_leads_l70 k51 nn) h m gl out (Int32.ofNat q) (Int32.ofNat n) (Int32.ofNat hd) (Int32.ofNat u) (Int32.ofNat v) (Int32.ofNat (cb ls cs u v)) else mX16_leads_b232 k51 (mX16_leads_l70 k51 nn) h m gl out (Int32.ofNat q) (Int32.ofNat n) (Int32.ofNat hd) (Int32.ofNat u) (Int32.ofNat v)) := by
      intro nn k51 gl
      rcases s with ⟨s1, s2⟩ | ⟨s1, s2⟩
      · have cu : ¬ Int32.ofNat ls ≤ Int32.ofNat u := by rw [le_of (by omega) (by omega)]; omega
        have cv : Int32.ofNat ls ≤ Int32.ofNat v := by rw [le_of (by omega) (by omega)]; omega
        have e : Int32.ofNat cs * Int32.ofNat u + Int32.ofNat v - Int32.ofNat ls = Int32.ofNat (cb ls cs u v) := by
          unfold cb
          rw [if_pos s1, ← Int32.ofNat_mul, ← Int32.ofNat_add, ← Int32.ofNat_sub _ _ (by omega), Nat.add_sub_assoc s2, Nat.mul_comm]
        rw [mX16_leads_l70, b_gI, if_pos K, g1, b_gI, if_pos K, g2, ← Int32.ofNat_add, if_neg c0, b_gI, if_pos K, g1, if_neg cu, mX16_leads_b98, b_gI, if_pos K, g1, if_pos cv, mX16_leads_b112, if_neg n10, b_gR, if_pos K, qR47 L, b_gAI, if_pos (qK22 L), qN22 L, if_neg bv, clv, F.1.2.1 v hv]
        by_cases a1 : oi (fr v) = -1
        · rw [if_pos a1, if_pos a1, b_gI, if_pos K, g1, if_neg cu, b_gI, if_pos K, g2, b_gI, if_pos K, g1, e]
        · rw [if_neg a1, if_neg a1]
      · have cu : Int32.ofNat ls ≤ Int32.ofNat u := by rw [le_of (by omega) (by omega)]; omega
        have cv : ¬ Int32.ofNat ls ≤ Int32.ofNat v := by rw [le_of (by omega) (by omega)]; omega
        have e : Int32.ofNat cs * Int32.ofNat v + Int32.ofNat u - Int32.ofNat ls = Int32.ofNat (cb ls cs u v) := by
          unfold cb
          rw [if_neg (by omega), ← Int32.ofNat_mul, ← Int32.ofNat_add, ← Int32.ofNat_sub _ _ (by omega), Nat.add_sub_assoc s1, Nat.mul_comm]
        rw [mX16_leads_l70, b_gI, if_pos K, g1, b_gI, if_pos K, g2, ← Int32.ofNat_add, if_neg c0, b_gI, if_pos K, g1, if_pos cu, mX16_leads_b98, b_gI, if_pos K, g1, if_neg cv, mX16_leads_b112, if_neg (show ¬ (0 : Int32) = 1 by decide), b_gR, if_pos K, qR47 L, b_gAI, if_pos (qK22 L), qN22 L, if_neg bv, clv, F.1.2.1 v hv]
        by_cases a1 : oi (fr v) = -1
        · rw [if_pos a1, if_pos a1, b_gI, if_pos K, g1, if_pos cu, b_gI, if_pos K, g2, b_gI, if_pos K, g1, e]
        · rw [if_neg a1, if_neg a1]
    have okd : okF ls cs q (bL out) y false u v = true ↔ cb ls cs u v ≠ q ∧ bL out (cb ls cs u v) = true ∧ (ls ≤ u → 0 < y (cb ls cs u v)) := by
      unfold okF
      rw [decide_eq_true_eq]
      refine ⟨fun h => ⟨h.2.1, h.2.2.1, fun h3 => h.2.2.2 (decide_eq_false (by omega))⟩, fun h => ⟨s, h.1, h.2.1, fun h3 => h.2.2 ?_⟩⟩
      rw [decide_eq_false_iff_not] at h3
      omega
    cases hf : fr v with
    | some w =>
      have hw := F.1.oi hv hf
      have a1 : ¬ oi (fr v) = -1 := by rw [hf]; exact nm_of (by omega)
      exact skip (Or.inl (by rw [hf]; exact Option.some_ne_none _)) (fun nn k51 gl => by rw [base, if_neg a1])
    | none =>
      have a1 : oi (fr v) = -1 := by rw [hf]; rfl
      have bw := bad_n (k := cb ls cs u v) (n := 100) (by omega) (by omega)
      have clw : (Int32.ofNat (cb ls cs u v)).toNatClampNeg = cb ls cs u v := cl_of (by omega)
      by_cases o : okF ls cs q (bL out) y false u v = true
      · obtain ⟨o1, o2, o3⟩ := okd.mp o
        have nN := F.1.1.n_lt hv hf
        have bn := bad_n (k := n) (n := 20) (by omega) (by omega)
        have cln : (Int32.ofNat n).toNatClampNeg = n := cl_of (by omega)
        obtain ⟨X, hX⟩ : ∃ X : MHp, X = sAI h (m + 22) (va_up (hAI h (m + 22)) v (Int32.ofNat u)) := ⟨_, rfl⟩
        obtain ⟨Z, hZ⟩ : ∃ Z : MHp, Z = sAI X (m + 23) (va_up (hAI X (m + 23)) n (Int32.ofNat v)) := ⟨_, rfl⟩
        have SX : Rs m h X := by rw [hX]; exact Rs.AI 22 _ (by decide)
        have SZ : Rs m X Z := by rw [hZ]; exact Rs.AI 23 _ (by decide)
        have LX := SX.QL L
        refine ⟨Z, va_up fr v (some u), va_up qu n v, va_up ps v n, n + 1, fun nn k51 gl => ?_, ⟨SX.tr SZ, by rw [hZ, hX]; rfl, fun a x1 x2 => by rw [hZ, e_sAI, if_neg x2, hX, e_sAI, if_neg x1]⟩, F.ins hv hf o ?_ ?_⟩
        · have b211 : mX16_leads_b211 k51 (mX16_leads_l70 k51 nn) h m gl out (Int32.ofNat q) (Int32.ofNat n) (Int32.ofNat hd) (Int32.ofNat u) (Int32.ofNat v) = mX16_leads_l70 k51 nn Z m gl out (Int32.ofNat q) (Int32.ofNat (n + 1)) (Int32.ofNat hd) (Int32.ofNat u) (Int32.ofNat (v + 1)) := by
            rw [mX16_leads_b211, b_gR, if_pos K, qR47 L, b_pAI, if_pos (qK22 L), qN22 L, if_neg bv, clv, ← hX, b_gR, if_pos (qK0 LX), qR48 LX, b_pAI, if_pos (qK23 LX), qN23 LX, if_neg bn, cln, ← hZ, mX16_leads_b232, s1_of, s1_of]
          rw [base, if_pos a1, mX16_leads_b171, if_neg (by rw [eq_of (by omega) (by omega)]; exact o1), q_has _ (by omega), o_bind, if_pos o2, if_neg n10, b_gI, if_pos K, g1]
          by_cases a4 : u < ls
          · rw [if_pos (by rw [lt_of (by omega) (by omega)]; exact a4), b211]
          · have y0 := B _ hcb
            have y4 := oI_0 y0.1 y0.2
            rw [if_neg (by rw [lt_of (by omega) (by omega)]; exact a4), b_gR, if_pos K, qR44 L, b_gAI, if_pos (qK21 L), qN21 L, if_neg bw, clw, Y _ hcb o1, if_neg (by rw [y4]; exact fun h => h (o3 (by omega))), b211]
        · rw [hZ, e_sAI, if_neg (by omega), hX, e_sAI, if_pos rfl]
        · rw [hZ, e_sAI, if_pos rfl, hX, e_sAI, if_neg (by omega)]
      · refine skip (Or.inr o) (fun nn k51 gl => ?_)
        rw [base, if_pos a1, mX16_leads_b171]
        by_cases a2 : cb ls cs u v = q
        · rw [if_pos (by rw [a2])]
        · rw [if_neg (by rw [eq_of (by omega) (by omega)]; exact a2), q_has _ (by omega), o_bind]
          by_cases a3 : bL out (cb ls cs u v) = true
          · rw [if_pos a3, if_neg n10, b_gI, if_pos K, g1]
            by_cases a4 : u < ls
            · exact absurd (okd.mpr ⟨a2, a3, fun h => by omega⟩) o
            · have y0 := B _ hcb
              have y4 := oI_0 y0.1 y0.2
              rw [if_neg (by rw [lt_of (by omega) (by omega)]; exact a4), b_gR, if_pos K, qR44 L, b_gAI, if_pos (qK21 L), qN21 L, if_neg bw, clw, Y _ hcb a2, if_pos (by rw [y4]; exact fun h => o (okd.mpr ⟨a2, a3, fun _ => h⟩))]
          · rw [if_neg a3, if_pos rfl]
  · have o : ¬ okF ls cs q (bL out) y false u v = true := fun h => by have := okF_side h; omega
    refine skip (Or.inr o) (fun nn k51 gl => ?_)
    rcases s with ⟨s1, s2⟩ | ⟨s1, s2⟩
    · have cu : ¬ Int32.ofNat ls ≤ Int32.ofNat u := by rw [le_of (by omega) (by omega)]; omega
      have cv : ¬ Int32.ofNat ls ≤ Int32.ofNat v := by rw [le_of (by omega) (by omega)]; omega
      rw [mX16_leads_l70, b_gI, if_pos K, g1, b_gI, if_pos K, g2, ← Int32.ofNat_add, if_neg c0, b_gI, if_pos K, g1, if_neg cu, mX16_leads_b98, b_gI, if_pos K, g1, if_neg cv, mX16_leads_b112, if_pos rfl]
    · have cu : Int32.ofNat ls ≤ Int32.ofNat u := by rw [le_of (by omega) (by omega)]; omega
      have cv : Int32.ofNat ls ≤ Int32.ofNat v := by rw [le_of (by omega) (by omega)]; omega
      rw [mX16_leads_l70, b_gI, if_pos K, g1, b_gI, if_pos K, g2, ← Int32.ofNat_add, if_neg c0, b_gI, if_pos K, g1, if_pos cu, mX16_leads_b98, b_gI, if_pos K, g1, if_pos cv, mX16_leads_b112, if_pos rfl]
theorem q_fcl {m ls cs q hd u st : Nat} {out : Int64} {y : Nat → Int} (B : ∀ cl : Nat, cl < ls * cs → 0 ≤ y cl ∧ y cl ≤ 60) (hq : q < ls * cs) : ∀ (j v n fu : Nat) (h : MHp) (fr : Nat → Option Nat) (qu ps : Nat → Nat), Rc m ls cs h → Ry m ls cs q h y → FI (m + 22) (m + 23) (ls + cs) st (okF ls cs q (bL out) y false) h fr qu ps n hd u v → v + j = ls + cs → j < fu → ∃ (h1 : MHp) (fr1 : Nat → Option Nat) (qu1 ps1 : Nat → Nat) (n1 : Nat), (∀ (k51 : MHp → Nat → Int32 → Int64 → Int32 → Int32 → Int32 → Option (Int32 × MHp)) (gl : Int32), mX16_leads_l70 k51 fu h m gl out (Int32.ofNat q) (Int32.ofNat n) (Int32.ofNat hd) (Int32.ofNat u) (Int32.ofNat v) = k51 h1 m gl out (Int32.ofNat q) (Int32.ofNat n1) (Int32.ofNat (hd + 1))) ∧ Rf m h h1 ∧ FI (m + 22) (m + 23) (ls + cs) st (okF ls cs q (bL out) y false) h1 fr1 qu1 ps1 n1 hd u (ls + cs) := by
  intro j
  induction j with
  | zero =>
    intro v n fu h fr qu ps G Y F hv hf
    obtain ⟨fu, rfl⟩ : ∃ g : Nat, fu = g + 1 := ⟨fu - 1, by omega⟩
    obtain ⟨L, g1, g2, g3, g4, g5⟩ := id G
    have K := qK0 L
    have ve : v = ls + cs := by omega
    subst ve
    refine ⟨h, fr, qu, ps, n, fun k51 gl => ?_, Rf.rf, F⟩
    rw [mX16_leads_l70, b_gI, if_pos K, g1, b_gI, if_pos K, g2, ← Int32.ofNat_add, if_pos (by rw [le_of (by omega) (by omega)]; omega), s1_of]
  | succ j ih =>
    intro v n fu h fr qu ps G Y F hv hf
    obtain ⟨fu, rfl⟩ : ∃ g : Nat, fu = g + 1 := ⟨fu - 1, by omega⟩
    obtain ⟨h1, fr1, qu1, ps1, n1, e1, S1, F1⟩ := q_fc G Y B hq F (show v < ls + cs by omega)
    obtain ⟨h2, fr2, qu2, ps2, n2, e2, S2, F2⟩ := ih (v + 1) n1 fu h1 fr1 qu1 ps1 (G.sc S1.1 S1.2.1) (Y.f S1) F1 (by omega) (by omega)
    exact ⟨h2, fr2, qu2, ps2, n2, fun k51 gl => by rw [e1, e2], S1.tr S2, F2⟩
theorem q_fo {m ls cs q gl st : Nat} {out : Int64} {y : Nat → Int} (B : ∀ cl : Nat, cl < ls * cs → 0 ≤ y cl ∧ y cl ≤ 60) (hq : q < ls * cs) (hgl : gl < ls + cs) : ∀ (j hd n fu : Nat) (h : MHp) (fr : Nat → Option Nat) (qu ps : Nat → Nat), Rc m ls cs h → Ry m ls cs q h y → FS (m + 22) (m + 23) (ls + cs) st (okF ls cs q (bL out) y false) h fr qu ps n hd → hd ≤ n → hd + j = ls + cs → j < fu → ∃ (h1 : MHp) (fr1 : Nat → Option Nat) (qu1 ps1 : Nat → Nat) (n1 : Nat), mX16_leads_l51 fu h m (Int32.ofNat gl) out (Int32.ofNat q) (Int32.ofNat n) (Int32.ofNat hd) = some (if fr1 gl = none then 0 else 1, h1) ∧ Rf m h h1 ∧ BI (ls + cs) (okF ls cs q (bL out) y false) st fr1 qu1 ps1 n1 ∧ (∀ x : Nat, x < ls + cs → hAI h1 (m + 22) x = oi (fr1 x)) ∧ ∀ u v : Nat, u < ls + cs → v < ls + cs → fr1 u ≠ none → okF ls cs q (bL out) y false u v = true → fr1 v ≠ none := by
  intro j
  have ends : ∀ (hd fu : Nat) (h : MHp) (fr : Nat → Option Nat) (qu ps : Nat → Nat), Rc m ls cs h → FS (m + 22) (m + 23) (ls + cs) st (okF ls cs q (bL out) y false) h fr qu ps hd hd → hd ≤ ls + cs → ∃ (h1 : MHp) (fr1 : Nat → Option Nat) (qu1 ps1 : Nat → Nat) (n1 : Nat), mX16_leads_l51 (fu + 1) h m (Int32.ofNat gl) out (Int32.ofNat q) (Int32.ofNat hd) (Int32.ofNat hd) = some (if fr1 gl = none then 0 else 1, h1) ∧ Rf m h h1 ∧ BI (ls + cs) (okF ls cs q (bL out) y false) st fr1 qu1 ps1 n1 ∧ (∀ x : Nat, x < ls + cs → hAI h1 (m + 22) x = oi (fr1 x)) ∧ ∀ u v : Nat, u < ls + cs → v < ls + cs → fr1 u ≠ none → okF ls cs q (bL out) y false u v = true → fr1 v ≠ none := by
    intro hd fu h fr qu ps G F hle
    obtain ⟨L, g1, g2, g3, g4, g5⟩ := id G
    have K := qK0 L
    have bg := bad_n (k := gl) (n := 20) (by omega) (by omega)
    have clg : (Int32.ofNat gl).toNatClampNeg = gl := cl_of (by omega)
    refine ⟨h, fr, qu, ps, hd, ?_, Rf.rf, F.1, F.2.1, F.closed⟩
    rw [mX16_leads_l51, if_pos (by rw [le_of (by omega) (by omega)]; omega), b_gR, if_pos K, qR47 L, b_gAI, if_pos (qK22 L), qN22 L, if_neg bg, clg, F.2.1 gl hgl]
    cases hfr : fr gl with
    | none => rfl
    | some w =>
      have hw := F.oi hgl hfr
      rw [if_neg (show ¬ oi (some w) = -1 from nm_of (by omega)), if_neg (Option.some_ne_none _)]
  induction j with
  | zero =>
    intro hd n fu h fr qu ps G Y F hn hj hf
    obtain ⟨fu, rfl⟩ : ∃ g : Nat, fu = g + 1 := ⟨fu - 1, by omega⟩
    have nN := F.1.n_le
    have e : hd = n := by omega
    subst e
    exact ends hd fu h fr qu ps G F (by omega)
  | succ j ih =>
    intro hd n fu h fr qu ps G Y F hn hj hf
    obtain ⟨fu, rfl⟩ : ∃ g : Nat, fu = g + 1 := ⟨fu - 1, by omega⟩
    obtain ⟨L, g1, g2, g3, g4, g5⟩ := id G
    have K := qK0 L
    have nN := F.1.n_le
    by_cases e : hd = n
    · subst e
      exact ends hd fu h fr qu ps G F (by omega)
    · have bh := bad_n (k := hd) (n := 20) (by omega) (by omega)
      have clh : (Int32.ofNat hd).toNatClampNeg = hd := cl_of (by omega)
      have F0 : FI (m + 22) (m + 23) (ls + cs) st (okF ls cs q (bL out) y false) h fr qu ps n hd (qu hd) 0 := ⟨F, by omega, rfl, fun v hv _ o => by omega⟩
      obtain ⟨h1, fr1, qu1, ps1, n1, e1, S1, F1⟩ := q_fcl B hq (ls + cs) 0 n FUEL h fr qu ps G Y F0 (by omega) (by unfold FUEL; omega)
      have F2 := F1.done (fun v hv o => hv)
      obtain ⟨h2, fr2, qu2, ps2, n2, e2, S2, r1, r2, r3⟩ := ih (hd + 1) n1 fu h1 fr1 qu1 ps1 (G.sc S1.1 S1.2.1) (Y.f S1) F2 (by have := F1.2.1; omega) (by omega) (by omega)
      refine ⟨h2, fr2, qu2, ps2, n2, ?_, S1.tr S2, r1, r2, r3⟩
      rw [mX16_leads_l51, if_neg (by rw [le_of (by omega) (by omega)]; omega), b_gR, if_pos K, qR48 L, b_gAI, if_pos (qK23 L), qN23 L, if_neg bh, clh, F.2.2.1 hd (by omega)]
      have e1' : mX16_leads_l70 (mX16_leads_l51 fu) FUEL h m (Int32.ofNat gl) out (Int32.ofNat q) (Int32.ofNat n) (Int32.ofNat hd) (Int32.ofNat (qu hd)) 0 = _ := e1 (mX16_leads_l51 fu) (Int32.ofNat gl)
      rw [e1', e2]
theorem q_lf {m ls cs q st : Nat} {gl : Int32} {out : Int64} {y : Nat → Int} (hst : st < ls + cs) : ∀ (j k fu : Nat) (h : MHp), Rc m ls cs h → Ry m ls cs q h y → (∀ x : Nat, x < k → hAI h (m + 22) x = -1) → k + j = ls + cs → j < fu → ∃ h1 : MHp, mX16_leads_l3 fu h m (Int32.ofNat st) gl out (Int32.ofNat q) (Int32.ofNat k) = mX16_leads_l51 FUEL h1 m gl out (Int32.ofNat q) 1 0 ∧ Rf m h h1 ∧ FS (m + 22) (m + 23) (ls + cs) st (okF ls cs q (bL out) y false) h1 (va_up (fun _ => none) st (some st)) (va_up (fun _ => 0) 0 st) (fun _ => 0) 1 0 := by
  intro j
  induction j with
  | zero =>
    intro k fu h G Y hh hk hf
    obtain ⟨fu, rfl⟩ : ∃ g : Nat, fu = g + 1 := ⟨fu - 1, by omega⟩
    obtain ⟨L, g1, g2, g3, g4, g5⟩ := id G
    have K := qK0 L
    have bs := bad_n (k := st) (n := 20) (by omega) (by omega)
    have cls : (Int32.ofNat st).toNatClampNeg = st := cl_of (by omega)
    obtain ⟨X, hX⟩ : ∃ X : MHp, X = sAI h (m + 22) (va_up (hAI h (m + 22)) st (Int32.ofNat st)) := ⟨_, rfl⟩
    obtain ⟨Z, hZ⟩ : ∃ Z : MHp, Z = sAI X (m + 23) (va_up (hAI X (m + 23)) 0 (Int32.ofNat st)) := ⟨_, rfl⟩
    have SX : Rs m h X := by rw [hX]; exact Rs.AI 22 _ (by decide)
    have SZ : Rs m X Z := by rw [hZ]; exact Rs.AI 23 _ (by decide)
    have LX := SX.QL L
    refine ⟨Z, ?_, ⟨SX.tr SZ, by rw [hZ, hX]; rfl, fun a x1 x2 => by rw [hZ, e_sAI, if_neg x2, hX, e_sAI, if_neg x1]⟩, BI.first hst, fun x hx => ?_, fun k hk => ?_, fun k hk => by omega⟩
    · rw [mX16_leads_l3, b_gI, if_pos K, g1, b_gI, if_pos K, g2, ← Int32.ofNat_add, if_pos (by rw [le_of (by omega) (by omega)]; omega), b_gR, if_pos K, qR47 L, b_pAI, if_pos (qK22 L), qN22 L, if_neg bs, cls, ← hX, b_gR, if_pos (qK0 LX), qR48 LX, b_pAI, if_pos (qK23 LX), qN23 LX, if_neg (show ¬ bad 0 20 = true by decide), show (0 : Int32).toNatClampNeg = 0 from rfl, ← hZ]
    · rw [hZ, e_sAI, if_neg (by omega), hX, e_sAI, if_pos rfl, e_up, e_up]
      by_cases e : x = st
      · rw [if_pos e, if_pos e]; rfl
      · rw [if_neg e, if_neg e, hh x (by omega)]; rfl
    · have : k = 0 := by omega
      subst this
      rw [hZ, e_sAI, if_pos rfl, e_up, if_pos rfl, e_up, if_pos rfl]
  | succ j ih =>
    intro k fu h G Y hh hk hf
    obtain ⟨fu, rfl⟩ : ∃ g : Nat, fu = g + 1 := ⟨fu - 1, by omega⟩
    obtain ⟨L, g1, g2, g3, g4, g5⟩ := id G
    have K := qK0 L
    have bk := bad_n (k := k) (n := 20) (by omega) (by omega)
    have clk : (Int32.ofNat k).toNatClampNeg = k := cl_of (by omega)
    obtain ⟨X, hX⟩ : ∃ X : MHp, X = sAI h (m + 22) (va_up (hAI h (m + 22)) k (-1)) := ⟨_, rfl⟩
    have SX : Rf m h X := ⟨by rw [hX]; exact Rs.AI 22 _ (by decide), by rw [hX]; rfl, fun a x1 _ => by rw [hX, e_sAI, if_neg x1]⟩
    obtain ⟨h1, e1, S1, F1⟩ := ih (k + 1) fu X (G.sc SX.1 SX.2.1) (Y.f SX) (fun x hx => by
      rw [hX, e_sAI, if_pos rfl, e_up]
      by_cases e : x = k
      · rw [if_pos e]
      · rw [if_neg e]; exact hh x (by omega)) (by omega) (by omega)
    refine ⟨h1, ?_, SX.tr S1, F1⟩
    rw [mX16_leads_l3, b_gI, if_pos K, g1, b_gI, if_pos K, g2, ← Int32.ofNat_add, if_neg (by rw [le_of (by omega) (by omega)]; omega), b_gR, if_pos K, qR47 L, b_pAI, if_pos (qK22 L), qN22 L, if_neg bk, clk, ← hX, s1_of, e1]
theorem q_leads {m ls cs q st gl : Nat} {out : Int64} {y : Nat → Int} {h : MHp} (G : Rc m ls cs h) (Y : Ry m ls cs q h y) (B : ∀ cl : Nat, cl < ls * cs → 0 ≤ y cl ∧ y cl ≤ 60) (hq : q < ls * cs) (hst : st < ls + cs) (hgl : gl < ls + cs) : ∃ (h1 : MHp) (fr : Nat → Option Nat) (ps : Nat → Nat), mX16_leads h m (Int32.ofNat st) (Int32.ofNat gl) out (Int32.ofNat q) = some (if fr gl = none then 0 else 1, h1) ∧ Rf m h h1 ∧ (∀ x : Nat, x < ls + cs → hAI h1 (m + 22) x = oi (fr x)) ∧ Tr ls cs q (bL out) y false st fr ps ∧ (∀ x : Nat, x < ls + cs → fr x ≠ none → ps x < 20) ∧ ∀ u v : Nat, u < ls + cs → v < ls + cs → fr u ≠ none → okF ls cs q (bL out) y false u v = true → fr v ≠ none := by
  obtain ⟨L, g1, g2, g3, g4, g5⟩ := id G
  obtain ⟨h1, e1, S1, F1⟩ := q_lf (gl := Int32.ofNat gl) (out := out) hst (ls + cs) 0 FUEL h G Y (fun x hx => by omega) (by omega) (by unfold FUEL; omega)
  obtain ⟨h2, fr, qu, ps, n, e2, S2, Bi, r2, r3⟩ := q_fo B hq hgl (ls + cs) 0 1 FUEL h1 _ _ _ (G.sc S1.1 S1.2.1) (Y.f S1) F1 (by omega) (by omega) (by unfold FUEL; omega)
  have e1' : mX16_leads_l3 FUEL h m (Int32.ofNat st) (Int32.ofNat gl) out (Int32.ofNat q) 0 = _ := e1
  have e2' : mX16_leads_l51 FUEL h1 m (Int32.ofNat gl) out (Int32.ofNat q) 1 0 = _ := e2
  refine ⟨h2, fr, ps, by rw [mX16_leads, e1', e2'], S1.tr S2, r2, ⟨Bi.1, Bi.2.1, Bi.2.2.2.2.2⟩, fun x hx hn => ?_, r3⟩
  have := (Bi.2.2.2.2.1 x hx hn).1
  have := Bi.n_le
  omega
