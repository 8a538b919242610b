/-! ways found, breadth first -/
def cn (fr : Nat → Option Nat) : Nat → Nat
  | 0 => 0
  | k + 1 => cn fr k + (if fr k = none then 0 else 1)
theorem cn_s (fr : Nat → Option Nat) (k : Nat) : cn fr (k + 1) = cn fr k + (if fr k = none then 0 else 1) := (rfl)
theorem cn_le (fr : Nat → Option Nat) : ∀ N : Nat, cn fr N ≤ N
  | 0 => Nat.le_refl _
  | N + 1 => by
    have := cn_le fr N
    rw [cn_s]
    by_cases e : fr N = none
    · rw [if_pos e]; omega
    · rw [if_neg e]; omega
theorem cn_lt {fr : Nat → Option Nat} {v : Nat} (hn : fr v = none) : ∀ N : Nat, v < N → cn fr N < N
  | 0, h => by omega
  | N + 1, h => by
    rw [cn_s]
    by_cases e : v = N
    · subst e
      have := cn_le fr v
      rw [if_pos hn]; omega
    · have := cn_lt hn N (by omega)
      by_cases e : fr N = none
      · rw [if_pos e]; omega
      · rw [if_neg e]; omega
theorem cn_up {fr : Nat → Option Nat} {v u : Nat} (hn : fr v = none) : ∀ N : Nat, cn (va_up fr v (some u)) N = cn fr N + (if v < N then 1 else 0)
  | 0 => by rw [if_neg (by omega)]; rfl
  | N + 1 => by
    rw [cn_s, cn_s, cn_up hn N, e_up]
    by_cases e : N = v
    · subst e
      rw [if_neg (by omega), if_pos rfl, if_pos hn, if_neg (by intro h; cases h), if_pos (by omega)]
    · rw [if_neg e]
      by_cases e2 : v < N
      · rw [if_pos e2, if_pos (show v < N + 1 by omega)]; omega
      · rw [if_neg e2, if_neg (show ¬ v < N + 1 by omega)]; omega
theorem cn_n {fr : Nat → Option Nat} : ∀ N : Nat, (∀ v : Nat, v < N → fr v = none) → cn fr N = 0
  | 0, _ => rfl
  | N + 1, h => by rw [cn_s, cn_n N (fun v hv => h v (by omega)), if_pos (h N (by omega))]
def BI (N : Nat) (ok : Nat → Nat → Bool) (st : Nat) (fr : Nat → Option Nat) (qu ps : Nat → Nat) (n : Nat) : Prop := st < N ∧ fr st = some st ∧ n = cn fr N ∧ (∀ k : Nat, k < n → qu k < N ∧ fr (qu k) ≠ none ∧ ps (qu k) = k) ∧ (∀ v : Nat, v < N → fr v ≠ none → ps v < n ∧ qu (ps v) = v) ∧ ∀ v : Nat, v < N → v ≠ st → ∀ u : Nat, fr v = some u → u < N ∧ fr u ≠ none ∧ ps u < ps v ∧ ok u v = true
theorem BI.first {N st : Nat} {ok : Nat → Nat → Bool} {qu : Nat → Nat} (h : st < N) : BI N ok st (va_up (fun _ => none) st (some st)) (va_up qu 0 st) (fun _ => 0) 1 := by
  refine ⟨h, by rw [e_up, if_pos rfl], ?_, fun k hk => ?_, fun v hv hn => ?_, fun v hv hs u hu => ?_⟩
  · rw [cn_up rfl, cn_n N (fun _ _ => rfl), if_pos h]
  · have : k = 0 := by omega
    subst this
    rw [e_up, if_pos rfl, e_up, if_pos rfl]
    exact ⟨h, Option.some_ne_none _, rfl⟩
  · rw [e_up] at hn
    by_cases e : v = st
    · subst e
      exact ⟨Nat.one_pos, by rw [e_up, if_pos rfl]⟩
    · rw [if_neg e] at hn
      exact absurd rfl hn
  · rw [e_up, if_neg hs] at hu
    cases hu
theorem BI.n_lt {N st n v : Nat} {ok : Nat → Nat → Bool} {fr : Nat → Option Nat} {qu ps : Nat → Nat} (B : BI N ok st fr qu ps n) (hv : v < N) (hn : fr v = none) : n < N := by
  rw [B.2.2.1]; exact cn_lt hn N hv
theorem BI.n_le {N st n : Nat} {ok : Nat → Nat → Bool} {fr : Nat → Option Nat} {qu ps : Nat → Nat} (B : BI N ok st fr qu ps n) : n ≤ N := by
  rw [B.2.2.1]; exact cn_le fr N
theorem BI.ins {N st n v u : Nat} {ok : Nat → Nat → Bool} {fr : Nat → Option Nat} {qu ps : Nat → Nat} (B : BI N ok st fr qu ps n) (hv : v < N) (hn : fr v = none) (hu : u < N) (fu : fr u ≠ none) (o : ok u v = true) : BI N ok st (va_up fr v (some u)) (va_up qu n v) (va_up ps v n) (n + 1) := by
  obtain ⟨b1, b2, b3, b4, b5, b6⟩ := B
  have ne : ∀ w : Nat, fr w ≠ none → w ≠ v := fun w h e => h (by rw [e]; exact hn)
  have sv : st ≠ v := ne st (by rw [b2]; intro e; cases e)
  refine ⟨b1, by rw [e_up, if_neg sv]; exact b2, by rw [cn_up hn, if_pos hv, b3], fun k hk => ?_, fun w hw hwn => ?_, fun w hw hws u' hu' => ?_⟩
  · by_cases e : k = n
    · subst e
      rw [e_up, if_pos rfl, e_up, if_pos rfl, e_up, if_pos rfl]
      exact ⟨hv, Option.some_ne_none _, rfl⟩
    · obtain ⟨c1, c2, c3⟩ := b4 k (by omega)
      rw [e_up, if_neg e, e_up, if_neg (ne _ c2), e_up, if_neg (ne _ c2)]
      exact ⟨c1, c2, c3⟩
  · by_cases e : w = v
    · subst e
      rw [e_up, if_pos rfl]
      exact ⟨by omega, by rw [e_up, if_pos rfl]⟩
    · rw [e_up, if_neg e] at hwn
      obtain ⟨c1, c2⟩ := b5 w hw hwn
      rw [e_up, if_neg e]
      exact ⟨by omega, by rw [e_up, if_neg (by omega)]; exact c2⟩
  · by_cases e : w = v
    · subst e
      rw [e_up, if_pos rfl] at hu'
      have hu2 : u = u' := Option.some.inj hu'
      subst hu2
      have uw := ne u fu
      refine ⟨hu, by rw [e_up, if_neg uw]; exact fu, ?_, o⟩
      rw [e_up, if_neg uw, e_up, if_pos rfl]
      exact (b5 u hu fu).1
    · rw [e_up, if_neg e] at hu'
      obtain ⟨c1, c2, c3, c4⟩ := b6 w hw hws u' hu'
      refine ⟨c1, by rw [e_up, if_neg (ne _ c2)]; exact c2, ?_, c4⟩
      rw [e_up, if_neg (ne _ c2), e_up, if_neg e]
      exact c3
/-- the same, as it lies in a heap; heads done -/
def FS (a b N st : Nat) (ok : Nat → Nat → Bool) (h : MHp) (fr : Nat → Option Nat) (qu ps : Nat → Nat) (n hd : Nat) : Prop := BI N ok st fr qu ps n ∧ (∀ x : Nat, x < N → hAI h a x = oi (fr x)) ∧ (∀ k : Nat, k < n → hAI h b k = Int32.ofNat (qu k)) ∧ ∀ k : Nat, k < hd → ∀ v : Nat, v < N → ok (qu k) v = true → fr v ≠ none
def FI (a b N st : Nat) (ok : Nat → Nat → Bool) (h : MHp) (fr : Nat → Option Nat) (qu ps : Nat → Nat) (n hd u cur : Nat) : Prop := FS a b N st ok h fr qu ps n hd ∧ hd < n ∧ qu hd = u ∧ ∀ v : Nat, v < cur → v < N → ok u v = true → fr v ≠ none
theorem FI.u {a b N st n hd u cur : Nat} {ok : Nat → Nat → Bool} {h : MHp} {fr : Nat → Option Nat} {qu ps : Nat → Nat} (F : FI a b N st ok h fr qu ps n hd u cur) : u < N ∧ fr u ≠ none := by
  obtain ⟨⟨B, -⟩, f2, f3, -⟩ := F
  have := B.2.2.2.1 hd f2
  rw [f3] at this
  exact ⟨this.1, this.2.1⟩
theorem FI.skip {a b N st n hd u cur : Nat} {ok : Nat → Nat → Bool} {h : MHp} {fr : Nat → Option Nat} {qu ps : Nat → Nat} (F : FI a b N st ok h fr qu ps n hd u cur) (s : fr cur ≠ none ∨ ¬ ok u cur = true) : FI a b N st ok h fr qu ps n hd u (cur + 1) := by
  obtain ⟨f1, f2, f3, f4⟩ := F
  refine ⟨f1, f2, f3, fun v hv hN o => ?_⟩
  by_cases e : v = cur
  · subst e
    rcases s with s | s
    · exact s
    · exact absurd o s
  · exact f4 v (by omega) hN o
theorem FI.ins {a b N st n hd u cur : Nat} {ok : Nat → Nat → Bool} {h h' : MHp} {fr : Nat → Option Nat} {qu ps : Nat → Nat} (F : FI a b N st ok h fr qu ps n hd u cur) (hv : cur < N) (hn : fr cur = none) (o : ok u cur = true) (e1 : hAI h' a = va_up (hAI h a) cur (Int32.ofNat u)) (e2 : hAI h' b = va_up (hAI h b) n (Int32.ofNat cur)) : FI a b N st ok h' (va_up fr cur (some u)) (va_up qu n cur) (va_up ps cur n) (n + 1) hd u (cur + 1) := by
  obtain ⟨hu, fu⟩ := F.u
  obtain ⟨⟨B, g1, g2, g3⟩, f2, f3, f4⟩ := F
  refine ⟨⟨B.ins hv hn hu fu o, fun x hx => ?_, fun k hk => ?_, fun k hk v hvN ok' => ?_⟩, by omega, by rw [e_up, if_neg (by omega)]; exact f3, fun v hv' hvN ok' => ?_⟩
  · rw [e1, e_up, e_up]
    by_cases e : x = cur
    · rw [if_pos e, if_pos e]; rfl
    · rw [if_neg e, if_neg e]; exact g1 x hx
  · rw [e2, e_up, e_up]
    by_cases e : k = n
    · rw [if_pos e, if_pos e]
    · rw [if_neg e, if_neg e]; exact g2 k (by omega)
  · rw [e_up, if_neg (by omega)] at ok'
    rw [e_up]
    by_cases e : v = cur
    · rw [if_pos e]; intro e; cases e
    · rw [if_neg e]; exact g3 k hk v hvN ok'
  · rw [e_up]
    by_cases e : v = cur
    · rw [if_pos e]; intro e; cases e
    · rw [if_neg e]; exact f4 v (by omega) hvN ok'
theorem FI.done {a b N st n hd u cur : Nat} {ok : Nat → Nat → Bool} {h : MHp} {fr : Nat → Option Nat} {qu ps : Nat → Nat} (F : FI a b N st ok h fr qu ps n hd u cur) (s : ∀ v : Nat, v < N → ok u v = true → v < cur) : FS a b N st ok h fr qu ps n (hd + 1) := by
  obtain ⟨⟨B, g1, g2, g3⟩, f2, f3, f4⟩ := F
  refine ⟨B, g1, g2, fun k hk v hv o => ?_⟩
  by_cases e : k = hd
  · subst e
    rw [f3] at o
    exact f4 v (s v hv o) hv o
  · exact g3 k (by omega) v hv o
theorem FS.closed {a b N st n : Nat} {ok : Nat → Nat → Bool} {h : MHp} {fr : Nat → Option Nat} {qu ps : Nat → Nat} (F : FS a b N st ok h fr qu ps n n) : ∀ u v : Nat, u < N → v < N → fr u ≠ none → ok u v = true → fr v ≠ none := by
  obtain ⟨B, g1, g2, g3⟩ := F
  intro u v hu hv fu o
  obtain ⟨c1, c2⟩ := B.2.2.2.2.1 u hu fu
  exact g3 (ps u) c1 v hv (by rw [c2]; exact o)
theorem FS.oi {a b N st n hd x w : Nat} {ok : Nat → Nat → Bool} {h : MHp} {fr : Nat → Option Nat} {qu ps : Nat → Nat} (F : FS a b N st ok h fr qu ps n hd) (hx : x < N) (hw : fr x = some w) : w < N := by
  by_cases e : x = st
  · subst e
    have := F.1.2.1
    rw [hw] at this
    have := Option.some.inj this
    subst this
    exact hx
  · exact (F.1.2.2.2.2.2 x hx e w hw).1
/-! the class's ways -/
def Gc (c ls cs : Nat) (h : MHp) : Prop := CL c h ∧ hI h (c + 200) 6 = Int32.ofNat ls ∧ hI h (c + 200) 7 = Int32.ofNat cs ∧ (1 ≤ ls ∧ ls ≤ 10) ∧ (1 ≤ cs ∧ cs ≤ 10) ∧ ls * cs ≤ 60
def Gf (c : Nat) (h h' : MHp) : Prop := Sc c h h' ∧ hI h' = hI h ∧ ∀ a : Nat, a ≠ c + 204 → a ≠ c + 205 → hAI h' a = hAI h a
theorem Gf.rf {c : Nat} {h : MHp} : Gf c h h := ⟨Sc.rf, rfl, fun _ _ _ => rfl⟩
theorem Gf.tr {c : Nat} {h h1 h2 : MHp} (A : Gf c h h1) (B : Gf c h1 h2) : Gf c h h2 := ⟨A.1.tr B.1, B.2.1.trans A.2.1, fun a x y => (B.2.2 a x y).trans (A.2.2 a x y)⟩
theorem Gc.sc {c ls cs : Nat} {h h' : MHp} (G : Gc c ls cs h) (S : Sc c h h') (i : hI h' = hI h) : Gc c ls cs h' := by
  obtain ⟨g1, g2, g3, g4⟩ := G
  exact ⟨S.CL g1, by rw [i]; exact g2, by rw [i]; exact g3, g4⟩
theorem cb_lt {ls cs u v : Nat} (h : u < ls ∧ ls ≤ v ∧ v < ls + cs ∨ ls ≤ u ∧ u < ls + cs ∧ v < ls) : cb ls cs u v < ls * cs := by
  unfold cb
  rcases h with ⟨h1, h2, h3⟩ | ⟨h1, h2, h3⟩
  · rw [if_pos h1]; exact cell_lt h1 (by omega)
  · rw [if_neg (by omega)]; exact cell_lt h3 (by omega)
theorem p_cbw {c ls cs u v : Nat} {h : MHp} (G : Gc c ls cs h) (s : u < ls ∧ ls ≤ v ∧ v < ls + cs ∨ ls ≤ u ∧ u < ls + cs ∧ v < ls) : mX3_cellBetween h (c + 200) (Int32.ofNat u) (Int32.ofNat v) = some (Int32.ofNat (cb ls cs u v)) := by
  obtain ⟨L, g1, g2, g3, g4, g5⟩ := G
  have K := lK200 L
  unfold cb
  rcases s with ⟨h1, h2, h3⟩ | ⟨h1, h2, h3⟩
  · rw [if_pos h1, mX3_cellBetween, b_gI, if_pos K, g1, if_neg (by rw [le_of (by omega) (by omega)]; omega), b_gI, if_pos K, g2, b_gI, if_pos K, g1, ← Int32.ofNat_mul, ← Int32.ofNat_add, ← Int32.ofNat_sub _ _ (by omega), Nat.add_sub_assoc h2]
  · rw [if_neg (by omega), mX3_cellBetween, b_gI, if_pos K, g1, if_pos (by rw [le_of (by omega) (by omega)]; omega), b_gI, if_pos K, g2, b_gI, if_pos K, g1, ← Int32.ofNat_mul, ← Int32.ofNat_add, ← Int32.ofNat_sub _ _ (by omega), Nat.add_sub_assoc h1]
def mi (md : Bool) : Int32 := if md = true then 1 else 0
theorem p_loses {c ls cs u : Nat} {md : Bool} {h : MHp} (G : Gc c ls cs h) (hu : u < ls + cs) : mX3_loses h (c + 200) (Int32.ofNat u) (mi md) = some (if decide (u < ls) = md then 1 else 0) := by
  obtain ⟨L, g1, g2, g3, g4, g5⟩ := G
  have K := lK200 L
  rw [mX3_loses, b_gI, if_pos K, g1]
  by_cases e : u < ls
  · rw [if_neg (by rw [le_of (by omega) (by omega)]; omega), decide_eq_true e, mX3_loses_b13]
    cases md <;> rfl
  · rw [if_pos (by rw [le_of (by omega) (by omega)]; omega), decide_eq_false e, mX3_loses_b13]
    cases md <;> rfl
theorem p_countAt {c ls cs cl : Nat} {h : MHp} (G : Gc c ls cs h) (hc : cl < 100) : mX3_countAt h (c + 200) (Int32.ofNat cl) = some (hAI h (c + 203) cl) := by
  have L := G.1
  have bw := bad_n (k := cl) (n := 100) (by omega) (by omega)
  rw [mX3_countAt, if_neg (by rw [nn_of (by omega)]; exact not_false), if_neg (by rw [show (100 : Int32) = Int32.ofNat 100 from rfl, le_of (by omega) (by omega)]; omega), b_gR, if_pos (lK200 L), lR200_3 L, b_gAI, if_pos (lK203 L), lN203 L, if_neg bw, cl_of (by omega)]
theorem p_isNode {c ls cs u : Nat} {h : MHp} (G : Gc c ls cs h) (hu : u < ls + cs) : mX3_isNode h (c + 200) (Int32.ofNat u) = some 1 := by
  obtain ⟨L, g1, g2, g3, g4, g5⟩ := G
  have K := lK200 L
  rw [mX3_isNode, if_neg (by rw [nn_of (by omega)]; exact not_false), b_gI, if_pos K, g1, b_gI, if_pos K, g2, ← Int32.ofNat_add, if_neg (by rw [le_of (by omega) (by omega)]; omega), if_neg (by rw [show (20 : Int32) = Int32.ofNat 20 from rfl, le_of (by omega) (by omega)]; omega)]
theorem oI_le {x : Int} (h0 : 0 ≤ x) (h1 : x ≤ 60) : (Int32.ofInt x ≤ 0) = ¬ (0 < x) := by
  obtain ⟨n, rfl⟩ : ∃ n : Nat, x = (n : Int) := ⟨x.toNat, by omega⟩
  have e : Int32.ofInt (n : Int) = Int32.ofNat n := Int32.ofInt_eq_ofNat
  rw [e, show (0 : Int32) = Int32.ofNat 0 from rfl, le_of (by omega) (by omega)]
  exact propext ⟨fun h => by omega, fun h => by omega⟩
def Yc (c ls cs : Nat) (h : MHp) (y : Nat → Int) : Prop := ∀ cl : Nat, cl < ls * cs → hAI h (c + 203) cl = Int32.ofInt (y cl) ∧ 0 ≤ y cl ∧ y cl ≤ 60
theorem c_fc {c ls cs q n hd u v e st : Nat} {out : Int64} {md : Bool} {y : Nat → Int} {h : MHp} {fr : Nat → Option Nat} {qu ps : Nat → Nat} (G : Gc c ls cs h) (Y : Yc c ls cs h y) (hq : q < ls * cs) (F : FI (c + 204) (c + 205) (ls + cs) st (okF ls cs q (bL out) y md) h fr qu ps n hd u v) (hv : v < e) (s : u < ls ∧ ls ≤ v ∧ e = ls + cs ∨ ls ≤ u ∧ e = ls) : ∃ (h1 : MHp) (fr1 : Nat → Option Nat) (qu1 ps1 : Nat → Nat) (n1 : Nat), (∀ (nn : Nat) (k54 : MHp → Nat → Int32 → Int64 → Int32 → Int32 → Int32 → Int32 → Option (Int32 × MHp)) (gl : Int32), mX3_findCircle_l133 k54 (nn + 1) h (c + 200) gl out (mi md) (Int32.ofNat q) (Int32.ofNat n) (Int32.ofNat hd) (Int32.ofNat u) (Int32.ofNat e) (Int32.ofNat v) = mX3_findCircle_l133 k54 nn h1 (c + 200) gl out (mi md) (Int32.ofNat q) (Int32.ofNat n1) (Int32.ofNat hd) (Int32.ofNat u) (Int32.ofNat e) (Int32.ofNat (v + 1))) ∧ Gf c h h1 ∧ FI (c + 204) (c + 205) (ls + cs) st (okF ls cs q (bL out) y md) h1 fr1 qu1 ps1 n1 hd u (v + 1) := by
  obtain ⟨hu, fu⟩ := F.u
  obtain ⟨L, g1, g2, g3, g4, g5⟩ := id G
  have K := lK200 L
  have s2 : u < ls ∧ ls ≤ v ∧ v < ls + cs ∨ ls ≤ u ∧ u < ls + cs ∧ v < ls := by omega
  have hvN : v < ls + cs := by omega
  have e1 := p_cbw G s2
  have hcb := cb_lt s2
  have bv := bad_n (k := v) (n := 20) (by omega) (by omega)
  have clv : (Int32.ofNat v).toNatClampNeg = v := cl_of (by omega)
  have base : ∀ (nn : Nat) (k54 : MHp → Nat → Int32 → Int64 → Int32 → Int32 → Int32 → Int32 → Option (Int32 × MHp)) (gl : Int32), mX3_findCircle_l133 k54 (nn + 1) h (c + 200) gl out (mi md) (Int32.ofNat q) (Int32.ofNat n) (Int32.ofNat hd) (Int32.ofNat u) (Int32.ofNat e) (Int32.ofNat v) = (if oi (fr v) = (-1) then (if cb ls cs u v = q then mX3_findCircle_b232 k54 (mX3_findCircle_l133 k54 nn) h (c + 200) gl out (mi md) (Int32.ofNat q) (Int32.ofNat n) (Int32.ofNat hd) (Int32.ofNat u) (Int32.ofNat e) (Int32.ofNat v) else if bL out (cb ls cs u v) = true then (if decide (u < ls) = md then (if 0 < y (cb ls cs u v) then mX3_findCircle_b204 k54 (mX3_findCircle_l133 k54 nn) h (c + 200) gl out (mi md) (Int32.ofNat q) (Int32.ofNat n) (Int32.ofNat hd) (Int32.ofNat u) (Int32.ofNat e) (Int32.ofNat v) else mX3_findCircle_b232 k54 (mX3_findCircle_l133 k54 nn) h (c + 200) gl out (mi md) (Int32.ofNat q) (Int32.ofNat n) (Int32.ofNat hd) (Int32.ofNat u) (Int32.ofNat e) (Int32.ofNat v)) else mX3_findCircle_b204 k54 (mX3_findCircle_l133 k54 nn) h (c + 200) gl out (mi md) (Int32.ofNat q) (Int32.ofNat n) (Int32.ofNat hd) (Int32.ofNat u) (Int32.ofNat e) (Int32.ofNat v)) else mX3_findCircle_b232 k54 (mX3_findCircle_l133 k54 nn) h (c + 200) gl out (mi md) (Int32.ofNat q) (Int32.ofNat n) (Int32.ofNat hd) (Int32.ofNat u) (Int32.ofNat e) (Int32.ofNat v)) else mX3_findCircle_b232 k54 (mX3_findCircle_l133 k54 nn) h (c + 200) gl out (mi md) (Int32.ofNat q) (Int32.ofNat n) (Int32.ofNat hd) (Int32.ofNat u) (Int32.ofNat e) (Int32.ofNat v)) := by
    intro nn k54 gl
    rw [mX3_findCircle_l133, if_neg (by rw [le_of (by omega) (by omega)]; omega), if_neg (by rw [show (20 : Int32) = Int32.ofNat 20 from rfl, le_of (by omega) (by omega)]; omega), b_rcv, if_pos K, e1, o_bind, b_gR, if_pos K, lR200_4 L, b_gAI, if_pos (lK204 L), lN204 L, if_neg bv, clv, F.1.2.1 v hvN]
    by_cases a1 : oi (fr v) = -1
    · rw [if_pos a1, if_pos a1]
      by_cases a2 : cb ls cs u v = q
      · rw [if_pos (by rw [a2]), if_pos a2]
      · rw [if_neg (by rw [eq_of (by omega) (by omega)]; exact a2), if_neg a2, p_left _ (by omega), o_bind]
        by_cases a3 : bL out (cb ls cs u v) = true
        · rw [if_pos a3, if_neg n10, if_pos a3, b_rcv, if_pos K, p_loses G hu, o_bind]
          by_cases a4 : decide (u < ls) = md
          · obtain ⟨y1, y2, y3⟩ := Y (cb ls cs u v) hcb
            rw [if_pos a4, if_neg n10, if_pos a4, b_rcv, if_pos K, p_countAt G (by omega), o_bind, y1]
            have y4 := oI_le y2 y3
            by_cases a5 : 0 < y (cb ls cs u v)
            · rw [if_neg (by rw [y4]; exact fun hh => hh a5), if_pos a5]
            · rw [if_pos (by rw [y4]; exact a5), if_neg a5]
          · rw [if_neg a4, if_pos rfl, if_neg a4]
        · rw [if_neg a3, if_pos rfl, if_neg a3]
    · rw [if_neg a1, if_neg a1]
  have okd : okF ls cs q (bL out) y md u v = true ↔ cb ls cs u v ≠ q ∧ bL out (cb ls cs u v) = true ∧ (decide (u < ls) = md → 0 < y (cb ls cs u v)) := by
    unfold okF
    rw [decide_eq_true_eq]
    exact ⟨fun h => h.2, fun h => ⟨by omega, h⟩⟩
  have skip : (fr v ≠ none ∨ ¬ okF ls cs q (bL out) y md u v = true) → (∀ (nn : Nat) (k54 : MHp → Nat → Int32 → Int64 → Int32 → Int32 → Int32 → Int32 → Option (Int32 × MHp)) (gl : Int32), mX3_findCircle_l133 k54 (nn + 1) h (c + 200) gl out (mi md) (Int32.ofNat q) (Int32.ofNat n) (Int32.ofNat hd) (Int32.ofNat u) (Int32.ofNat e) (Int32.ofNat v) = mX3_findCircle_b232 k54 (mX3_findCircle_l133 k54 nn) h (c + 200) gl out (mi md) (Int32.ofNat q) (Int32.ofNat n) (Int32.ofNat hd) (Int32.ofNat u) (Int32.ofNat e) (Int32.ofNat v)) → ∃ (h1 : MHp) (fr1 : Nat → Option Nat) (qu1 ps1 : Nat → Nat) (n1 : Nat), (∀ (nn : Nat) (k54 : MHp → Nat → Int32 → Int64 → Int32 → Int32 → Int32 → Int32 → Option (Int32 × MHp)) (gl : Int32), mX3_findCircle_l133 k54 (nn + 1) h (c + 200) gl out (mi md) (Int32.ofNat q) (Int32.ofNat n) (Int32.ofNat hd) (Int32.ofNat u) (Int32.ofNat e) (Int32.ofNat v) = mX3_findCircle_l133 k54 nn h1 (c + 200) gl out (mi md) (Int32.ofNat q) (Int32.ofNat n1) (Int32.ofNat hd) (Int32.ofNat u) (Int32.ofNat e) (Int32.ofNat (v + 1))) ∧ Gf c h h1 ∧ FI (c + 204) (c + 205) (ls + cs) st (okF ls cs q (bL out) y md) h1 fr1 qu1 ps1 n1 hd u (v + 1) := fun hs he =>
    ⟨h, fr, qu, ps, n, fun nn k54 gl => by rw [he, mX3_findCircle_b232, s1_of], Gf.rf, F.skip hs⟩
  cases hf : fr v with
  | some w =>
    have hw := F.1.oi hvN hf
    have a1 : ¬ oi (fr v) = -1 := by rw [hf]; exact nm_of (by omega)
    exact skip (Or.inl (by rw [hf]; intro e; cases e)) (fun nn k54 gl => by rw [base, if_neg a1])
  | none =>
    have a1 : oi (fr v) = -1 := by rw [hf]; rfl
    by_cases o : okF ls cs q (bL out) y md u v = true
    · obtain ⟨o1, o2, o3⟩ := okd.mp o
      have nN := F.1.1.n_lt hvN hf
      have bn := bad_n (k := n) (n := 20) (by omega) (by omega)
      have cln : (Int32.ofNat n).toNatClampNeg = n := cl_of (by omega)
      obtain ⟨X, hX⟩ : ∃ X : MHp, X = sAI h (c + 204) (va_up (hAI h (c + 204)) v (Int32.ofNat u)) := ⟨_, rfl⟩
      obtain ⟨Z, hZ⟩ : ∃ Z : MHp, Z = sAI X (c + 205) (va_up (hAI X (c + 205)) n (Int32.ofNat v)) := ⟨_, rfl⟩
      have SX : Sc c h X := by rw [hX]; exact Sc.AI 204 _ (by decide)
      have SZ : Sc c X Z := by rw [hZ]; exact Sc.AI 205 _ (by decide)
      have LX := SX.CL L
      refine ⟨Z, va_up fr v (some u), va_up qu n v, va_up ps v n, n + 1, fun nn k54 gl => ?_, ⟨SX.tr SZ, by rw [hZ, hX]; rfl, fun a x1 x2 => by rw [hZ, e_sAI, if_neg x2, hX, e_sAI, if_neg x1]⟩, F.ins hvN hf o ?_ ?_⟩
      · have b204 : mX3_findCircle_b204 k54 (mX3_findCircle_l133 k54 nn) h (c + 200) gl out (mi md) (Int32.ofNat q) (Int32.ofNat n) (Int32.ofNat hd) (Int32.ofNat u) (Int32.ofNat e) (Int32.ofNat v) = mX3_findCircle_l133 k54 nn Z (c + 200) gl out (mi md) (Int32.ofNat q) (Int32.ofNat (n + 1)) (Int32.ofNat hd) (Int32.ofNat u) (Int32.ofNat e) (Int32.ofNat (v + 1)) := by
          rw [mX3_findCircle_b204, if_neg (by rw [show (20 : Int32) = Int32.ofNat 20 from rfl, le_of (by omega) (by omega)]; omega), b_gR, if_pos K, lR200_4 L, b_pAI, if_pos (lK204 L), lN204 L, if_neg bv, clv, ← hX, b_gR, if_pos (lK200 LX), lR200_5 LX, b_pAI, if_pos (lK205 LX), lN205 LX, if_neg bn, cln, ← hZ, mX3_findCircle_b232, s1_of, s1_of]
        rw [base, if_pos a1, if_neg o1, if_pos o2]
        by_cases a4 : decide (u < ls) = md
        · rw [if_pos a4, if_pos (o3 a4), b204]
        · rw [if_neg a4, b204]
      · rw [hZ, e_sAI, if_neg (by omega), hX, e_sAI, if_pos rfl]
      · rw [hZ, e_sAI, if_pos rfl, hX, e_sAI, if_neg (by omega)]
    · refine skip (Or.inr o) (fun nn k54 gl => ?_)
      rw [base, if_pos a1]
      by_cases a2 : cb ls cs u v = q
      · rw [if_pos a2]
      · rw [if_neg a2]
        by_cases a3 : bL out (cb ls cs u v) = true
        · rw [if_pos a3]
          by_cases a4 : decide (u < ls) = md
          · rw [if_pos a4, if_neg (fun a5 => o (okd.mpr ⟨a2, a3, fun _ => a5⟩))]
          · exact absurd (okd.mpr ⟨a2, a3, fun h => absurd h a4⟩) o
        · rw [if_neg a3]
