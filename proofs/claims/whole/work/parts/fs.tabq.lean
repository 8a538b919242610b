/-! reading a table: the reference's -/
def nwP (h : MHp) : MHp := sR (nA (sR (nA (sR (nA (sI (sI (sI (nO h 15 7) (hS h) 0 (-1)) (hS h) 1 (-1)) (hS h) 2 (-1)) 23 100) (hS h) 4 (some (hS h + 1))) 21 100) (hS h) 5 (some (hS h + 1 + 1))) 21 100) (hS h) 6 (some (hS h + 1 + 1 + 1))
theorem nwP_S (h : MHp) : hS (nwP h) = hS h + 4 := (rfl)
theorem nwP_K (h : MHp) (a : Nat) : hK (nwP h) a = if a = hS h + 1 + 1 + 1 then 21 else if a = hS h + 1 + 1 then 21 else if a = hS h + 1 then 23 else if a = hS h then 15 else hK h a := (rfl)
theorem nwP_N (h : MHp) (a : Nat) : hN (nwP h) a = if a = hS h + 1 + 1 + 1 then 100 else if a = hS h + 1 + 1 then 100 else if a = hS h + 1 then 100 else hN h a := (rfl)
theorem nwP_R (h : MHp) (a j : Nat) : hR (nwP h) a j = if a = hS h ∧ j = 6 then some (hS h + 1 + 1 + 1) else if a = hS h ∧ j = 5 then some (hS h + 1 + 1) else if a = hS h ∧ j = 4 then some (hS h + 1) else (if a = hS h then (fun _ => none) else hR h a) j := (rfl)
theorem nwP_I (h : MHp) (a j : Nat) : hI (nwP h) a j = if a = hS h ∧ j = 2 then -1 else if a = hS h ∧ j = 1 then -1 else if a = hS h ∧ j = 0 then -1 else (if a = hS h then (fun _ => 0) else hI h a) j := (rfl)
theorem nwP_AI (h : MHp) (a : Nat) : hAI (nwP h) a = if a = hS h + 1 + 1 + 1 then (fun _ => 0) else if a = hS h + 1 + 1 then (fun _ => 0) else if a = hS h + 1 then (fun _ => 0) else hAI h a := (rfl)
theorem nwP_ag {h : MHp} : Ag 0 (hS h) h (nwP h) := by
  unfold nwP
  exact ((((((((Ag.O 15 7 (Nat.le_refl _)).tr (Ag.I _ 0 _ (by omega))).tr (Ag.I _ 1 _ (by omega))).tr (Ag.I _ 2 _ (by omega))).tr (Ag.A 23 100 (by rw [e_S_sI, e_S_sI, e_S_sI, e_S_nO]; omega))).tr (Ag.R _ 4 _ (by omega))).tr (Ag.A 21 100 (by rw [e_S_sR, e_S_nA, e_S_sI, e_S_sI, e_S_sI, e_S_nO]; omega))).tr (Ag.R _ 5 _ (by omega))).tr (Ag.A 21 100 (by rw [e_S_sR, e_S_nA, e_S_sR, e_S_nA, e_S_sI, e_S_sI, e_S_sI, e_S_nO]; omega)) |>.tr (Ag.R _ 6 _ (by omega))
theorem nwP_e {β : Type} (h : MHp) (f : MHp → Option β) : ((some (nO h 15 7)).bind fun h66 => (mX14_init h66 (hS h)).bind f) = f (nwP h) := by
  have k0 : hK (nO h 15 7) (hS h) = 15 := by rw [e_K_nO, if_pos rfl]
  obtain ⟨Z, hZ⟩ : ∃ Z : MHp, Z = sI (sI (sI (nO h 15 7) (hS h) 0 (-1)) (hS h) 1 (-1)) (hS h) 2 (-1) := ⟨_, rfl⟩
  have KZ : hK Z (hS h) = 15 := by rw [hZ]; exact k0
  have SZ : hS Z = hS h + 1 := by rw [hZ]; rfl
  have k1 : hK (nA Z 23 100) (hS h) = 15 := by rw [e_K_nA, SZ, if_neg (by omega)]; exact KZ
  have k2 : hK (nA (sR (nA Z 23 100) (hS h) 4 (some (hS h + 1))) 21 100) (hS h) = 15 := by rw [e_K_nA, e_S_sR, e_S_nA, SZ, if_neg (by omega), e_K_sR]; exact k1
  have k3 : hK (nA (sR (nA (sR (nA Z 23 100) (hS h) 4 (some (hS h + 1))) 21 100) (hS h) 5 (some (hS h + 1 + 1))) 21 100) (hS h) = 15 := by rw [e_K_nA, e_S_sR, e_S_nA, e_S_sR, e_S_nA, SZ, if_neg (by omega), e_K_sR]; exact k2
  rw [o_bind, mX14_init, b_pI, if_pos k0, b_pI, if_pos (by exact k0), b_pI, if_pos (by exact k0), ← hZ, o_bind, b_pR, if_pos k1, SZ, o_bind, b_pR, if_pos k2, e_S_sR, e_S_nA, SZ, o_bind, b_pR, if_pos k3, e_S_sR, e_S_nA, e_S_sR, e_S_nA, SZ, o_bind, hZ]
  rfl
theorem nwP_rp (h : MHp) : RIP (nwP h) (hS h) ∧ hI (nwP h) (hS h) 0 = -1 ∧ hI (nwP h) (hS h) 1 = -1 ∧ hI (nwP h) (hS h) 2 = -1 ∧ hR (nwP h) (hS h) 3 = none ∧ RX (nwP h) (hS h) (fun _ => none) := by
  refine ⟨⟨?_, ?_, ?_, ?_, ?_, ?_, ?_, ?_, ?_, ?_⟩, ?_, ?_, ?_, ?_, fun k _ => ?_⟩
  · rw [nwP_K, if_neg (by omega), if_neg (by omega), if_neg (by omega), if_pos rfl]
  · rw [nwP_R, if_neg (by omega), if_neg (by omega), if_pos ⟨rfl, rfl⟩]
  · rw [nwP_R, if_neg (by omega), if_pos ⟨rfl, rfl⟩]
  · rw [nwP_R, if_pos ⟨rfl, rfl⟩]
  · rw [nwP_K, if_neg (by omega), if_neg (by omega), if_pos rfl]
  · rw [nwP_K, if_neg (by omega), if_pos rfl]
  · rw [nwP_K, if_pos rfl]
  · rw [nwP_N, if_neg (by omega), if_neg (by omega), if_pos rfl]
  · rw [nwP_N, if_neg (by omega), if_pos rfl]
  · rw [nwP_N, if_pos rfl]
  · rw [nwP_I, if_neg (by omega), if_neg (by omega), if_pos ⟨rfl, rfl⟩]
  · rw [nwP_I, if_neg (by omega), if_pos ⟨rfl, rfl⟩]
  · rw [nwP_I, if_pos ⟨rfl, rfl⟩]
  · rw [nwP_R, if_neg (by omega), if_neg (by omega), if_neg (by omega), if_pos rfl]
  · show hAI (nwP h) (hS h + 1) k = 0
    rw [nwP_AI, if_neg (by omega), if_neg (by omega), if_pos rfl]
/-! frames -/
theorem QF.fq {m u : Nat} {H h h' : MHp} (Q : QF m H h) (F : FQ m u h h') (d : hS H ≤ u) : QF m H h' := Q.fr F.fr d
theorem QF.Ip {m p : Nat} {H h : MHp} (Q : QF m H h) (j : Nat) (v : Int32) (d : hS H ≤ p) (d2 : m < hS H) : QF m H (sI h p j v) := by
  obtain ⟨q1, q2, q3⟩ := Q
  refine ⟨q1, fun a ha => ?_, fun i hi => by rw [e_sI, if_neg (by omega)]; exact q3 i hi⟩
  obtain ⟨x1, x2, x3, x4, x5, x6, x7⟩ := q2 a ha
  exact ⟨x1, x2, x3, x4, x5, x6, fun e1 e2 => ⟨(up2_ne _ _ _ (by omega)).trans (x7 e1 e2).1, (x7 e1 e2).2⟩⟩
theorem QF.Rp {m p : Nat} {H h : MHp} (Q : QF m H h) (j : Nat) (v : Option Nat) (d : hS H ≤ p) : QF m H (sR h p j v) := by
  obtain ⟨q1, q2, q3⟩ := Q
  refine ⟨q1, fun a ha => ?_, q3⟩
  obtain ⟨x1, x2, x3, x4, x5, x6, x7⟩ := q2 a ha
  exact ⟨x1, x2, x3, x4, x5, fun i hi => by rw [e_sR, if_neg (by omega)]; exact x6 i hi, x7⟩
theorem QF.stop {m : Nat} {h : MHp} (f v : Int32) : QF m h (sI (sI h (m + 2) 6 f) (m + 2) 7 v) :=
  ⟨Nat.le_refl _, fun a _ => ⟨rfl, rfl, rfl, rfl, rfl, fun _ _ => rfl, fun _ e2 => ⟨(up2_ne _ _ _ e2).trans (up2_ne _ _ _ e2), rfl⟩⟩, fun j _ => by rw [e_sI, if_neg (by omega), e_sI, if_neg (by omega)]⟩
/-- the reference's table at p holds P so far (no where), the reader stands at t -/
def Kq (m p : Nat) (H : MHp) (g : Nat → Int32) (n : Nat) (P : Pl) (t : Tok) (h : MHp) : Prop := QF m H h ∧ hS H ≤ p ∧ PR m g n t h ∧ (hI h m 10 = 0 ∧ hI h m 3 = 0) ∧ RIP h p ∧ hI h p 0 = oi (pS P) ∧ hI h p 1 = oi (pI1 P) ∧ hI h p 2 = oi (pI2 P) ∧ p + 4 ≤ hS h ∧ hR h p 3 = none ∧ RX h p (fun _ => none)
def RFp {α : Type} (m : Nat) (H : MHp) (F : Option ((α ⊕ Nat) × MHp)) (f : Int32) (t : Tok) : Prop := ∃ h2 : MHp, F = some (Sum.inr (m + 2), h2) ∧ QF m H h2 ∧ hI h2 m 10 = 0 ∧ hI h2 (m + 2) 6 = f ∧ hI h2 (m + 2) 7 = Int32.ofNat (kS t)
theorem Kq.sn {m p n : Nat} {H : MHp} {g : Nat → Int32} {P : Pl} {t t' : Tok} {h h' : MHp} (d : m + 26 ≤ hS H) (K : Kq m p H g n P t h) (S : Sn m h h') (P' : PR m g n t' h') : Kq m p H g n P t' h' := by
  obtain ⟨k1, k2, k3, ⟨k4, k5⟩, k6, k7, k8, k9, k10, k11, k12⟩ := K
  obtain ⟨a1, a2, a3, a4, a5, a6, a7, a8, a9⟩ := id S
  have ip := (a8 p (by omega)).1
  refine ⟨k1.tr (QF.sn S), k2, P', ⟨by rw [a9 10 (by omega)]; exact k4, by rw [a9 3 (by omega)]; exact k5⟩, ?_, by rw [ip]; exact k7, by rw [ip]; exact k8, by rw [ip]; exact k9, by rw [a7]; exact k10, by rw [a3]; exact k11, ?_⟩
  · unfold RIP at k6 ⊢
    rw [a1, a2, a3]
    exact k6
  · unfold RX
    rw [a5, a6]
    exact k12
theorem Kq.I {m p n j : Nat} {v : Int32} {H : MHp} {g : Nat → Int32} {P P' : Pl} {t : Tok} {h : MHp} (d : m + 26 ≤ hS H) (K : Kq m p H g n P t h) (i0 : hI (sI h p j v) p 0 = oi (pS P')) (i1 : hI (sI h p j v) p 1 = oi (pI1 P')) (i2 : hI (sI h p j v) p 2 = oi (pI2 P')) : Kq m p H g n P' t (sI h p j v) := by
  obtain ⟨k1, k2, k3, ⟨k4, k5⟩, k6, k7, k8, k9, k10, k11, k12⟩ := K
  exact ⟨k1.Ip j v k2 (by omega), k2, PR.ag (Ag.I _ _ _ (by omega)) k3, ⟨by rw [e_sI, if_neg (by omega)]; exact k4, by rw [e_sI, if_neg (by omega)]; exact k5⟩, k6, i0, i1, i2, k10, k11, k12⟩
theorem Kq.stop {α : Type} {m p n : Nat} {H : MHp} {g : Nat → Int32} {P : Pl} {t : Tok} {h : MHp} (K : Kq m p H g n P t h) (f : Int32) : RFp (α := α) m H (some (Sum.inr (m + 2), sI (sI h (m + 2) 6 f) (m + 2) 7 (hI h m 14))) f t := by
  refine ⟨_, rfl, K.1.tr (QF.stop f _), ?_, ?_, ?_⟩
  · rw [e_sI, if_neg (by omega), e_sI, if_neg (by omega)]; exact K.2.2.2.1.1
  · rw [e_sI, if_neg (by omega), e_Iself]
  · rw [e_Iself]; exact K.2.2.1.2.2.1
/-- what is known of the book while a table is read -/
def Bq (m b : Nat) (H : MHp) (B : Bk) : Prop := m + 26 ≤ hS H ∧ hR H m 4 = some b ∧ RB (m + 26) H b B ∧ NW B
theorem Kq.bk {m b p n : Nat} {H : MHp} {g : Nat → Int32} {B : Bk} {P : Pl} {t : Tok} {h : MHp} (Q : Bq m b H B) (K : Kq m p H g n P t h) : hR h m 4 = some b ∧ RB (m + 26) h b B := by
  obtain ⟨q1, q2, q3, q4⟩ := Q
  obtain ⟨k1, -⟩ := K
  refine ⟨?_, RB.ag k1.ag k1.1 q3⟩
  rw [(k1.2.1 m (by omega)).2.2.2.2.2.1 4 (by omega)]
  exact q2
def enF (g : Nat → Int32) (n : Nat) (B : Bk) (t : Tok) : Int32 := if whF g n B t = 0 then (if kK (whT g n B t) = 0 then 0 else 1) else whF g n B t
/-- a table that was read -/
def Kz (m p : Nat) (H : MHp) (P : Pl) (h : MHp) : Prop := QF m H h ∧ hS H ≤ p ∧ hI h m 10 = 0 ∧ hI h m 3 = 0 ∧ RP (m + 26) h p P ∧ RX h p (fun _ => none)
theorem q_b146 {m n : Nat} {g : Nat → Int32} {t : Tok} {h : MHp} (G : GT g n t) (P : PR m g n t h) (v : Option Nat) : (kK t = 0 → mX16_readTable_b146 h m v = some (Sum.inl v, h)) ∧ (¬ kK t = 0 → mX16_readTable_b146 h m v = some (Sum.inr (m + 2), sI (sI h (m + 2) 6 1) (m + 2) 7 (hI h m 14))) := by
  have L := P.1.1
  have k5 := kK_5 G
  refine ⟨fun e => ?_, fun e => ?_⟩
  · rw [mX16_readTable_b146, b_gI, if_pos (qK0 L), P.2.2.2.1, if_pos (by rw [rcd_0 k5]; exact e)]
  · rw [mX16_readTable_b146, b_gI, if_pos (qK0 L), P.2.2.2.1, if_neg (by rw [rcd_0 k5]; exact e), b_rcv, if_pos (qK0 L), q_thr L]
theorem q_b121 {m b p n : Nat} {H : MHp} {g : Nat → Int32} {B : Bk} {o i1 i2 : Option Nat} {t : Tok} {h : MHp} (hb : ∀ k : Nat, (g k).toInt8.toInt32 = g k) (Q : Bq m b H B) (G : GT g n t) (K : Kq m p H g n (o, i1, i2, noT) t h) : (enF g n B t ≠ 0 → RFp m H (mX16_readTable_b121 h m (some p)) (enF g n B t) (whT g n B t)) ∧ (enF g n B t = 0 → ∃ h' : MHp, mX16_readTable_b121 h m (some p) = some (Sum.inl (some p), h') ∧ Kz m p H (o, i1, i2, whW g n B t) h') := by
  have P := K.2.2.1
  have L := P.1.1
  have d26 := Q.1
  have iw := q_isWord P G (show 6 < 9 by omega)
  have pH := K.2.1
  by_cases a6 : isW t 6 = true
  · rw [if_pos a6] at iw
    obtain ⟨h1, e1, S1, P1⟩ := P.st hb (by have := isW_1 a6; omega)
    have K1 := K.sn d26 S1 P1
    have L1 := P1.1.1
    have G1 : GT g n (nxt g n t) := G.nx
    obtain ⟨r4, RB1⟩ := K1.bk Q
    have wF' : whF g n B t = (tstR g n B (nxt g n t)).1 := by unfold whF; rw [if_pos a6]
    have wT' : whT g n B t = (tstR g n B (nxt g n t)).2.1 := by unfold whT; rw [if_pos a6]
    have wW' : whW g n B t = (tstR g n B (nxt g n t)).2.2 := by unfold whW; rw [if_pos a6]
    obtain ⟨t1, t2⟩ := q_readTest hb RB1.2.2.2.2.1.1 RB1.2.2.2.2.1.2 Q.2.2.2 G1 P1 RB1.n2
    obtain ⟨c1, c2, c3, ⟨c4, c5⟩, c6, c7, c8, c9, c10, c11, c12⟩ := id K1
    have le1 : hS H ≤ hS h1 := c1.1
    have pre1 : ∀ (q : Nat) (h2 : MHp), mX16_readTest h1 m (some b) = some (Sum.inr q, h2) → mX16_readTable_b121 h m (some p) = some (Sum.inr q, h2) := fun q h2 e => by
      rw [mX16_readTable_b121, b_rcv, if_pos (qK0 L), iw, o_bind, if_neg n10, b_rcv, if_pos (qK0 L), e1, o_bind, b_gR, if_pos (qK0 L1), r4, b_rcv, if_pos (qK0 L1), e, o_bind]
    have pre2 : ∀ (x : Option Nat) (h2 : MHp), mX16_readTest h1 m (some b) = some (Sum.inl x, h2) → mX16_readTable_b121 h m (some p) = (pR 15 3 h2 (some p) x).bind fun h15 => mX16_readTable_b146 h15 m (some p) := fun x h2 e => by
      rw [mX16_readTable_b121, b_rcv, if_pos (qK0 L), iw, o_bind, if_neg n10, b_rcv, if_pos (qK0 L), e1, o_bind, b_gR, if_pos (qK0 L1), r4, b_rcv, if_pos (qK0 L1), e, o_bind]
    unfold enF
    rw [wF', wT', wW']
    by_cases z : (tstR g n B (nxt g n t)).1 = 0
    · rw [if_pos z]
      obtain ⟨h2, e2, F2, q1, q2, q3, q4, -⟩ := t2 z
      have G2 : GT g n (tstR g n B (nxt g n t)).2.1 := (tsR_ok Q.2.2.2 13 noT (nxt g n t) rfl (by omega) (noT_W _) G1 z).1
      obtain ⟨X, eX⟩ : ∃ X : MHp, X = sR h2 p 3 (some (hS h1)) := ⟨_, rfl⟩
      have low := fun a (ha : a < hS h1) => F2.2.1 a ha
      have kp : hK h2 p = 15 := by rw [(low p (by omega)).1]; exact c6.1
      have QX : QF m H X := by rw [eX]; exact (c1.fq F2 le1).Rp 3 _ pH
      have PX : PR m g n (tstR g n B (nxt g n t)).2.1 X := by rw [eX]; exact PR.ag (Ag.R _ _ _ (by omega)) q1
      have x10 : hI X m 10 = 0 := by rw [eX]; exact (F2.2.2 10 (by omega)).trans c4
      have x3 : hI X m 3 = 0 := by rw [eX]; exact (F2.2.2 3 (by omega)).trans c5
      have cell : ∀ a : Nat, p ≤ a → a < p + 4 → hK X a = hK h1 a ∧ hN X a = hN h1 a ∧ hI X a = hI h1 a ∧ hAI X a = hAI h1 a ∧ hAL X a = hAL h1 a ∧ ∀ j : Nat, j ≠ 3 → hR X a j = hR h1 a j := fun a u1 u2 => by
        obtain ⟨y1, y2, y3, y4, y5⟩ := low a (by omega)
        obtain ⟨y6, y7, y8⟩ := y5 (Or.inl (by omega))
        rw [eX]
        exact ⟨y1, y2, (y8 (by omega) (by omega)).1, y6, y7, fun j hj => by rw [e_sR, if_neg (fun e => hj e.2), y3]⟩
      have KZ : Kz m p H (o, i1, i2, (tstR g n B (nxt g n t)).2.2) X := by
        obtain ⟨T, eT⟩ : ∃ T : Ts, T = (tstR g n B (nxt g n t)).2.2 := ⟨_, rfl⟩
        rw [← eT] at q3 ⊢
        obtain ⟨v1, v2, v3, v4, v5, v6, v7, v8, v9, v10⟩ := c6
        have s0 := cell p (by omega) (by omega)
        have s1 := cell (p + 1) (by omega) (by omega)
        have s2 := cell (p + 2) (by omega) (by omega)
        have s3 := cell (p + 3) (by omega) (by omega)
        have SX : hS X = hS h2 := by rw [eX]; rfl
        refine ⟨QX, pH, x10, x3, ⟨⟨by rw [s0.1]; exact v1, by rw [s0.2.2.2.2.2 4 (by omega)]; exact v2, by rw [s0.2.2.2.2.2 5 (by omega)]; exact v3, by rw [s0.2.2.2.2.2 6 (by omega)]; exact v4, by rw [s1.1]; exact v5, by rw [s2.1]; exact v6, by rw [s3.1]; exact v7, by rw [s1.2.1]; exact v8, by rw [s2.2.1]; exact v9, by rw [s3.2.1]; exact v10⟩, by rw [s0.2.2.1]; exact c7, by rw [s0.2.2.1]; exact c8, by rw [s0.2.2.1]; exact c9, ⟨by omega, by rw [SX]; omega⟩, Or.inr ⟨hS h1, ?_, by omega, by rw [SX]; exact q4, ?_⟩⟩, ?_⟩
        · rw [eX, e_sR, if_pos ⟨rfl, rfl⟩]
        · rw [eX]
          exact RT.ag (Ag.R _ _ _ (by omega)) q3
        · unfold RX
          rw [s1.2.2.2.1, s2.2.2.2.2.1, s3.2.2.2.2.1]
          exact c12
      obtain ⟨f1, f2⟩ := q_b146 G2 PX (some p)
      have bb : mX16_readTable_b121 h m (some p) = mX16_readTable_b146 X m (some p) := by rw [pre2 _ _ e2, b_pR, if_pos kp, eX]
      by_cases a0 : kK (tstR g n B (nxt g n t)).2.1 = 0
      · rw [if_pos a0]
        exact ⟨fun e => absurd rfl e, fun _ => ⟨X, by rw [bb, f1 a0], KZ⟩⟩
      · rw [if_neg a0]
        refine ⟨fun _ => ⟨sI (sI X (m + 2) 6 1) (m + 2) 7 (hI X m 14), by rw [bb, f2 a0], QX.tr (QF.stop 1 _), ?_, ?_, ?_⟩, fun e => absurd e n10⟩
        · rw [e_sI, if_neg (by omega), e_sI, if_neg (by omega)]; exact x10
        · rw [e_sI, if_neg (by omega), e_Iself]
        · rw [e_Iself]; exact PX.2.2.1
    · rw [if_neg z]
      refine ⟨fun _ => ?_, fun e => absurd e z⟩
      obtain ⟨h2, e2, F2, f2, x2⟩ := t1 z
      exact ⟨h2, pre1 _ _ e2, c1.fq F2 le1, (F2.2.2 10 (by omega)).trans c4, f2, x2⟩
  · rw [if_neg a6] at iw
    have wF' : whF g n B t = 0 := by unfold whF; rw [if_neg a6]
    have wT' : whT g n B t = t := by unfold whT; rw [if_neg a6]
    have wW' : whW g n B t = noT := by unfold whW; rw [if_neg a6]
    unfold enF
    rw [wF', wT', wW', if_pos rfl]
    obtain ⟨f1, f2⟩ := q_b146 G P (some p)
    have bb : mX16_readTable_b121 h m (some p) = mX16_readTable_b146 h m (some p) := by rw [mX16_readTable_b121, b_rcv, if_pos (qK0 L), iw, o_bind, if_pos rfl]
    rw [bb]
    by_cases a0 : kK t = 0
    · rw [if_pos a0]
      refine ⟨fun e => absurd rfl e, fun _ => ⟨h, f1 a0, ?_⟩⟩
      obtain ⟨c1, c2, c3, ⟨c4, c5⟩, c6, c7, c8, c9, c10, c11, c12⟩ := K
      exact ⟨c1, c2, c4, c5, ⟨c6, c7, c8, c9, ⟨by omega, c10⟩, Or.inl ⟨rfl, c11⟩⟩, c12⟩
    · rw [if_neg a0]
      refine ⟨fun _ => ?_, fun e => absurd e n10⟩
      rw [f2 a0]
      exact K.stop 1
