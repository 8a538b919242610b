/-! reading a table: the reference's, whole -/
theorem q_b46 {m b p n : Nat} {H : MHp} {g : Nat → Int32} {B : Bk} {o : Option Nat} {t : Tok} {h : MHp} (hb : ∀ k : Nat, (g k).toInt8.toInt32 = g k) (Q : Bq m b H B) (G : GT g n t) (K : Kq m p H g n (o, none, none, noT) t h) : ((if byF g n B t = 0 then enF g n B (byT g n B t) else byF g n B t) ≠ 0 → RFp m H (mX16_readTable_b46 h m (some p)) (if byF g n B t = 0 then enF g n B (byT g n B t) else byF g n B t) (if byF g n B t = 0 then whT g n B (byT g n B t) else byT g n B t)) ∧ ((if byF g n B t = 0 then enF g n B (byT g n B t) else byF g n B t) = 0 → ∃ h' : MHp, mX16_readTable_b46 h m (some p) = some (Sum.inl (some p), h') ∧ Kz m p H (o, by1 g n B t, by2 g n B t, whW g n B (byT g n B t)) h') := by
  have P := K.2.2.1
  have L := P.1.1
  have d26 := Q.1
  have w6 := Q.2.2.2.1
  have iw := q_isWord P G (show 5 < 9 by omega)
  have pH := K.2.1
  by_cases a5 : isW t 5 = true
  · rw [if_pos a5] at iw
    have eF : byF g n B t = (if kf B (nxt g n t) = 0 then (if cmT (bt2 g n t) = true then (if kf B (bt3 g n t) = 0 then (if bf3 B g n t = bf1 B g n t then 3 else 0) else kf B (bt3 g n t)) else 0) else kf B (nxt g n t)) := by unfold byF; rw [if_pos a5]
    have eT : byT g n B t = (if kf B (nxt g n t) = 0 then (if cmT (bt2 g n t) = true then (if kf B (bt3 g n t) = 0 then (if bf3 B g n t = bf1 B g n t then bt3 g n t else nxt g n (bt3 g n t)) else bt3 g n t) else bt2 g n t) else nxt g n t) := by unfold byT; rw [if_pos a5]
    have e1' : by1 g n B t = some (bf1 B g n t) := by unfold by1; rw [if_pos a5]
    have e2' : by2 g n B t = (if cmT (bt2 g n t) = true then some (bf3 B g n t) else none) := by unfold by2; rw [if_pos a5]
    rw [eF, eT, e1', e2']
    obtain ⟨h1, e1, S1, P1⟩ := P.st hb (by have := isW_1 a5; omega)
    have K1 := K.sn d26 S1 P1
    have L1 := P1.1.1
    have G1 : GT g n (nxt g n t) := G.nx
    obtain ⟨r4, RB1⟩ := K1.bk Q
    have kn := q_known P1 G1 RB1.n2 Q.2.2.2
    have kp : hK h1 p = 15 := K1.2.2.2.2.1.1
    by_cases k0 : kf B (nxt g n t) = 0
    · rw [if_pos k0] at kn
      rw [if_pos k0, if_pos k0]
      have lt : bf1 B g n t < bF B := kf_lt k0
      obtain ⟨X, eX⟩ : ∃ X : MHp, X = sI h1 p 1 (Int32.ofNat (bf1 B g n t)) := ⟨_, rfl⟩
      obtain ⟨c1, c2, c3, c45, c6, c7, c8, c9, c10, c11, c12⟩ := id K1
      have KX : Kq m p H g n (o, some (bf1 B g n t), none, noT) (nxt g n t) X := by
        rw [eX]
        refine K1.I d26 ?_ ?_ ?_
        · rw [e_sI, if_neg (by omega)]; exact c7
        · rw [e_Iself]; rfl
        · rw [e_sI, if_neg (by omega)]; exact c9
      have LX := KX.2.2.1.1.1
      obtain ⟨h2, e2, S2, P2⟩ := KX.2.2.1.st hb (by rw [kf_1 k0]; decide)
      have K2 := KX.sn d26 S2 P2
      have L2 := P2.1.1
      have G2 : GT g n (bt2 g n t) := G1.nx
      have is := q_is P2 G2 44
      have pre : mX16_readTable_b46 h m (some p) = (if (if kK (nxt g n (nxt g n t)) = 3 ∧ kV (nxt g n (nxt g n t)) = 44 then (1 : Int32) else 0) = 0 then mX16_readTable_b121 h2 m (some p) else (rcv 17 h2 (some m)).bind fun b33 => (mX16_next h2 b33).bind fun r32 => (gR 17 4 r32 (some m)).bind fun x34 => (rcv 17 r32 (some m)).bind fun b36 => (mX16_readName r32 b36 x34).bind fun r35 => (match r35 with
        | (Sum.inl x38, h37) => (pI 15 2 h37 (some p) x38).bind fun h39 => (gI 15 2 h39 (some p)).bind fun x40 => (gI 15 1 h39 (some p)).bind fun x41 => (if x40 = x41 then (rcv 17 h39 (some m)).bind fun b45 => (mX16_stop h39 b45 3).bind fun r44 => (rcv 14 r44.2 r44.1).bind fun q46 => some (Sum.inr q46, r44.2) else (rcv 17 h39 (some m)).bind fun b43 => (mX16_next h39 b43).bind fun r42 => mX16_readTable_b121 r42 m (some p))
        | (Sum.inr q48, h37) => some (Sum.inr q48, h37))) := by
        rw [mX16_readTable_b46, b_rcv, if_pos (qK0 L), iw, o_bind, if_neg n10, b_rcv, if_pos (qK0 L), e1, o_bind, b_gR, if_pos (qK0 L1), r4, b_rcv, if_pos (qK0 L1), kn, o_bind]
        show ((pI 15 1 h1 (some p) (Int32.ofNat (bf1 B g n t))).bind fun h27 => _) = _
        rw [b_pI, if_pos kp, ← eX, b_rcv, if_pos (qK0 LX), e2, o_bind, b_rcv, if_pos (qK0 L2), is, o_bind]
        rfl
      rw [pre]
      by_cases cm : cmT (bt2 g n t) = true
      · rw [if_pos cm, if_pos cm, if_pos cm]
        have cm' : kK (nxt g n (nxt g n t)) = 3 ∧ kV (nxt g n (nxt g n t)) = 44 := of_decide_eq_true cm
        rw [if_pos cm', if_neg n10]
        obtain ⟨h3, e3, S3, P3⟩ := P2.st hb (by omega)
        have K3 := K2.sn d26 S3 P3
        have L3 := P3.1.1
        have G3 : GT g n (bt3 g n t) := G2.nx
        obtain ⟨r43, RB3⟩ := K3.bk Q
        have kn3 := q_known P3 G3 RB3.n2 Q.2.2.2
        have kp3 : hK h3 p = 15 := K3.2.2.2.2.1.1
        by_cases k3 : kf B (bt3 g n t) = 0
        · have k3' : kf B (nxt g n (nxt g n (nxt g n t))) = 0 := k3
          rw [if_pos k3'] at kn3
          rw [if_pos k3, if_pos k3]
          have lt3 : bf3 B g n t < bF B := kf_lt k3
          obtain ⟨Y, eY⟩ : ∃ Y : MHp, Y = sI h3 p 2 (Int32.ofNat (bf3 B g n t)) := ⟨_, rfl⟩
          obtain ⟨u1, u2, u3, u45, u6, u7, u8, u9, u10, u11, u12⟩ := id K3
          have KY : Kq m p H g n (o, some (bf1 B g n t), some (bf3 B g n t), noT) (bt3 g n t) Y := by
            rw [eY]
            refine K3.I d26 ?_ ?_ ?_
            · rw [e_sI, if_neg (by omega)]; exact u7
            · rw [e_sI, if_neg (by omega)]; exact u8
            · rw [e_Iself]; rfl
          have LY := KY.2.2.1.1.1
          have kY : hK Y p = 15 := by rw [eY]; exact kp3
          have y2 : hI Y p 2 = Int32.ofNat (bf3 B g n t) := by rw [eY, e_Iself]
          have y1 : hI Y p 1 = Int32.ofNat (bf1 B g n t) := KY.2.2.2.2.2.2.1
          have base : ∀ k : Option Nat ⊕ Nat → MHp → Option ((Option Nat ⊕ Nat) × MHp), ((rcv 17 h2 (some m)).bind fun b33 => (mX16_next h2 b33).bind fun r32 => (gR 17 4 r32 (some m)).bind fun x34 => (rcv 17 r32 (some m)).bind fun b36 => (mX16_readName r32 b36 x34).bind fun r35 => (match r35 with
            | (Sum.inl x38, h37) => (pI 15 2 h37 (some p) x38).bind fun h39 => (gI 15 2 h39 (some p)).bind fun x40 => (gI 15 1 h39 (some p)).bind fun x41 => (if x40 = x41 then (rcv 17 h39 (some m)).bind fun b45 => (mX16_stop h39 b45 3).bind fun r44 => (rcv 14 r44.2 r44.1).bind fun q46 => some (Sum.inr q46, r44.2) else (rcv 17 h39 (some m)).bind fun b43 => (mX16_next h39 b43).bind fun r42 => mX16_readTable_b121 r42 m (some p))
            | (Sum.inr q48, h37) => some (Sum.inr q48, h37))) = (if Int32.ofNat (bf3 B g n t) = Int32.ofNat (bf1 B g n t) then (rcv 17 Y (some m)).bind fun b45 => (mX16_stop Y b45 3).bind fun r44 => (rcv 14 r44.2 r44.1).bind fun q46 => some (Sum.inr q46, r44.2) else (rcv 17 Y (some m)).bind fun b43 => (mX16_next Y b43).bind fun r42 => mX16_readTable_b121 r42 m (some p)) := fun _ => by
            rw [b_rcv, if_pos (qK0 L2), e3, o_bind, b_gR, if_pos (qK0 L3), r43, b_rcv, if_pos (qK0 L3), kn3, o_bind]
            show ((pI 15 2 h3 (some p) (Int32.ofNat (bf3 B g n t))).bind fun h39 => _) = _
            rw [b_pI, if_pos kp3, ← eY, b_gI, if_pos kY, y2, b_gI, if_pos kY, y1]
          rw [base (fun _ _ => none)]
          by_cases sm : bf3 B g n t = bf1 B g n t
          · rw [if_pos sm, if_pos sm, if_neg (show ¬ ((3 : Int32) = 0) by decide), if_neg (show ¬ ((3 : Int32) = 0) by decide), if_pos (by rw [sm]), b_rcv, if_pos (qK0 LY), q_thr LY]
            exact ⟨fun _ => KY.stop 3, fun e => absurd e (by decide)⟩
          · have ns : ¬ Int32.ofNat (bf3 B g n t) = Int32.ofNat (bf1 B g n t) := by rw [eq_of (by omega) (by omega)]; exact sm
            obtain ⟨h4, e4, S4, P4⟩ := KY.2.2.1.st hb (by rw [kf_1 k3]; decide)
            have K4 := KY.sn d26 S4 P4
            have G4 : GT g n (nxt g n (bt3 g n t)) := G3.nx
            rw [if_neg sm, if_neg sm, if_pos rfl, if_pos rfl, if_neg ns, b_rcv, if_pos (qK0 LY), e4, o_bind]
            exact q_b121 hb Q G4 K4
        · have k3' : ¬ kf B (nxt g n (nxt g n (nxt g n t))) = 0 := k3
          rw [if_neg k3'] at kn3
          rw [if_neg k3, if_neg k3, if_neg k3, if_neg k3]
          refine ⟨fun _ => ?_, fun e => absurd e k3⟩
          have e : ((rcv 17 h2 (some m)).bind fun b33 => (mX16_next h2 b33).bind fun r32 => (gR 17 4 r32 (some m)).bind fun x34 => (rcv 17 r32 (some m)).bind fun b36 => (mX16_readName r32 b36 x34).bind fun r35 => (match r35 with
            | (Sum.inl x38, h37) => (pI 15 2 h37 (some p) x38).bind fun h39 => (gI 15 2 h39 (some p)).bind fun x40 => (gI 15 1 h39 (some p)).bind fun x41 => (if x40 = x41 then (rcv 17 h39 (some m)).bind fun b45 => (mX16_stop h39 b45 3).bind fun r44 => (rcv 14 r44.2 r44.1).bind fun q46 => some (Sum.inr q46, r44.2) else (rcv 17 h39 (some m)).bind fun b43 => (mX16_next h39 b43).bind fun r42 => mX16_readTable_b121 r42 m (some p))
            | (Sum.inr q48, h37) => some (Sum.inr q48, h37))) = some (Sum.inr (m + 2), sI (sI h3 (m + 2) 6 (kf B (bt3 g n t))) (m + 2) 7 (hI h3 m 14)) := by
            rw [b_rcv, if_pos (qK0 L2), e3, o_bind, b_gR, if_pos (qK0 L3), r43, b_rcv, if_pos (qK0 L3), kn3, o_bind]
            rfl
          rw [e]
          exact K3.stop (kf B (bt3 g n t))
      · rw [if_neg cm, if_neg cm, if_neg cm]
        have cm' : ¬ (kK (nxt g n (nxt g n t)) = 3 ∧ kV (nxt g n (nxt g n t)) = 44) := fun e => cm (decide_eq_true e)
        rw [if_neg cm', if_pos rfl, if_pos rfl, if_pos rfl]
        exact q_b121 hb Q G2 K2
    · rw [if_neg k0] at kn
      rw [if_neg k0, if_neg k0, if_neg k0, if_neg k0]
      refine ⟨fun _ => ?_, fun e => absurd e k0⟩
      have e : mX16_readTable_b46 h m (some p) = some (Sum.inr (m + 2), sI (sI h1 (m + 2) 6 (kf B (nxt g n t))) (m + 2) 7 (hI h1 m 14)) := by
        rw [mX16_readTable_b46, b_rcv, if_pos (qK0 L), iw, o_bind, if_neg n10, b_rcv, if_pos (qK0 L), e1, o_bind, b_gR, if_pos (qK0 L1), r4, b_rcv, if_pos (qK0 L1), kn, o_bind]
      rw [e]
      exact K1.stop (kf B (nxt g n t))
  · rw [if_neg a5] at iw
    have eF : byF g n B t = 0 := by unfold byF; rw [if_neg a5]
    have eT : byT g n B t = t := by unfold byT; rw [if_neg a5]
    have e1' : by1 g n B t = none := by unfold by1; rw [if_neg a5]
    have e2' : by2 g n B t = none := by unfold by2; rw [if_neg a5]
    rw [eF, eT, e1', e2', if_pos rfl, if_pos rfl]
    have e : mX16_readTable_b46 h m (some p) = mX16_readTable_b121 h m (some p) := by rw [mX16_readTable_b46, b_rcv, if_pos (qK0 L), iw, o_bind, if_pos rfl]
    rw [e]
    exact q_b121 hb Q G K
theorem q_readTable {m b n : Nat} {H h : MHp} {g : Nat → Int32} {B : Bk} {t : Tok} (hb : ∀ k : Nat, (g k).toInt8.toInt32 = g k) (Q : Bq m b H B) (F : QF m H h) (P : PR m g n t h) (i10 : hI h m 10 = 0 ∧ hI h m 3 = 0) (G : GT g n t) : (taF g n B t ≠ 0 → RFp m H (mX16_readTable h m) (taF g n B t) (taT g n B t)) ∧ (taF g n B t = 0 → ∃ h' : MHp, mX16_readTable h m = some (Sum.inl (some (hS h)), h') ∧ Kz m (hS h) H (taP g n B t) h') := by
  have d26 := Q.1
  have le := F.1
  obtain ⟨X, eX⟩ : ∃ X : MHp, X = nwP h := ⟨_, rfl⟩
  have rp := nwP_rp h
  rw [← eX] at rp
  obtain ⟨v1, v2, v3, v4, v5, v6⟩ := rp
  have AX : Ag 0 (hS h) h X := by rw [eX]; exact nwP_ag
  have SX : hS X = hS h + 4 := by rw [eX]; rfl
  have PX : PR m g n t X := PR.ag (AX.sub (Nat.zero_le _) (by omega)) P
  have KX : Kq m (hS h) H g n (none, none, none, noT) t X := by
    have mI := (AX m (Nat.zero_le _) (by omega)).2.2.1
    exact ⟨F.tr (QF.new AX (by omega) (by omega)), le, PX, by rw [mI]; exact i10, v1, v2, v3, v4, by omega, v5, v6⟩
  have LX := PX.1.1
  have iw4 := q_isWord PX G (show 4 < 9 by omega)
  by_cases a3 : isW t 3 = true
  · have n4 : ¬ isW t 4 = true := isW_ne a3 (by decide +kernel)
    rw [if_neg n4] at iw4
    have eF : wtF g n B t = 0 := by unfold wtF; rw [if_pos a3]
    have eT : wtT g n B t = nxt g n t := by unfold wtT; rw [if_pos a3]
    have eO : wtO g n B t = none := by unfold wtO; rw [if_pos a3]
    rcases q_need hb PX G (show 3 < 9 by omega) with ⟨no, -⟩ | ⟨-, h1, e1, S1, P1⟩
    · exact absurd a3 no
    · have K1 := KX.sn d26 S1 P1
      have e : mX16_readTable h m = mX16_readTable_b46 h1 m (some (hS h)) := by
        rw [mX16_readTable, nwP_e, ← eX, b_rcv, if_pos (qK0 LX), iw4, o_bind, if_pos rfl, b_rcv, if_pos (qK0 LX), e1, o_bind]
      unfold taF taT taP
      rw [eF, eT, eO, if_pos rfl, if_pos rfl, e]
      exact q_b46 hb Q G.nx K1
  · by_cases a4 : isW t 4 = true
    · rw [if_pos a4] at iw4
      have eF : wtF g n B t = kf B (nxt g n t) := by unfold wtF; rw [if_neg a3, if_pos a4]
      have eT : wtT g n B t = if kf B (nxt g n t) = 0 then nxt g n (nxt g n t) else nxt g n t := by unfold wtT; rw [if_neg a3, if_pos a4]
      have eO : wtO g n B t = some (fN B (kL (nxt g n t))) := by unfold wtO; rw [if_neg a3]
      obtain ⟨h1, e1, S1, P1⟩ := PX.st hb (by have := isW_1 a4; omega)
      have K1 := KX.sn d26 S1 P1
      have L1 := P1.1.1
      have G1 : GT g n (nxt g n t) := G.nx
      obtain ⟨r4, RB1⟩ := K1.bk Q
      have kn := q_known P1 G1 RB1.n2 Q.2.2.2
      have kp : hK h1 (hS h) = 15 := K1.2.2.2.2.1.1
      unfold taF taT taP
      rw [eF, eT, eO]
      by_cases k0 : kf B (nxt g n t) = 0
      · rw [if_pos k0] at kn
        rw [if_pos k0, if_pos k0, if_pos k0]
        obtain ⟨Y, eY⟩ : ∃ Y : MHp, Y = sI h1 (hS h) 0 (Int32.ofNat (fN B (kL (nxt g n t)))) := ⟨_, rfl⟩
        obtain ⟨c1, c2, c3, c45, c6, c7, c8, c9, c10, c11, c12⟩ := id K1
        have KY : Kq m (hS h) H g n (some (fN B (kL (nxt g n t))), none, none, noT) (nxt g n t) Y := by
          rw [eY]
          refine K1.I d26 ?_ ?_ ?_
          · rw [e_Iself]; rfl
          · rw [e_sI, if_neg (by omega)]; exact c8
          · rw [e_sI, if_neg (by omega)]; exact c9
        have LY := KY.2.2.1.1.1
        obtain ⟨h2, e2, S2, P2⟩ := KY.2.2.1.st hb (by rw [kf_1 k0]; decide)
        have K2 := KY.sn d26 S2 P2
        have e : mX16_readTable h m = mX16_readTable_b46 h2 m (some (hS h)) := by
          rw [mX16_readTable, nwP_e, ← eX, b_rcv, if_pos (qK0 LX), iw4, o_bind, if_neg n10, b_rcv, if_pos (qK0 LX), e1, o_bind, b_gR, if_pos (qK0 L1), r4, b_rcv, if_pos (qK0 L1), kn, o_bind]
          show ((pI 15 0 h1 (some (hS h)) (Int32.ofNat (fN B (kL (nxt g n t))))).bind fun h69 => _) = _
          rw [b_pI, if_pos kp, ← eY, b_rcv, if_pos (qK0 LY), e2, o_bind]
        rw [e]
        exact q_b46 hb Q G1.nx K2
      · rw [if_neg k0] at kn
        rw [if_neg k0, if_neg k0, if_neg k0]
        refine ⟨fun _ => ?_, fun e => absurd e k0⟩
        have e : mX16_readTable h m = some (Sum.inr (m + 2), sI (sI h1 (m + 2) 6 (kf B (nxt g n t))) (m + 2) 7 (hI h1 m 14)) := by
          rw [mX16_readTable, nwP_e, ← eX, b_rcv, if_pos (qK0 LX), iw4, o_bind, if_neg n10, b_rcv, if_pos (qK0 LX), e1, o_bind, b_gR, if_pos (qK0 L1), r4, b_rcv, if_pos (qK0 L1), kn, o_bind]
        rw [e]
        exact K1.stop (kf B (nxt g n t))
    · rw [if_neg a4] at iw4
      have eF : wtF g n B t = 1 := by unfold wtF; rw [if_neg a3, if_neg a4]
      have eT : wtT g n B t = t := by unfold wtT; rw [if_neg a3, if_neg a4]
      unfold taF taT taP
      rw [eF, eT, if_neg n10, if_neg n10]
      refine ⟨fun _ => ?_, fun e => absurd e n10⟩
      rcases q_need hb PX G (show 3 < 9 by omega) with ⟨-, e1⟩ | ⟨yes, -⟩
      · have e : mX16_readTable h m = some (Sum.inr (m + 2), sI (sI X (m + 2) 6 1) (m + 2) 7 (hI X m 14)) := by
          rw [mX16_readTable, nwP_e, ← eX, b_rcv, if_pos (qK0 LX), iw4, o_bind, if_pos rfl, b_rcv, if_pos (qK0 LX), e1, o_bind]
        rw [e]
        exact KX.stop 1
      · exact absurd yes a3
