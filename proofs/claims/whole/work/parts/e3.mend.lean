/-! mend -/
/-- a refusal on both sides, with a scratched heap on the class's -/
theorem XS.nos {α : Type} {c m : Nat} {h h2 : MHp} {A : AS} {F : Option (α × MHp)} {G : MHp → Option (α × MHp)} {v : α} (t : Int32) (ht : t ≠ 4) (C : CR c h A) (W : WA A) (S : Sc c h h2) (hF : F = some (v, sI h2 c 15 t)) (hG : ∀ h1 : MHp, RR m h1 A → ∃ h2 : MHp, Rs m h1 h2 ∧ G h1 = some (v, rtb m h2 t)) : XS c m h A F G := by
  refine ⟨v, tb A t, W, ⟨_, hF, (C.sc W S).tb ht, S.oc.tr (Oc.I0 15 t)⟩, fun h1 R => ?_⟩
  obtain ⟨h2, S, e⟩ := hG h1 R
  exact ⟨_, e, (R.sc S).tb ht, S.om.tr Om.tb⟩
theorem x_mend {c m : Nat} {h : MHp} {A : AS} (C : CR c h A) (W : WA A) (a : Int32) : XS c m h A (mX11_mend h c a) (fun h1 => mX16_mend h1 m a) := by
  have L := C.l
  have t1 := C.2.1.2.2.2.2.2.1
  have h60 := W.2.2.2.1
  rcases rng a (aN A 2) with ⟨r, hr, rfl⟩ | hno
  · have e1 := p_has1 L t1 h60 hr
    obtain ⟨h2, e2, S2⟩ := p_canMend C W hr
    have L2 := S2.CL L
    have cls : mX11_mend h c (Int32.ofNat r) = if bB (aB A) (nvX A r) < bN (aB A) ∧ aA A 2 r = -2 ∧ aA A 3 r = -2 then mX11_mend_b32 h2 c (Int32.ofNat r) (some c) 0 else mX11_mend_b32 h2 c (Int32.ofNat r) (some c) 5 := by
      rw [mX11_mend, b_gR, if_pos (lK0 L), lR0_2 L, b_rcv, if_pos (lK56 L), e1, o_bind, if_neg n10, b_gR, if_pos (lK0 L), lR0_2 L, b_rcv, if_pos (lK56 L), e2, o_bind]
      by_cases g : bB (aB A) (nvX A r) < bN (aB A) ∧ aA A 2 r = -2 ∧ aA A 3 r = -2
      · rw [if_pos g, if_pos g, if_neg n10]
      · rw [if_neg g, if_neg g, if_pos rfl]
    by_cases g : bB (aB A) (nvX A r) < bN (aB A) ∧ aA A 2 r = -2 ∧ aA A 3 r = -2
    · rw [if_pos g] at cls
      have L3 : CL c (sI h2 c 15 0) := L2
      have C3 : CR c (sI h2 c 15 0) (tb A 0) := (C.sc W S2).tb (by decide)
      have i0 : hI (sI h2 c 15 0) c 15 = 0 := e_Iself _ _ _ _
      rw [mX11_mend_b32, b_pI, if_pos (lK0 L2), b_gI, if_pos (lK0 L3), i0, if_pos rfl, b_gR, if_pos (lK0 L3), lR0_6 L3, b_rcv, if_pos (lK185 L3)] at cls
      have O2 : Oc c h (sI h2 c 15 0) := S2.oc.tr (Oc.I0 15 0)
      rcases p_mendRow C3 W.tb hr g.1 g.2.2 with ⟨h4, e4, S4, nm⟩ | ⟨M, v, h4, e4, K, C4, O4⟩
      · have L4 := S4.CL L3
        rw [e4, o_bind, if_pos rfl, b_pI, if_pos (lK0 L4)] at cls
        have C5 := (C3.sc W.tb S4).tb (t := 6) (by decide)
        rw [tb_tb] at C5
        refine ⟨-1, tb A 6, W, ⟨_, cls, C5, (O2.tr S4.oc).tr (Oc.I0 15 6)⟩, fun h1 R => ?_⟩
        obtain ⟨X, b, SX, RX, QX, ox, eX⟩ := q_mend R W hr
        rw [if_pos g] at eX
        have sp := W.2.2.2.2.2.2.2.2.2.2.2.2.2.2.2.2.2.2.2.2.2
        obtain ⟨h5, R5, r5⟩ := q_sets (v1 := Int32.ofNat r) sp QX
        rcases r5 with ⟨M, e5, mn⟩ | ⟨e5, nn⟩
        · exact absurd (mn.2.2.1.x W.1 ox) (nm M mn.1 mn.2.1)
        · refine ⟨rtb m h5 6, ?_, (RX.sc R5.1).tb (by decide), (SX.om.tr R5.1.om).tr Om.tb⟩
          show mX16_mend h1 m (Int32.ofNat r) = _
          rw [eX, e5, q_refused (R5.1.QL RX.1.1) 6, o_bind]
      · have zM : ¬ Int32.ofNat M = 0 := by
          have p6 := p2_64 W.1.1
          have h1 := K.1.1
          have h2 : M < 2 ^ bF (aB A) := K.1.2.1
          rw [show (0 : Int32) = Int32.ofNat 0 from rfl, eq_of (by omega) (by omega)]
          omega
        rw [e4, o_bind, if_neg zM] at cls
        refine ⟨Int32.ofNat M, mdN (tb A 0) r M v, WA.mdN W.tb hr g.1 g.2.2 K, ⟨h4, cls, C4, O2.tr O4⟩, fun h1 R => ?_⟩
        obtain ⟨X, b, SX, RX, QX, ox, eX⟩ := q_mend R W hr
        rw [if_pos g] at eX
        obtain ⟨h5, e5, R5, O5⟩ := q_mended W RX QX hr ox (show MdOK A r M v from K)
        refine ⟨h5, ?_, R5, SX.om.tr O5⟩
        show mX16_mend h1 m (Int32.ofNat r) = _
        rw [eX, e5]
    · rw [if_neg g, mnd_b L2 _ 5 (by decide)] at cls
      refine XS.nos 5 (by decide) C W S2 cls (fun h1 R => ?_)
      obtain ⟨X, b, SX, RX, QX, ox, eX⟩ := q_mend R W hr
      rw [if_neg g] at eX
      exact ⟨X, SX, eX⟩
  · have e1 := p_has0 L t1 h60 hno
    refine XS.nos (v := -1) 1 (by decide) C W Sc.rf ?_ (fun h1 R => ⟨sI h1 m 0 0, Rs.I 0 0 (by decide), ?_⟩)
    · rw [mX11_mend, b_gR, if_pos (lK0 L), lR0_2 L, b_rcv, if_pos (lK56 L), e1, o_bind, if_pos rfl, mnd_b L _ 1 n10]
    · have R2 := R.th 0
      have f1 := q_isRow0 R2.1.1 R2.2.1.2.2.1 h60 hno
      show mX16_mend h1 m a = _
      rw [mX16_mend, b_pI, if_pos (qK0 R.1.1), b_rcv, if_pos (qK0 R2.1.1), f1, o_bind, if_pos rfl, b_rcv, if_pos (qK0 R2.1.1), q_refused R2.1.1 1, o_bind]
