/-! reading a test, from its start -/
theorem noT_n : tn noT = 0 := (rfl)
theorem noT_W (nf : Nat) : WT nf noT := ⟨Nat.zero_le _, fun j hj => absurd hj (Nat.not_lt_zero _)⟩
def tstR (g : Nat → Int32) (n : Nat) (B : Bk) (t : Tok) : Int32 × Tok × Ts := tsR g n B 13 noT t
theorem p_readTest {c bo u n : Nat} {g : Nat → Int32} {B : Bk} {t : Tok} {h : MHp} (D : Du c bo u) (W : NW B) (G : GT g n t) (K : Kt c bo u g n B noT t h) : ((tstR g n B t).1 ≠ 0 ∧ CFl c u h (mX8_readTest h (c + 55) (some u)) (tstR g n B t).1 (tstR g n B t).2.1) ∨ (tstR g n B t).1 = 0 ∧ GT g n (tstR g n B t).2.1 ∧ WT (bF B) (tstR g n B t).2.2 ∧ ∃ h' : MHp, mX8_readTest h (c + 55) (some u) = some (1, h') ∧ FT c u h h' ∧ hI h' (c + 55) 1 = hI h (c + 55) 1 ∧ Kt c bo u g n B (tstR g n B t).2.2 (tstR g n B t).2.1 h' := p_tests D W 13 noT t h FUEL rfl (by omega) (by unfold FUEL; omega) (noT_W _) G K
/-- the heap with a new test of the reference -/
def nwT (h : MHp) : MHp := sR (nA (sR (nA (sR (nA (sR (nA (nO h 16 5) 20 12) (hS h) 1 (some (hS h + 1))) 20 12) (hS h) 2 (some (hS h + 1 + 1))) 20 12) (hS h) 3 (some (hS h + 1 + 1 + 1))) 23 12) (hS h) 4 (some (hS h + 1 + 1 + 1 + 1))
theorem nwT_S (h : MHp) : hS (nwT h) = hS h + 5 := (rfl)
theorem nwT_e {β : Type} (h : MHp) (f : MHp → Option β) : ((some (nO h 16 5)).bind fun h66 => (mX15_init h66 (hS h)).bind f) = f (nwT h) := by
  have k0 : hK (nO h 16 5) (hS h) = 16 := by rw [e_K_nO, if_pos rfl]
  have k1 : hK (nA (nO h 16 5) 20 12) (hS h) = 16 := by rw [e_K_nA, e_S_nO, if_neg (by omega)]; exact k0
  have k2 : hK (nA (sR (nA (nO h 16 5) 20 12) (hS h) 1 (some (hS h + 1))) 20 12) (hS h) = 16 := by rw [e_K_nA, e_S_sR, e_S_nA, e_S_nO, if_neg (by omega), e_K_sR]; exact k1
  have k3 : hK (nA (sR (nA (sR (nA (nO h 16 5) 20 12) (hS h) 1 (some (hS h + 1))) 20 12) (hS h) 2 (some (hS h + 1 + 1))) 20 12) (hS h) = 16 := by rw [e_K_nA, e_S_sR, e_S_nA, e_S_sR, e_S_nA, e_S_nO, if_neg (by omega), e_K_sR]; exact k2
  have k4 : hK (nA (sR (nA (sR (nA (sR (nA (nO h 16 5) 20 12) (hS h) 1 (some (hS h + 1))) 20 12) (hS h) 2 (some (hS h + 1 + 1))) 20 12) (hS h) 3 (some (hS h + 1 + 1 + 1))) 23 12) (hS h) = 16 := by rw [e_K_nA, e_S_sR, e_S_nA, e_S_sR, e_S_nA, e_S_sR, e_S_nA, e_S_nO, if_neg (by omega), e_K_sR]; exact k3
  rw [o_bind, mX15_init, o_bind, b_pR, if_pos k1, e_S_nO, o_bind, b_pR, if_pos k2, e_S_sR, e_S_nA, e_S_nO, o_bind, b_pR, if_pos k3, e_S_sR, e_S_nA, e_S_sR, e_S_nA, e_S_nO, o_bind, b_pR, if_pos k4, e_S_sR, e_S_nA, e_S_sR, e_S_nA, e_S_sR, e_S_nA, e_S_nO, o_bind]
  rfl
theorem nwT_ag {h : MHp} : Ag 0 (hS h) h (nwT h) := by
  unfold nwT
  exact (((((((Ag.O 16 5 (Nat.le_refl _)).tr (Ag.A 20 12 (by rw [e_S_nO]; omega))).tr (Ag.R _ 1 _ (by omega))).tr (Ag.A 20 12 (by rw [e_S_sR, e_S_nA, e_S_nO]; omega))).tr (Ag.R _ 2 _ (by omega))).tr (Ag.A 20 12 (by rw [e_S_sR, e_S_nA, e_S_sR, e_S_nA, e_S_nO]; omega))).tr (Ag.R _ 3 _ (by omega))).tr (Ag.A 23 12 (by rw [e_S_sR, e_S_nA, e_S_sR, e_S_nA, e_S_sR, e_S_nA, e_S_nO]; omega)) |>.tr (Ag.R _ 4 _ (by omega))
theorem nwT_rt (h : MHp) : RT (nwT h) (hS h) noT ∧ ∀ j : Nat, hAI (nwT h) (hS h + 4) j = 0 := by
  refine ⟨⟨?_, ?_, fun j hj => absurd hj (Nat.not_lt_zero _)⟩, fun j => ?_⟩
  · unfold nwT RIT
    refine ⟨?_, ?_, ?_, ?_, ?_, ?_, ?_, ?_, ?_, ?_, ?_, ?_, ?_⟩ <;> simp [e_K_sR, e_N_sR, e_K_nA, e_N_nA, e_R_nA, e_K_nO, e_N_nO, e_R_nO, e_sR, e_S_sR, e_S_nA, e_S_nO] <;> rw [if_neg (by omega), if_neg (by omega), if_neg (by omega)]
  · unfold nwT
    simp [e_I_sR, e_I_nA, e_I_nO, noT_n]
  · unfold nwT
    simp [e_AI_sR, e_AI_nA, e_S_sR, e_S_nA, e_S_nO]
theorem FQ.nwT {m : Nat} {h : MHp} (hm : m < hS h) : FQ m (hS h) h (nwT h) := by
  refine ⟨by rw [nwT_S]; omega, fun a ha => ?_, fun j _ => ?_⟩
  · obtain ⟨a1, a2, a3, a4, a5, a6, a7, a8⟩ := nwT_ag (h := h) a (Nat.zero_le _) ha
    exact ⟨a1, a2, a5, a8, fun _ => ⟨a6, a7, fun _ _ => ⟨a3, a4⟩⟩⟩
  · rw [(nwT_ag (h := h) m (Nat.zero_le _) hm).2.2.1]
theorem QL.ag {m : Nat} {h h' : MHp} (A : Ag m (m + 26) h h') (L : QL m h) : QL m h' := by
  obtain ⟨l1, l2⟩ := L
  have b2 : ∀ x : Nat × Nat × Nat, x ∈ rlR → x.1 < 26 := by decide +kernel
  refine ⟨fun k hk => ?_, fun x hx => ?_⟩
  · obtain ⟨a1, a2, -⟩ := A (m + k) (by omega) (by omega)
    rw [a1, a2]; exact l1 k hk
  · have := b2 x hx
    obtain ⟨-, -, -, -, a5, -⟩ := A (m + x.1) (by omega) (by omega)
    rw [a5]; exact l2 x hx
theorem PR.ag {m n : Nat} {g : Nat → Int32} {t : Tok} {h h' : MHp} (A : Ag m (m + 26) h h') (P : PR m g n t h) : PR m g n t h' := by
  obtain ⟨⟨p1, p2, p3, p4⟩, p5⟩ := P
  obtain ⟨a1, a2, a3, a4, a5, a6, a7, a8⟩ := A m (by omega) (by omega)
  refine ⟨⟨QL.ag A p1, by rw [(A (m + 3) (by omega) (by omega)).2.2.2.2.2.1]; exact p2, by rw [a3]; exact p3, p4⟩, ?_⟩
  rw [a3, a4]
  exact p5
theorem q_readTest {m b n : Nat} {g : Nat → Int32} {B : Bk} {t : Tok} {h : MHp} (hb : ∀ k : Nat, (g k).toInt8.toInt32 = g k) (d : m + 26 ≤ b) (d2 : b + 5 ≤ hS h) (W : NW B) (G : GT g n t) (P : PR m g n t h) (N : NR2 b B h) : ((tstR g n B t).1 ≠ 0 → RFl m (hS h) h (mX16_readTest h m (some b)) (tstR g n B t).1 (tstR g n B t).2.1) ∧ ((tstR g n B t).1 = 0 → ∃ h' : MHp, mX16_readTest h m (some b) = some (Sum.inl (some (hS h)), h') ∧ FQ m (hS h) h h' ∧ Qt m b (hS h) g n B (tstR g n B t).2.2 (tstR g n B t).2.1 h') := by
  have F : FQ m (hS h) h (nwT h) := FQ.nwT (by omega)
  have PX : PR m g n t (nwT h) := PR.ag (nwT_ag.sub (Nat.zero_le _) (by omega)) P
  have NX : NR2 b B (nwT h) := N.fq F d d2 (Nat.le_refl _)
  have Q : Qt m b (hS h) g n B noT t (nwT h) := ⟨PX, NX, (nwT_rt h).1, by rw [nwT_S]; omega, fun j _ => (nwT_rt h).2 j⟩
  have e : mX16_readTest h m (some b) = mX16_readTest_l10 FUEL (nwT h) m (some b) (some (hS h)) 1 := by
    rw [mX16_readTest, nwT_e h (fun r67 => mX16_readTest_l10 FUEL r67 m (some b) (some (hS h)) 1)]
  obtain ⟨a1, a2⟩ := q_tests hb d d2 W 13 noT t (nwT h) FUEL rfl (by omega) (by unfold FUEL; omega) (noT_W _) G Q
  rw [e]
  refine ⟨fun hh => (a1 hh).tr F, fun hh => ?_⟩
  obtain ⟨h2, e2, F2, Q2⟩ := a2 hh
  exact ⟨h2, e2, F.tr F2, Q2⟩
