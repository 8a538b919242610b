/-! a line that was read is well -/
theorem tsR_ok {g : Nat → Int32} {n : Nat} {B : Bk} (W : NW B) : ∀ (q : Nat) (T : Ts) (t : Tok), tn T + q = 13 → 1 ≤ q → WT (bF B) T → GT g n t → (tsR g n B q T t).1 = 0 → GT g n (tsR g n B q T t).2.1 ∧ WT (bF B) (tsR g n B q T t).2.2 := by
  intro q
  induction q with
  | zero => intro T t _ h1; omega
  | succ q ih =>
    intro T t hq h1 WT0 G
    rw [tsR_s]
    by_cases e0 : oF g n B T t = 0
    · rw [if_pos e0]
      obtain ⟨o1, o2, o3⟩ := oN_ok W WT0 G.nx.nx e0
      have GT2 : GT g n (nxt g n (oT g n B T t)) := by
        unfold oT
        by_cases a1 : kf B t = 0
        · rw [if_pos a1]
          by_cases a2 : tn T < 12
          · rw [if_pos a2]
            by_cases a3 : sg3 (nxt g n t) = true
            · rw [if_pos a3]; exact G.nx.nx.nx
            · rw [if_neg a3]; exact G.nx.nx
          · rw [if_neg a2]; exact G.nx
        · rw [if_neg a1]; exact G.nx
      by_cases w : isW (nxt g n (oT g n B T t)) 2 = true
      · rw [if_pos w]
        exact ih _ _ (by omega) (by omega) o1 GT2.nx
      · rw [if_neg w]
        exact fun _ => ⟨GT2, o1⟩
    · rw [if_neg e0]
      exact fun hh => absurd hh e0
theorem rl_ok {g : Nat → Int32} {n : Nat} {B : Bk} {t : Tok} (W : WBk B) (G : GT g n t) (h : rlF g n B t = 0) : WBk (rlB g n B t) ∧ GT g n (rlT g n B t) := by
  unfold rlF at h
  unfold rlB rlT
  by_cases a0 : isW t 0 = true
  · rw [if_pos a0] at h
    rw [if_pos a0, if_pos a0, if_pos h]
    exact ⟨rfB_ok W G.nx h, G.nx.nx.nx.nx.nx.nx⟩
  · rw [if_neg a0] at h
    rw [if_neg a0, if_neg a0]
    by_cases a1 : isW t 1 = true
    · rw [if_pos a1] at h
      rw [if_pos a1]
      unfold nvF at h
      unfold nvT
      by_cases a2 : bN B < 12
      · rw [if_pos a2] at h
        rw [if_pos a2]
        obtain ⟨g1, g2⟩ := tsR_ok W.nw 13 noT (nxt g n t) rfl (by omega) (noT_W _) G.nx h
        refine ⟨?_, g1⟩
        obtain ⟨⟨w1, w2, w3, w4⟩, w5, w6⟩ := W
        refine ⟨⟨w1, by rw [addN_N]; omega, w3, fun k hk => ?_⟩, w5, by rw [addN_F, addN_sp]; exact w6⟩
        rw [addN_N] at hk
        rw [addN_F, addN_R]
        by_cases q : k = bN B
        · rw [if_pos q]; exact g2
        · rw [if_neg q]; exact w4 k (by omega)
      · rw [if_neg a2] at h; exact absurd h n50
    · rw [if_neg a1] at h; exact absurd h n10
/-- the reference's reading of a book's lines -/
theorem q_book {m b n : Nat} {g : Nat → Int32} (hb : ∀ k : Nat, (g k).toInt8.toInt32 = g k) {B : Bk} {t : Tok} {h : MHp} (e : bF B + bN B = 0) (W : WBk B) (G : GT g n t) (Q : Qb m b g n B t h) : ((bkR g n 19 B t).1 ≠ 0 → RFb m b h (mX16_readBook h m) (bkR g n 19 B t).1 (bkR g n 19 B t).2.1) ∧ ((bkR g n 19 B t).1 = 0 → ∃ h' : MHp, mX16_readBook h m = some (Sum.inl (), h') ∧ FR m b h h' ∧ Qb m b g n (bkR g n 19 B t).2.2 (bkR g n 19 B t).2.1 h') := q_lines hb 19 B t h 20 (by omega) (by omega) (by omega) W G (Or.inr trivial) Q (fun _ _ _ W G h => rl_ok W G h)
