/-! ===== a line of a street keeps what must hold ===== -/
section RO
variable {tp : List Nat} {n i : Nat} {S : sS} {nm : sNm}
theorem upF_lt {f : Nat → Nat} {k v m b : Nat} (h : ∀ j, j < m → f j < b) (hv : v < b) : ∀ j, j < m + 1 → k = m → upF f k v j < b := by
  intro j hj e
  unfold upF
  by_cases q : j = k
  · rw [if_pos q]; exact hv
  · rw [if_neg q]; exact h j (by omega)
theorem pOK_P {kd kp v : Nat} {s : Nat → Bool} (h : pOK S nm) (h6 : sPA S < 6) (hkd : kd < 4) (hkp : 1 ≤ kp ∧ kp ≤ 6) (hv : v < 27 ^ 8) (ht : ¬ nmT nm v = true) : pOK (addP S kd kp s) (nmP nm (sPA S) v) := by
  obtain ⟨⟨a1, a2, a3, a4, a5, a6, a7, a8, a9, a10⟩, b, c, d⟩ := h
  refine ⟨⟨h6, a2, a3, a4, fun p hp => upF_lt a5 hkd p hp rfl, fun p hp => ?_, a7, a8, a9, a10⟩, b, nmOK_P c hv ht (by omega), ?_⟩
  · show 1 ≤ upF (sKP S) (sPA S) kp p ∧ upF (sKP S) (sPA S) kp p ≤ 6
    have hp : p < sPA S + 1 := hp
    unfold upF
    by_cases q : p = sPA S
    · rw [if_pos q]; exact hkp
    · rw [if_neg q]; exact a6 p (by omega)
  · show (nm.2.2.2 ++ [(v, sPA S)]).length = sPA S + 1 + sPE S + sDE S
    simp only [List.length_append, List.length_singleton]; omega
theorem pOK_E {w v : Nat} (h : pOK S nm) (h5 : sPE S < 5) (hw : w < 10) (hv : v < 27 ^ 8) (ht : ¬ nmT nm v = true) : pOK (addE S w) (nmE nm (sPE S) v) := by
  obtain ⟨⟨a1, a2, a3, a4, a5, a6, a7, a8, a9, a10⟩, b, c, d⟩ := h
  refine ⟨⟨a1, h5, a3, a4, a5, a6, fun p hp => upF_lt a7 hw p hp rfl, a8, a9, a10⟩, b, nmOK_E c hv ht (by omega), ?_⟩
  show (nm.2.2.2 ++ [(v, 20 + sPE S)]).length = sPA S + (sPE S + 1) + sDE S
  simp only [List.length_append, List.length_singleton]; omega
theorem pOK_D {w v : Nat} (h : pOK S nm) (h5 : sDE S < 5) (hw : w < 100) (hv : v < 27 ^ 8) (ht : ¬ nmT nm v = true) : pOK (addD S w) (nmD nm (sDE S) v) := by
  obtain ⟨⟨a1, a2, a3, a4, a5, a6, a7, a8, a9, a10⟩, b, c, d⟩ := h
  refine ⟨⟨a1, a2, h5, a4, a5, a6, a7, fun p hp => upF_lt a8 hw p hp rfl, a9, a10⟩, b, nmOK_D c hv ht (by omega), ?_⟩
  show (nm.2.2.2 ++ [(v, 40 + sDE S)]).length = sPA S + sPE S + (sDE S + 1)
  simp only [List.length_append, List.length_singleton]; omega
theorem pOK_L {m : Nat} {L : Nat → Nat} (h : pOK S nm) (hm : m ≤ 12) (hL : ∀ j, j < m → L j < 2) : pOK (addL S m L) nm := by
  obtain ⟨⟨a1, a2, a3, a4, a5, a6, a7, a8, a9, a10⟩, b, c, d⟩ := h
  exact ⟨⟨a1, a2, a3, hm, a5, a6, a7, a8, hL, a10⟩, b, c, d⟩
theorem pOK_W {c : List Int32} (h : pOK S nm) (hc : lwK c 0) (hl : c.length ≤ 1000) : pOK (addW S c) nm := by
  obtain ⟨⟨a1, a2, a3, a4, a5, a6, a7, a8, a9, a10⟩, b, c', d⟩ := h
  exact ⟨⟨a1, a2, a3, a4, a5, a6, a7, a8, a9, hl⟩, Or.inr hc, c', d⟩
theorem eE_ok (hn : tK tp n) (hi : i + 1 ≤ n) (h0 : (eE tp (ePt tp 5) (i + 1) []).1 = 0) : i + 1 < (eE tp (ePt tp 5) (i + 1) []).2.1 ∧ (eE tp (ePt tp 5) (i + 1) []).2.1 ≤ n ∧ lwK (eE tp (ePt tp 5) (i + 1) []).2.2 0 ∧ (eE tp (ePt tp 5) (i + 1) []).2.2.length + i + 1 ≤ (eE tp (ePt tp 5) (i + 1) []).2.1 := by
  obtain ⟨a1, a2, a3, a4⟩ := eQ_all hn (i + 1) [] hi
  obtain ⟨b1, es, b2, b3, b4⟩ := a4 h0
  rw [List.nil_append] at b2
  refine ⟨b1, a2, ?_, by rw [b2]; omega⟩
  rw [b2]
  have := b4 [] 0 (by decide) (by simp [lwK])
  rw [List.append_nil] at this
  exact this
def spQ (n i : Nat) (r : pS) : Prop := i ≤ r.2.1 ∧ r.2.1 ≤ n ∧ (r.1 = 0 → i < r.2.1 ∧ pOK r.2.2.1 r.2.2.2)
theorem spQ_f {k j : Nat} {S' : sS} {nm' : sNm} (h1 : i ≤ j) (h2 : j ≤ n) : spQ n i (k + 1, j, S', nm') := ⟨h1, h2, fun q => absurd q (Nat.succ_ne_zero _)⟩
theorem spLn_ok (hn : tK tp n) (hi : i ≤ n) (hk0 : kkd tp i ≠ 0) (hp : pOK S nm) : spQ n i (spLn tp i S nm) := by
  have hlt := hn.nx hi hk0
  have k1 := hp.1.1
  have k2 := hp.1.2.1
  have k3 := hp.1.2.2.1
  unfold spLn
  by_cases c0 : krs tp i = 0
  · rw [if_pos c0]
    unfold spPane
    by_cases d1 : sPA S = 6
    · rw [if_pos d1]; exact spQ_f (Nat.le_refl _) hi
    rw [if_neg d1]
    by_cases d2 : knm tp (i + 1) = false
    · rw [if_pos d2]; exact spQ_f (by omega) hlt
    rw [if_neg d2]
    have e1 : kkd tp (i + 1) = 2 := knm_k d2
    have l1 := hn.nx (i := i + 1) hlt (by omega)
    by_cases d3 : nmT nm (kvl tp (i + 1)) = true
    · rw [if_pos d3]; exact spQ_f (by omega) hlt
    rw [if_neg d3]
    by_cases d4 : ¬ (15 ≤ krs tp (i + 2) ∧ krs tp (i + 2) ≤ 18)
    · rw [if_pos d4]; exact spQ_f (by omega) l1
    rw [if_neg d4]
    have e2 : kkd tp (i + 2) = 2 := krs_k rfl (by omega)
    have l2 := hn.nx (i := i + 2) l1 (by omega)
    by_cases d5 : krs tp (i + 3) ≠ 11
    · rw [if_pos d5]; exact spQ_f (by omega) l2
    rw [if_neg d5]
    have e3 : kkd tp (i + 3) = 2 := krs_k rfl (by omega)
    have l3 := hn.nx (i := i + 3) l2 (by omega)
    by_cases d6 : kkd tp (i + 4) ≠ 3
    · rw [if_pos d6]; exact spQ_f (by omega) l3
    rw [if_neg d6]
    have l4 := hn.nx (i := i + 4) l3 (by omega)
    by_cases d7 : ¬ (1 ≤ kvl tp (i + 4) ∧ kvl tp (i + 4) ≤ 6)
    · rw [if_pos d7]; exact spQ_f (by omega) l3
    rw [if_neg d7]
    by_cases d8 : krs tp (i + 5) ≠ 12
    · rw [if_pos d8]; exact spQ_f (by omega) l4
    rw [if_neg d8]
    have e5 : kkd tp (i + 5) = 2 := krs_k rfl (by omega)
    have l5 := hn.nx (i := i + 5) l4 (by omega)
    by_cases d9 : kkd tp (i + 6) ≠ 3
    · rw [if_pos d9]; exact spQ_f (by omega) l5
    rw [if_neg d9]
    obtain ⟨v1, v2⟩ := vLp_ok hn 11 (i + 6) (fun _ => false) l5
    by_cases d10 : (vLp tp 11 (i + 6) (fun _ => false)).1 = 0
    · rw [if_pos d10]
      refine ⟨by dsimp only; omega, v2, fun _ => ⟨by dsimp only; omega, pOK_P hp (by omega) (by omega) (by omega) (kvl_w e1) d3⟩⟩
    · rw [if_neg d10]
      exact ⟨by dsimp only; omega, v2, fun q => absurd q d10⟩
  rw [if_neg c0]
  by_cases c1 : krs tp i = 1
  · rw [if_pos c1]
    unfold spPerson
    by_cases d1 : sPE S = 5
    · rw [if_pos d1]; exact spQ_f (Nat.le_refl _) hi
    rw [if_neg d1]
    by_cases d2 : knm tp (i + 1) = false
    · rw [if_pos d2]; exact spQ_f (by omega) hlt
    rw [if_neg d2]
    have e1 : kkd tp (i + 1) = 2 := knm_k d2
    have l1 := hn.nx (i := i + 1) hlt (by omega)
    by_cases d3 : nmT nm (kvl tp (i + 1)) = true
    · rw [if_pos d3]; exact spQ_f (by omega) hlt
    rw [if_neg d3]
    by_cases d5 : krs tp (i + 2) ≠ 13
    · rw [if_pos d5]; exact spQ_f (by omega) l1
    rw [if_neg d5]
    have e3 : kkd tp (i + 2) = 2 := krs_k rfl (by omega)
    have l3 := hn.nx (i := i + 2) l1 (by omega)
    by_cases d6 : kkd tp (i + 3) ≠ 3
    · rw [if_pos d6]; exact spQ_f (by omega) l3
    rw [if_neg d6]
    have l4 := hn.nx (i := i + 3) l3 (by omega)
    by_cases d7 : ¬ kvl tp (i + 3) ≤ 9
    · rw [if_pos d7]; exact spQ_f (by omega) l3
    rw [if_neg d7]
    exact ⟨by dsimp only; omega, l4, fun _ => ⟨by dsimp only; omega, pOK_E hp (by omega) (by omega) (kvl_w e1) d3⟩⟩
  rw [if_neg c1]
  by_cases c2 : krs tp i = 2
  · rw [if_pos c2]
    unfold spDeed
    by_cases d1 : sDE S = 5
    · rw [if_pos d1]; exact spQ_f (Nat.le_refl _) hi
    rw [if_neg d1]
    by_cases d2 : knm tp (i + 1) = false
    · rw [if_pos d2]; exact spQ_f (by omega) hlt
    rw [if_neg d2]
    have e1 : kkd tp (i + 1) = 2 := knm_k d2
    have l1 := hn.nx (i := i + 1) hlt (by omega)
    by_cases d3 : nmT nm (kvl tp (i + 1)) = true
    · rw [if_pos d3]; exact spQ_f (by omega) hlt
    rw [if_neg d3]
    by_cases d5 : krs tp (i + 2) ≠ 14
    · rw [if_pos d5]; exact spQ_f (by omega) l1
    rw [if_neg d5]
    have e3 : kkd tp (i + 2) = 2 := krs_k rfl (by omega)
    have l3 := hn.nx (i := i + 2) l1 (by omega)
    by_cases d6 : kkd tp (i + 3) ≠ 3
    · rw [if_pos d6]; exact spQ_f (by omega) l3
    rw [if_neg d6]
    have l4 := hn.nx (i := i + 3) l3 (by omega)
    by_cases d7 : ¬ kvl tp (i + 3) ≤ 99
    · rw [if_pos d7]; exact spQ_f (by omega) l3
    rw [if_neg d7]
    exact ⟨by dsimp only; omega, l4, fun _ => ⟨by dsimp only; omega, pOK_D hp (by omega) (by omega) (kvl_w e1) d3⟩⟩
  rw [if_neg c2]
  by_cases c3 : krs tp i = 3
  · rw [if_pos c3]
    unfold spLight
    by_cases d1 : ¬ sLC S = 0
    · rw [if_pos d1]; exact spQ_f (Nat.le_refl _) hi
    rw [if_neg d1]
    by_cases d2 : kkd tp (i + 1) ≠ 3
    · rw [if_pos d2]; exact spQ_f (by omega) hlt
    rw [if_neg d2]
    obtain ⟨g1, g2, g3, g4, g5⟩ := gLp_ok hn 13 (i + 1) 0 (fun _ => 0) hlt (by decide) (fun j hj => absurd hj (Nat.not_lt_zero _))
    by_cases d3 : (gLp tp 13 (i + 1) 0 (fun _ => 0)).1 = 0
    · rw [if_pos d3]
      exact ⟨by dsimp only; omega, g2, fun _ => ⟨by dsimp only; omega, pOK_L hp g4 g5⟩⟩
    · rw [if_neg d3]
      exact ⟨by dsimp only; omega, g2, fun q => absurd q d3⟩
  rw [if_neg c3]
  by_cases c4 : krs tp i = 4
  · rw [if_pos c4]
    unfold spFades
    by_cases d1 : ¬ sLW S = []
    · rw [if_pos d1]; exact spQ_f (Nat.le_refl _) hi
    rw [if_neg d1]
    obtain ⟨a1, a2, a3, a4⟩ := eQ_all hn (i + 1) [] hlt
    by_cases d3 : (eE tp (ePt tp 5) (i + 1) []).1 = 0
    · rw [if_pos d3]
      obtain ⟨e1, e2, e3, e4⟩ := eE_ok hn hlt d3
      exact ⟨by dsimp only; omega, a2, fun _ => ⟨by dsimp only; omega, pOK_W hp e3 (by have := hn.2.1; omega)⟩⟩
    · rw [if_neg d3]
      exact ⟨by dsimp only; omega, a2, fun q => absurd q d3⟩
  rw [if_neg c4]
  exact spQ_f (Nat.le_refl _) hi
theorem spLp_ok (hn : tK tp n) : ∀ f i S nm, i ≤ n → pOK S nm → (spLp tp f i S nm).1 = 0 → pOK (spLp tp f i S nm).2.2.1 (spLp tp f i S nm).2.2.2 := by
  intro f
  induction f with
  | zero => intro i S nm hi hp _; exact hp
  | succ f ih =>
    intro i S nm hi hp
    simp only [spLp]
    by_cases c1 : kkd tp i = 0
    · rw [if_pos c1]; exact fun _ => hp
    rw [if_neg c1]
    obtain ⟨a1, a2, a3⟩ := spLn_ok hn hi c1 hp
    by_cases c2 : (spLn tp i S nm).1 = 0
    · rw [if_pos c2]
      by_cases c3 : sgn tp (spLn tp i S nm).2.1 59 = true
      · rw [if_pos c3]
        exact ih _ _ _ (hn.nx a2 (by have := sgn_k c3; omega)) (a3 c2).2
      · rw [if_neg c3]; exact fun q => absurd q (Nat.succ_ne_zero _)
    · rw [if_neg c2]; exact fun q => absurd q c2
end RO
