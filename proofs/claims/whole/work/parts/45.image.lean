/-! images -/
theorem MI_rg {S S1 : mS} {k : KS} {a b : Nat} (v : VK k) (h : ∀ j, b ≤ j → j < b + 162 → S1.2.1 a j = S.2.1 a j) (m : MI S a b k) : MI S1 a b k := by
  have hw := v.1.1
  have hf := v.1.2.1
  have n5 := v.2.2.2.1.1
  have n6 := v.2.2.2.2.1.1
  have n7 := v.2.2.2.2.2.1.1
  have n8 := v.2.2.2.2.2.2.1
  obtain ⟨m1, ⟨r1, r2, r3, r4, r5⟩, m3, m4, m5, m6⟩ := m
  refine ⟨by rw [h _ (by omega) (by omega)]; exact m1, ⟨by rw [h _ (by omega) (by omega)]; exact r1, by rw [h _ (by omega) (by omega)]; exact r2, by rw [h _ (by omega) (by omega)]; exact r3, fun i hi => ⟨by rw [h _ (by omega) (by omega)]; exact (r4 i hi).1, by rw [h _ (by omega) (by omega)]; exact (r4 i hi).2⟩, fun i hi => ⟨by rw [h _ (by omega) (by omega)]; exact (r5 i hi).1, by rw [h _ (by omega) (by omega)]; exact (r5 i hi).2⟩⟩, ⟨by rw [h _ (by omega) (by omega)]; exact m3.1, fun r hr c hc => by rw [h _ (by omega) (by omega)]; exact m3.2 r hr c hc⟩, ⟨by rw [h _ (by omega) (by omega)]; exact m4.1, fun r hr c hc => by rw [h _ (by omega) (by omega)]; exact m4.2 r hr c hc⟩, ⟨by rw [h _ (by omega) (by omega)]; exact m5.1, fun r hr c hc => by rw [h _ (by omega) (by omega)]; exact m5.2 r hr c hc⟩, ⟨by rw [h _ (by omega) (by omega)]; exact m6.1, fun r hr => ⟨by rw [h _ (by omega) (by omega)]; exact (m6.2 r hr).1, fun i hi => by rw [h _ (by omega) (by omega)]; exact (m6.2 r hr).2.1 i hi, fun i hi => by rw [h _ (by omega) (by omega)]; exact (m6.2 r hr).2.2 i hi⟩⟩⟩
theorem IM_rg {S S1 : mS} {i : Nat} (hi : i < 2) (hs : ∀ q, 30 + 14 * i ≤ q → q < 30 + 14 * i + 14 → S1.2.1 q = S.2.1 q) (h58 : S1.2.1 58 i = S.2.1 58 i) (h99 : S1.2.1 99 i = S.2.1 99 i) (h98 : ∀ j, 170 * i ≤ j → j < 170 * i + 162 → S1.2.1 98 j = S.2.1 98 j) (h : IM S i) : IM S1 i := by
  unfold IM
  rw [h58, h99]
  rcases h with h | ⟨h1, h2, k, h3, h4, h5⟩
  · exact Or.inl h
  · exact Or.inr ⟨h1, h2, k, h3, CK_sa (fun q a b => hs q a b) h4, MI_rg h3 h98 h5⟩
theorem bo1 : vp_nar .boolean 1 = nI 1 := by decide +kernel
