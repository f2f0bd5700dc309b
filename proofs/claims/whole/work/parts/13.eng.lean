/-! THE READS, all at once: what the constant fields hold, the objects' and the arrays' places (written by wip/whole/gen/eng.py) -/
theorem gc_0 {S : mS} (h : Ly S) {ρ : Type} : (∀ K : Int32 → Option ρ, mGr 6 0 (nI 0) S K = K (nI 1)) ∧ (∀ K : Int32 → Option ρ, mGr 6 1 (nI 0) S K = K (nI 15)) ∧ (∀ K : Int32 → Option ρ, mGr 6 2 (nI 0) S K = K (nI 29)) ∧ (∀ K : Int32 → Option ρ, mGr 6 3 (nI 0) S K = K (nI 58)) ∧ (∀ K : Int32 → Option ρ, mGr 6 4 (nI 0) S K = K (nI 59)) ∧ (∀ K : Int32 → Option ρ, mGr 6 5 (nI 0) S K = K (nI 61)) ∧ (∀ K : Int32 → Option ρ, mGr 6 6 (nI 0) S K = K (nI 65)) ∧ (∀ K : Int32 → Option ρ, mGr 6 7 (nI 0) S K = K (nI 70)) ∧ (∀ K : Int32 → Option ρ, mGr 6 8 (nI 0) S K = K (nI 75)) ∧ (∀ K : Int32 → Option ρ, mGr 6 9 (nI 0) S K = K (nI 80)) ∧ (∀ K : Int32 → Option ρ, mGr 6 10 (nI 0) S K = K (nI 81)) ∧ (∀ K : Int32 → Option ρ, mGr 6 11 (nI 0) S K = K (nI 82)) ∧ (∀ K : Int32 → Option ρ, mGr 5 0 (nI 1) S K = K (nI 2)) ∧ (∀ K : Int32 → Option ρ, mGr 5 1 (nI 1) S K = K (nI 7)) ∧ (∀ K : Int32 → Option ρ, mGr 5 2 (nI 1) S K = K (nI 9)) ∧ (∀ K : Int32 → Option ρ, mGr 5 3 (nI 1) S K = K (nI 11)) ∧ (∀ K : Int32 → Option ρ, mGr 5 4 (nI 1) S K = K (nI 13)) ∧ (∀ K : Int32 → Option ρ, mGr 1 0 (nI 2) S K = K (nI 3)) ∧ (∀ K : Int32 → Option ρ, mGr 1 1 (nI 2) S K = K (nI 4)) ∧ (∀ K : Int32 → Option ρ, mGr 1 2 (nI 2) S K = K (nI 5)) ∧ (∀ K : Int32 → Option ρ, mGr 1 3 (nI 2) S K = K (nI 6)) ∧ (∀ K : Int32 → Option ρ, mGr 3 2 (nI 7) S K = K (nI 8)) ∧ (∀ K : Int32 → Option ρ, mGr 3 2 (nI 9) S K = K (nI 10)) ∧ (∀ K : Int32 → Option ρ, mGr 3 2 (nI 11) S K = K (nI 12)) ∧ (∀ K : Int32 → Option ρ, mGr 2 0 (nI 13) S K = K (nI 14)) ∧ (∀ K : Int32 → Option ρ, mGr 5 0 (nI 15) S K = K (nI 16)) ∧ (∀ K : Int32 → Option ρ, mGr 5 1 (nI 15) S K = K (nI 21)) ∧ (∀ K : Int32 → Option ρ, mGr 5 2 (nI 15) S K = K (nI 23)) ∧ (∀ K : Int32 → Option ρ, mGr 5 3 (nI 15) S K = K (nI 25)) ∧ (∀ K : Int32 → Option ρ, mGr 5 4 (nI 15) S K = K (nI 27)) ∧ (∀ K : Int32 → Option ρ, mGr 1 0 (nI 16) S K = K (nI 17)) ∧ (∀ K : Int32 → Option ρ, mGr 1 1 (nI 16) S K = K (nI 18)) ∧ (∀ K : Int32 → Option ρ, mGr 1 2 (nI 16) S K = K (nI 19)) ∧ (∀ K : Int32 → Option ρ, mGr 1 3 (nI 16) S K = K (nI 20)) ∧ (∀ K : Int32 → Option ρ, mGr 3 2 (nI 21) S K = K (nI 22)) ∧ (∀ K : Int32 → Option ρ, mGr 3 2 (nI 23) S K = K (nI 24)) ∧ (∀ K : Int32 → Option ρ, mGr 3 2 (nI 25) S K = K (nI 26)) ∧ (∀ K : Int32 → Option ρ, mGr 2 0 (nI 27) S K = K (nI 28)) ∧ (∀ K : Int32 → Option ρ, mGr 5 0 (nI 30) S K = K (nI 31)) ∧ (∀ K : Int32 → Option ρ, mGr 5 1 (nI 30) S K = K (nI 36)) ∧ (∀ K : Int32 → Option ρ, mGr 5 2 (nI 30) S K = K (nI 38)) ∧ (∀ K : Int32 → Option ρ, mGr 5 3 (nI 30) S K = K (nI 40)) ∧ (∀ K : Int32 → Option ρ, mGr 5 4 (nI 30) S K = K (nI 42)) ∧ (∀ K : Int32 → Option ρ, mGr 1 0 (nI 31) S K = K (nI 32)) ∧ (∀ K : Int32 → Option ρ, mGr 1 1 (nI 31) S K = K (nI 33)) ∧ (∀ K : Int32 → Option ρ, mGr 1 2 (nI 31) S K = K (nI 34)) ∧ (∀ K : Int32 → Option ρ, mGr 1 3 (nI 31) S K = K (nI 35)) ∧ (∀ K : Int32 → Option ρ, mGr 3 2 (nI 36) S K = K (nI 37)) ∧ (∀ K : Int32 → Option ρ, mGr 3 2 (nI 38) S K = K (nI 39)) ∧ (∀ K : Int32 → Option ρ, mGr 3 2 (nI 40) S K = K (nI 41)) ∧ (∀ K : Int32 → Option ρ, mGr 2 0 (nI 42) S K = K (nI 43)) ∧ (∀ K : Int32 → Option ρ, mGr 5 0 (nI 44) S K = K (nI 45)) ∧ (∀ K : Int32 → Option ρ, mGr 5 1 (nI 44) S K = K (nI 50)) ∧ (∀ K : Int32 → Option ρ, mGr 5 2 (nI 44) S K = K (nI 52)) ∧ (∀ K : Int32 → Option ρ, mGr 5 3 (nI 44) S K = K (nI 54)) ∧ (∀ K : Int32 → Option ρ, mGr 5 4 (nI 44) S K = K (nI 56)) ∧ (∀ K : Int32 → Option ρ, mGr 1 0 (nI 45) S K = K (nI 46)) ∧ (∀ K : Int32 → Option ρ, mGr 1 1 (nI 45) S K = K (nI 47)) ∧ (∀ K : Int32 → Option ρ, mGr 1 2 (nI 45) S K = K (nI 48)) ∧ (∀ K : Int32 → Option ρ, mGr 1 3 (nI 45) S K = K (nI 49)) := ⟨fun _ => mGr_e h.1 rfl (by decide) (Ly_at h 0 0 1 (by decide) (by decide) (by decide)) (by decide),
  fun _ => mGr_e h.1 rfl (by decide) (Ly_at h 0 1 15 (by decide) (by decide) (by decide)) (by decide),
  fun _ => mGr_e h.1 rfl (by decide) (Ly_at h 0 2 29 (by decide) (by decide) (by decide)) (by decide),
  fun _ => mGr_e h.1 rfl (by decide) (Ly_at h 0 3 58 (by decide) (by decide) (by decide)) (by decide),
  fun _ => mGr_e h.1 rfl (by decide) (Ly_at h 0 4 59 (by decide) (by decide) (by decide)) (by decide),
  fun _ => mGr_e h.1 rfl (by decide) (Ly_at h 0 5 61 (by decide) (by decide) (by decide)) (by decide),
  fun _ => mGr_e h.1 rfl (by decide) (Ly_at h 0 6 65 (by decide) (by decide) (by decide)) (by decide),
  fun _ => mGr_e h.1 rfl (by decide) (Ly_at h 0 7 70 (by decide) (by decide) (by decide)) (by decide),
  fun _ => mGr_e h.1 rfl (by decide) (Ly_at h 0 8 75 (by decide) (by decide) (by decide)) (by decide),
  fun _ => mGr_e h.1 rfl (by decide) (Ly_at h 0 9 80 (by decide) (by decide) (by decide)) (by decide),
  fun _ => mGr_e h.1 rfl (by decide) (Ly_at h 0 10 81 (by decide) (by decide) (by decide)) (by decide),
  fun _ => mGr_e h.1 rfl (by decide) (Ly_at h 0 11 82 (by decide) (by decide) (by decide)) (by decide),
  fun _ => mGr_e h.1 rfl (by decide) (Ly_at h 1 0 2 (by decide) (by decide) (by decide)) (by decide),
  fun _ => mGr_e h.1 rfl (by decide) (Ly_at h 1 1 7 (by decide) (by decide) (by decide)) (by decide),
  fun _ => mGr_e h.1 rfl (by decide) (Ly_at h 1 2 9 (by decide) (by decide) (by decide)) (by decide),
  fun _ => mGr_e h.1 rfl (by decide) (Ly_at h 1 3 11 (by decide) (by decide) (by decide)) (by decide),
  fun _ => mGr_e h.1 rfl (by decide) (Ly_at h 1 4 13 (by decide) (by decide) (by decide)) (by decide),
  fun _ => mGr_e h.1 rfl (by decide) (Ly_at h 2 0 3 (by decide) (by decide) (by decide)) (by decide),
  fun _ => mGr_e h.1 rfl (by decide) (Ly_at h 2 1 4 (by decide) (by decide) (by decide)) (by decide),
  fun _ => mGr_e h.1 rfl (by decide) (Ly_at h 2 2 5 (by decide) (by decide) (by decide)) (by decide),
  fun _ => mGr_e h.1 rfl (by decide) (Ly_at h 2 3 6 (by decide) (by decide) (by decide)) (by decide),
  fun _ => mGr_e h.1 rfl (by decide) (Ly_at h 7 2 8 (by decide) (by decide) (by decide)) (by decide),
  fun _ => mGr_e h.1 rfl (by decide) (Ly_at h 9 2 10 (by decide) (by decide) (by decide)) (by decide),
  fun _ => mGr_e h.1 rfl (by decide) (Ly_at h 11 2 12 (by decide) (by decide) (by decide)) (by decide),
  fun _ => mGr_e h.1 rfl (by decide) (Ly_at h 13 0 14 (by decide) (by decide) (by decide)) (by decide),
  fun _ => mGr_e h.1 rfl (by decide) (Ly_at h 15 0 16 (by decide) (by decide) (by decide)) (by decide),
  fun _ => mGr_e h.1 rfl (by decide) (Ly_at h 15 1 21 (by decide) (by decide) (by decide)) (by decide),
  fun _ => mGr_e h.1 rfl (by decide) (Ly_at h 15 2 23 (by decide) (by decide) (by decide)) (by decide),
  fun _ => mGr_e h.1 rfl (by decide) (Ly_at h 15 3 25 (by decide) (by decide) (by decide)) (by decide),
  fun _ => mGr_e h.1 rfl (by decide) (Ly_at h 15 4 27 (by decide) (by decide) (by decide)) (by decide),
  fun _ => mGr_e h.1 rfl (by decide) (Ly_at h 16 0 17 (by decide) (by decide) (by decide)) (by decide),
  fun _ => mGr_e h.1 rfl (by decide) (Ly_at h 16 1 18 (by decide) (by decide) (by decide)) (by decide),
  fun _ => mGr_e h.1 rfl (by decide) (Ly_at h 16 2 19 (by decide) (by decide) (by decide)) (by decide),
  fun _ => mGr_e h.1 rfl (by decide) (Ly_at h 16 3 20 (by decide) (by decide) (by decide)) (by decide),
  fun _ => mGr_e h.1 rfl (by decide) (Ly_at h 21 2 22 (by decide) (by decide) (by decide)) (by decide),
  fun _ => mGr_e h.1 rfl (by decide) (Ly_at h 23 2 24 (by decide) (by decide) (by decide)) (by decide),
  fun _ => mGr_e h.1 rfl (by decide) (Ly_at h 25 2 26 (by decide) (by decide) (by decide)) (by decide),
  fun _ => mGr_e h.1 rfl (by decide) (Ly_at h 27 0 28 (by decide) (by decide) (by decide)) (by decide),
  fun _ => mGr_e h.1 rfl (by decide) (Ly_at h 30 0 31 (by decide) (by decide) (by decide)) (by decide),
  fun _ => mGr_e h.1 rfl (by decide) (Ly_at h 30 1 36 (by decide) (by decide) (by decide)) (by decide),
  fun _ => mGr_e h.1 rfl (by decide) (Ly_at h 30 2 38 (by decide) (by decide) (by decide)) (by decide),
  fun _ => mGr_e h.1 rfl (by decide) (Ly_at h 30 3 40 (by decide) (by decide) (by decide)) (by decide),
  fun _ => mGr_e h.1 rfl (by decide) (Ly_at h 30 4 42 (by decide) (by decide) (by decide)) (by decide),
  fun _ => mGr_e h.1 rfl (by decide) (Ly_at h 31 0 32 (by decide) (by decide) (by decide)) (by decide),
  fun _ => mGr_e h.1 rfl (by decide) (Ly_at h 31 1 33 (by decide) (by decide) (by decide)) (by decide),
  fun _ => mGr_e h.1 rfl (by decide) (Ly_at h 31 2 34 (by decide) (by decide) (by decide)) (by decide),
  fun _ => mGr_e h.1 rfl (by decide) (Ly_at h 31 3 35 (by decide) (by decide) (by decide)) (by decide),
  fun _ => mGr_e h.1 rfl (by decide) (Ly_at h 36 2 37 (by decide) (by decide) (by decide)) (by decide),
  fun _ => mGr_e h.1 rfl (by decide) (Ly_at h 38 2 39 (by decide) (by decide) (by decide)) (by decide),
  fun _ => mGr_e h.1 rfl (by decide) (Ly_at h 40 2 41 (by decide) (by decide) (by decide)) (by decide),
  fun _ => mGr_e h.1 rfl (by decide) (Ly_at h 42 0 43 (by decide) (by decide) (by decide)) (by decide),
  fun _ => mGr_e h.1 rfl (by decide) (Ly_at h 44 0 45 (by decide) (by decide) (by decide)) (by decide),
  fun _ => mGr_e h.1 rfl (by decide) (Ly_at h 44 1 50 (by decide) (by decide) (by decide)) (by decide),
  fun _ => mGr_e h.1 rfl (by decide) (Ly_at h 44 2 52 (by decide) (by decide) (by decide)) (by decide),
  fun _ => mGr_e h.1 rfl (by decide) (Ly_at h 44 3 54 (by decide) (by decide) (by decide)) (by decide),
  fun _ => mGr_e h.1 rfl (by decide) (Ly_at h 44 4 56 (by decide) (by decide) (by decide)) (by decide),
  fun _ => mGr_e h.1 rfl (by decide) (Ly_at h 45 0 46 (by decide) (by decide) (by decide)) (by decide),
  fun _ => mGr_e h.1 rfl (by decide) (Ly_at h 45 1 47 (by decide) (by decide) (by decide)) (by decide),
  fun _ => mGr_e h.1 rfl (by decide) (Ly_at h 45 2 48 (by decide) (by decide) (by decide)) (by decide),
  fun _ => mGr_e h.1 rfl (by decide) (Ly_at h 45 3 49 (by decide) (by decide) (by decide)) (by decide)⟩
theorem gc_1 {S : mS} (h : Ly S) {ρ : Type} : (∀ K : Int32 → Option ρ, mGr 3 2 (nI 50) S K = K (nI 51)) ∧ (∀ K : Int32 → Option ρ, mGr 3 2 (nI 52) S K = K (nI 53)) ∧ (∀ K : Int32 → Option ρ, mGr 3 2 (nI 54) S K = K (nI 55)) ∧ (∀ K : Int32 → Option ρ, mGr 2 0 (nI 56) S K = K (nI 57)) ∧ (∀ K : Int32 → Option ρ, mGr 4 0 (nI 59) S K = K (nI 60)) ∧ (∀ K : Int32 → Option ρ, mGr 0 0 (nI 61) S K = K (nI 62)) ∧ (∀ K : Int32 → Option ρ, mGr 0 1 (nI 61) S K = K (nI 63)) ∧ (∀ K : Int32 → Option ρ, mGr 0 2 (nI 61) S K = K (nI 64)) ∧ (∀ K : Int32 → Option ρ, mGr 1 0 (nI 65) S K = K (nI 66)) ∧ (∀ K : Int32 → Option ρ, mGr 1 1 (nI 65) S K = K (nI 67)) ∧ (∀ K : Int32 → Option ρ, mGr 1 2 (nI 65) S K = K (nI 68)) ∧ (∀ K : Int32 → Option ρ, mGr 1 3 (nI 65) S K = K (nI 69)) ∧ (∀ K : Int32 → Option ρ, mGr 1 0 (nI 70) S K = K (nI 71)) ∧ (∀ K : Int32 → Option ρ, mGr 1 1 (nI 70) S K = K (nI 72)) ∧ (∀ K : Int32 → Option ρ, mGr 1 2 (nI 70) S K = K (nI 73)) ∧ (∀ K : Int32 → Option ρ, mGr 1 3 (nI 70) S K = K (nI 74)) ∧ (∀ K : Int32 → Option ρ, mGr 1 0 (nI 75) S K = K (nI 76)) ∧ (∀ K : Int32 → Option ρ, mGr 1 1 (nI 75) S K = K (nI 77)) ∧ (∀ K : Int32 → Option ρ, mGr 1 2 (nI 75) S K = K (nI 78)) ∧ (∀ K : Int32 → Option ρ, mGr 1 3 (nI 75) S K = K (nI 79)) ∧ (∀ K : Int32 → Option ρ, mGr 7 0 (nI 83) S K = K (nI 84)) ∧ (∀ K : Int32 → Option ρ, mGr 7 8 (nI 83) S K = K (nI 85)) ∧ (∀ K : Int32 → Option ρ, mGr 7 9 (nI 83) S K = K (nI 86)) ∧ (∀ K : Int32 → Option ρ, mGr 7 10 (nI 83) S K = K (nI 87)) ∧ (∀ K : Int32 → Option ρ, mGr 7 11 (nI 83) S K = K (nI 88)) ∧ (∀ K : Int32 → Option ρ, mGr 7 12 (nI 83) S K = K (nI 89)) ∧ (∀ K : Int32 → Option ρ, mGr 7 13 (nI 83) S K = K (nI 90)) ∧ (∀ K : Int32 → Option ρ, mGr 7 14 (nI 83) S K = K (nI 91)) ∧ (∀ K : Int32 → Option ρ, mGr 7 15 (nI 83) S K = K (nI 92)) ∧ (∀ K : Int32 → Option ρ, mGr 7 19 (nI 83) S K = K (nI 93)) ∧ (∀ K : Int32 → Option ρ, mGr 7 20 (nI 83) S K = K (nI 94)) ∧ (∀ K : Int32 → Option ρ, mGr 7 22 (nI 83) S K = K (nI 95)) ∧ (∀ K : Int32 → Option ρ, mGr 7 23 (nI 83) S K = K (nI 96)) ∧ (∀ K : Int32 → Option ρ, mGr 7 24 (nI 83) S K = K (nI 97)) ∧ (∀ K : Int32 → Option ρ, mGr 7 27 (nI 83) S K = K (nI 98)) ∧ (∀ K : Int32 → Option ρ, mGr 7 28 (nI 83) S K = K (nI 99)) ∧ (∀ (j : Nat) (K : Int32 → Option ρ), mG 6 j (nI 0) S K = K (S.2.1 0 j)) ∧ (∀ (j : Nat) (v : Int32) (K : mS → Option ρ), mP 6 j (nI 0) v S K = K (mPut S 0 j v)) ∧ (∀ a : Option ρ, mRc 6 (nI 0) S a = a) ∧ (∀ (j : Nat) (K : Int32 → Option ρ), mG 5 j (nI 1) S K = K (S.2.1 1 j)) ∧ (∀ (j : Nat) (v : Int32) (K : mS → Option ρ), mP 5 j (nI 1) v S K = K (mPut S 1 j v)) ∧ (∀ a : Option ρ, mRc 5 (nI 1) S a = a) ∧ (∀ (j : Nat) (K : Int32 → Option ρ), mG 1 j (nI 2) S K = K (S.2.1 2 j)) ∧ (∀ (j : Nat) (v : Int32) (K : mS → Option ρ), mP 1 j (nI 2) v S K = K (mPut S 2 j v)) ∧ (∀ a : Option ρ, mRc 1 (nI 2) S a = a) ∧ (∀ (j : Nat) (K : Int32 → Option ρ), mG 3 j (nI 7) S K = K (S.2.1 7 j)) ∧ (∀ (j : Nat) (v : Int32) (K : mS → Option ρ), mP 3 j (nI 7) v S K = K (mPut S 7 j v)) ∧ (∀ a : Option ρ, mRc 3 (nI 7) S a = a) ∧ (∀ (j : Nat) (K : Int32 → Option ρ), mG 3 j (nI 9) S K = K (S.2.1 9 j)) ∧ (∀ (j : Nat) (v : Int32) (K : mS → Option ρ), mP 3 j (nI 9) v S K = K (mPut S 9 j v)) ∧ (∀ a : Option ρ, mRc 3 (nI 9) S a = a) ∧ (∀ (j : Nat) (K : Int32 → Option ρ), mG 3 j (nI 11) S K = K (S.2.1 11 j)) ∧ (∀ (j : Nat) (v : Int32) (K : mS → Option ρ), mP 3 j (nI 11) v S K = K (mPut S 11 j v)) ∧ (∀ a : Option ρ, mRc 3 (nI 11) S a = a) ∧ (∀ (j : Nat) (K : Int32 → Option ρ), mG 2 j (nI 13) S K = K (S.2.1 13 j)) ∧ (∀ (j : Nat) (v : Int32) (K : mS → Option ρ), mP 2 j (nI 13) v S K = K (mPut S 13 j v)) ∧ (∀ a : Option ρ, mRc 2 (nI 13) S a = a) ∧ (∀ (j : Nat) (K : Int32 → Option ρ), mG 5 j (nI 15) S K = K (S.2.1 15 j)) ∧ (∀ (j : Nat) (v : Int32) (K : mS → Option ρ), mP 5 j (nI 15) v S K = K (mPut S 15 j v)) ∧ (∀ a : Option ρ, mRc 5 (nI 15) S a = a) := ⟨fun _ => mGr_e h.1 rfl (by decide) (Ly_at h 50 2 51 (by decide) (by decide) (by decide)) (by decide),
  fun _ => mGr_e h.1 rfl (by decide) (Ly_at h 52 2 53 (by decide) (by decide) (by decide)) (by decide),
  fun _ => mGr_e h.1 rfl (by decide) (Ly_at h 54 2 55 (by decide) (by decide) (by decide)) (by decide),
  fun _ => mGr_e h.1 rfl (by decide) (Ly_at h 56 0 57 (by decide) (by decide) (by decide)) (by decide),
  fun _ => mGr_e h.1 rfl (by decide) (Ly_at h 59 0 60 (by decide) (by decide) (by decide)) (by decide),
  fun _ => mGr_e h.1 rfl (by decide) (Ly_at h 61 0 62 (by decide) (by decide) (by decide)) (by decide),
  fun _ => mGr_e h.1 rfl (by decide) (Ly_at h 61 1 63 (by decide) (by decide) (by decide)) (by decide),
  fun _ => mGr_e h.1 rfl (by decide) (Ly_at h 61 2 64 (by decide) (by decide) (by decide)) (by decide),
  fun _ => mGr_e h.1 rfl (by decide) (Ly_at h 65 0 66 (by decide) (by decide) (by decide)) (by decide),
  fun _ => mGr_e h.1 rfl (by decide) (Ly_at h 65 1 67 (by decide) (by decide) (by decide)) (by decide),
  fun _ => mGr_e h.1 rfl (by decide) (Ly_at h 65 2 68 (by decide) (by decide) (by decide)) (by decide),
  fun _ => mGr_e h.1 rfl (by decide) (Ly_at h 65 3 69 (by decide) (by decide) (by decide)) (by decide),
  fun _ => mGr_e h.1 rfl (by decide) (Ly_at h 70 0 71 (by decide) (by decide) (by decide)) (by decide),
  fun _ => mGr_e h.1 rfl (by decide) (Ly_at h 70 1 72 (by decide) (by decide) (by decide)) (by decide),
  fun _ => mGr_e h.1 rfl (by decide) (Ly_at h 70 2 73 (by decide) (by decide) (by decide)) (by decide),
  fun _ => mGr_e h.1 rfl (by decide) (Ly_at h 70 3 74 (by decide) (by decide) (by decide)) (by decide),
  fun _ => mGr_e h.1 rfl (by decide) (Ly_at h 75 0 76 (by decide) (by decide) (by decide)) (by decide),
  fun _ => mGr_e h.1 rfl (by decide) (Ly_at h 75 1 77 (by decide) (by decide) (by decide)) (by decide),
  fun _ => mGr_e h.1 rfl (by decide) (Ly_at h 75 2 78 (by decide) (by decide) (by decide)) (by decide),
  fun _ => mGr_e h.1 rfl (by decide) (Ly_at h 75 3 79 (by decide) (by decide) (by decide)) (by decide),
  fun _ => mGr_e h.1 rfl (by decide) (Ly_at h 83 0 84 (by decide) (by decide) (by decide)) (by decide),
  fun _ => mGr_e h.1 rfl (by decide) (Ly_at h 83 8 85 (by decide) (by decide) (by decide)) (by decide),
  fun _ => mGr_e h.1 rfl (by decide) (Ly_at h 83 9 86 (by decide) (by decide) (by decide)) (by decide),
  fun _ => mGr_e h.1 rfl (by decide) (Ly_at h 83 10 87 (by decide) (by decide) (by decide)) (by decide),
  fun _ => mGr_e h.1 rfl (by decide) (Ly_at h 83 11 88 (by decide) (by decide) (by decide)) (by decide),
  fun _ => mGr_e h.1 rfl (by decide) (Ly_at h 83 12 89 (by decide) (by decide) (by decide)) (by decide),
  fun _ => mGr_e h.1 rfl (by decide) (Ly_at h 83 13 90 (by decide) (by decide) (by decide)) (by decide),
  fun _ => mGr_e h.1 rfl (by decide) (Ly_at h 83 14 91 (by decide) (by decide) (by decide)) (by decide),
  fun _ => mGr_e h.1 rfl (by decide) (Ly_at h 83 15 92 (by decide) (by decide) (by decide)) (by decide),
  fun _ => mGr_e h.1 rfl (by decide) (Ly_at h 83 19 93 (by decide) (by decide) (by decide)) (by decide),
  fun _ => mGr_e h.1 rfl (by decide) (Ly_at h 83 20 94 (by decide) (by decide) (by decide)) (by decide),
  fun _ => mGr_e h.1 rfl (by decide) (Ly_at h 83 22 95 (by decide) (by decide) (by decide)) (by decide),
  fun _ => mGr_e h.1 rfl (by decide) (Ly_at h 83 23 96 (by decide) (by decide) (by decide)) (by decide),
  fun _ => mGr_e h.1 rfl (by decide) (Ly_at h 83 24 97 (by decide) (by decide) (by decide)) (by decide),
  fun _ => mGr_e h.1 rfl (by decide) (Ly_at h 83 27 98 (by decide) (by decide) (by decide)) (by decide),
  fun _ => mGr_e h.1 rfl (by decide) (Ly_at h 83 28 99 (by decide) (by decide) (by decide)) (by decide),
  fun _ _ => mG_e h.1 rfl (by decide),
  fun _ _ _ => mP_e h.1 rfl (by decide),
  fun _ => mRc_e h.1 rfl (by decide),
  fun _ _ => mG_e h.1 rfl (by decide),
  fun _ _ _ => mP_e h.1 rfl (by decide),
  fun _ => mRc_e h.1 rfl (by decide),
  fun _ _ => mG_e h.1 rfl (by decide),
  fun _ _ _ => mP_e h.1 rfl (by decide),
  fun _ => mRc_e h.1 rfl (by decide),
  fun _ _ => mG_e h.1 rfl (by decide),
  fun _ _ _ => mP_e h.1 rfl (by decide),
  fun _ => mRc_e h.1 rfl (by decide),
  fun _ _ => mG_e h.1 rfl (by decide),
  fun _ _ _ => mP_e h.1 rfl (by decide),
  fun _ => mRc_e h.1 rfl (by decide),
  fun _ _ => mG_e h.1 rfl (by decide),
  fun _ _ _ => mP_e h.1 rfl (by decide),
  fun _ => mRc_e h.1 rfl (by decide),
  fun _ _ => mG_e h.1 rfl (by decide),
  fun _ _ _ => mP_e h.1 rfl (by decide),
  fun _ => mRc_e h.1 rfl (by decide),
  fun _ _ => mG_e h.1 rfl (by decide),
  fun _ _ _ => mP_e h.1 rfl (by decide),
  fun _ => mRc_e h.1 rfl (by decide)⟩
theorem gc_2 {S : mS} (h : Ly S) {ρ : Type} : (∀ (j : Nat) (K : Int32 → Option ρ), mG 1 j (nI 16) S K = K (S.2.1 16 j)) ∧ (∀ (j : Nat) (v : Int32) (K : mS → Option ρ), mP 1 j (nI 16) v S K = K (mPut S 16 j v)) ∧ (∀ a : Option ρ, mRc 1 (nI 16) S a = a) ∧ (∀ (j : Nat) (K : Int32 → Option ρ), mG 3 j (nI 21) S K = K (S.2.1 21 j)) ∧ (∀ (j : Nat) (v : Int32) (K : mS → Option ρ), mP 3 j (nI 21) v S K = K (mPut S 21 j v)) ∧ (∀ a : Option ρ, mRc 3 (nI 21) S a = a) ∧ (∀ (j : Nat) (K : Int32 → Option ρ), mG 3 j (nI 23) S K = K (S.2.1 23 j)) ∧ (∀ (j : Nat) (v : Int32) (K : mS → Option ρ), mP 3 j (nI 23) v S K = K (mPut S 23 j v)) ∧ (∀ a : Option ρ, mRc 3 (nI 23) S a = a) ∧ (∀ (j : Nat) (K : Int32 → Option ρ), mG 3 j (nI 25) S K = K (S.2.1 25 j)) ∧ (∀ (j : Nat) (v : Int32) (K : mS → Option ρ), mP 3 j (nI 25) v S K = K (mPut S 25 j v)) ∧ (∀ a : Option ρ, mRc 3 (nI 25) S a = a) ∧ (∀ (j : Nat) (K : Int32 → Option ρ), mG 2 j (nI 27) S K = K (S.2.1 27 j)) ∧ (∀ (j : Nat) (v : Int32) (K : mS → Option ρ), mP 2 j (nI 27) v S K = K (mPut S 27 j v)) ∧ (∀ a : Option ρ, mRc 2 (nI 27) S a = a) ∧ (∀ (j : Nat) (K : Int32 → Option ρ), mG 5 j (nI 30) S K = K (S.2.1 30 j)) ∧ (∀ (j : Nat) (v : Int32) (K : mS → Option ρ), mP 5 j (nI 30) v S K = K (mPut S 30 j v)) ∧ (∀ a : Option ρ, mRc 5 (nI 30) S a = a) ∧ (∀ (j : Nat) (K : Int32 → Option ρ), mG 1 j (nI 31) S K = K (S.2.1 31 j)) ∧ (∀ (j : Nat) (v : Int32) (K : mS → Option ρ), mP 1 j (nI 31) v S K = K (mPut S 31 j v)) ∧ (∀ a : Option ρ, mRc 1 (nI 31) S a = a) ∧ (∀ (j : Nat) (K : Int32 → Option ρ), mG 3 j (nI 36) S K = K (S.2.1 36 j)) ∧ (∀ (j : Nat) (v : Int32) (K : mS → Option ρ), mP 3 j (nI 36) v S K = K (mPut S 36 j v)) ∧ (∀ a : Option ρ, mRc 3 (nI 36) S a = a) ∧ (∀ (j : Nat) (K : Int32 → Option ρ), mG 3 j (nI 38) S K = K (S.2.1 38 j)) ∧ (∀ (j : Nat) (v : Int32) (K : mS → Option ρ), mP 3 j (nI 38) v S K = K (mPut S 38 j v)) ∧ (∀ a : Option ρ, mRc 3 (nI 38) S a = a) ∧ (∀ (j : Nat) (K : Int32 → Option ρ), mG 3 j (nI 40) S K = K (S.2.1 40 j)) ∧ (∀ (j : Nat) (v : Int32) (K : mS → Option ρ), mP 3 j (nI 40) v S K = K (mPut S 40 j v)) ∧ (∀ a : Option ρ, mRc 3 (nI 40) S a = a) ∧ (∀ (j : Nat) (K : Int32 → Option ρ), mG 2 j (nI 42) S K = K (S.2.1 42 j)) ∧ (∀ (j : Nat) (v : Int32) (K : mS → Option ρ), mP 2 j (nI 42) v S K = K (mPut S 42 j v)) ∧ (∀ a : Option ρ, mRc 2 (nI 42) S a = a) ∧ (∀ (j : Nat) (K : Int32 → Option ρ), mG 5 j (nI 44) S K = K (S.2.1 44 j)) ∧ (∀ (j : Nat) (v : Int32) (K : mS → Option ρ), mP 5 j (nI 44) v S K = K (mPut S 44 j v)) ∧ (∀ a : Option ρ, mRc 5 (nI 44) S a = a) ∧ (∀ (j : Nat) (K : Int32 → Option ρ), mG 1 j (nI 45) S K = K (S.2.1 45 j)) ∧ (∀ (j : Nat) (v : Int32) (K : mS → Option ρ), mP 1 j (nI 45) v S K = K (mPut S 45 j v)) ∧ (∀ a : Option ρ, mRc 1 (nI 45) S a = a) ∧ (∀ (j : Nat) (K : Int32 → Option ρ), mG 3 j (nI 50) S K = K (S.2.1 50 j)) ∧ (∀ (j : Nat) (v : Int32) (K : mS → Option ρ), mP 3 j (nI 50) v S K = K (mPut S 50 j v)) ∧ (∀ a : Option ρ, mRc 3 (nI 50) S a = a) ∧ (∀ (j : Nat) (K : Int32 → Option ρ), mG 3 j (nI 52) S K = K (S.2.1 52 j)) ∧ (∀ (j : Nat) (v : Int32) (K : mS → Option ρ), mP 3 j (nI 52) v S K = K (mPut S 52 j v)) ∧ (∀ a : Option ρ, mRc 3 (nI 52) S a = a) ∧ (∀ (j : Nat) (K : Int32 → Option ρ), mG 3 j (nI 54) S K = K (S.2.1 54 j)) ∧ (∀ (j : Nat) (v : Int32) (K : mS → Option ρ), mP 3 j (nI 54) v S K = K (mPut S 54 j v)) ∧ (∀ a : Option ρ, mRc 3 (nI 54) S a = a) ∧ (∀ (j : Nat) (K : Int32 → Option ρ), mG 2 j (nI 56) S K = K (S.2.1 56 j)) ∧ (∀ (j : Nat) (v : Int32) (K : mS → Option ρ), mP 2 j (nI 56) v S K = K (mPut S 56 j v)) ∧ (∀ a : Option ρ, mRc 2 (nI 56) S a = a) ∧ (∀ (j : Nat) (K : Int32 → Option ρ), mG 4 j (nI 59) S K = K (S.2.1 59 j)) ∧ (∀ (j : Nat) (v : Int32) (K : mS → Option ρ), mP 4 j (nI 59) v S K = K (mPut S 59 j v)) ∧ (∀ a : Option ρ, mRc 4 (nI 59) S a = a) ∧ (∀ (j : Nat) (K : Int32 → Option ρ), mG 0 j (nI 61) S K = K (S.2.1 61 j)) ∧ (∀ (j : Nat) (v : Int32) (K : mS → Option ρ), mP 0 j (nI 61) v S K = K (mPut S 61 j v)) ∧ (∀ a : Option ρ, mRc 0 (nI 61) S a = a) ∧ (∀ (j : Nat) (K : Int32 → Option ρ), mG 1 j (nI 65) S K = K (S.2.1 65 j)) ∧ (∀ (j : Nat) (v : Int32) (K : mS → Option ρ), mP 1 j (nI 65) v S K = K (mPut S 65 j v)) ∧ (∀ a : Option ρ, mRc 1 (nI 65) S a = a) := ⟨fun _ _ => mG_e h.1 rfl (by decide),
  fun _ _ _ => mP_e h.1 rfl (by decide),
  fun _ => mRc_e h.1 rfl (by decide),
  fun _ _ => mG_e h.1 rfl (by decide),
  fun _ _ _ => mP_e h.1 rfl (by decide),
  fun _ => mRc_e h.1 rfl (by decide),
  fun _ _ => mG_e h.1 rfl (by decide),
  fun _ _ _ => mP_e h.1 rfl (by decide),
  fun _ => mRc_e h.1 rfl (by decide),
  fun _ _ => mG_e h.1 rfl (by decide),
  fun _ _ _ => mP_e h.1 rfl (by decide),
  fun _ => mRc_e h.1 rfl (by decide),
  fun _ _ => mG_e h.1 rfl (by decide),
  fun _ _ _ => mP_e h.1 rfl (by decide),
  fun _ => mRc_e h.1 rfl (by decide),
  fun _ _ => mG_e h.1 rfl (by decide),
  fun _ _ _ => mP_e h.1 rfl (by decide),
  fun _ => mRc_e h.1 rfl (by decide),
  fun _ _ => mG_e h.1 rfl (by decide),
  fun _ _ _ => mP_e h.1 rfl (by decide),
  fun _ => mRc_e h.1 rfl (by decide),
  fun _ _ => mG_e h.1 rfl (by decide),
  fun _ _ _ => mP_e h.1 rfl (by decide),
  fun _ => mRc_e h.1 rfl (by decide),
  fun _ _ => mG_e h.1 rfl (by decide),
  fun _ _ _ => mP_e h.1 rfl (by decide),
  fun _ => mRc_e h.1 rfl (by decide),
  fun _ _ => mG_e h.1 rfl (by decide),
  fun _ _ _ => mP_e h.1 rfl (by decide),
  fun _ => mRc_e h.1 rfl (by decide),
  fun _ _ => mG_e h.1 rfl (by decide),
  fun _ _ _ => mP_e h.1 rfl (by decide),
  fun _ => mRc_e h.1 rfl (by decide),
  fun _ _ => mG_e h.1 rfl (by decide),
  fun _ _ _ => mP_e h.1 rfl (by decide),
  fun _ => mRc_e h.1 rfl (by decide),
  fun _ _ => mG_e h.1 rfl (by decide),
  fun _ _ _ => mP_e h.1 rfl (by decide),
  fun _ => mRc_e h.1 rfl (by decide),
  fun _ _ => mG_e h.1 rfl (by decide),
  fun _ _ _ => mP_e h.1 rfl (by decide),
  fun _ => mRc_e h.1 rfl (by decide),
  fun _ _ => mG_e h.1 rfl (by decide),
  fun _ _ _ => mP_e h.1 rfl (by decide),
  fun _ => mRc_e h.1 rfl (by decide),
  fun _ _ => mG_e h.1 rfl (by decide),
  fun _ _ _ => mP_e h.1 rfl (by decide),
  fun _ => mRc_e h.1 rfl (by decide),
  fun _ _ => mG_e h.1 rfl (by decide),
  fun _ _ _ => mP_e h.1 rfl (by decide),
  fun _ => mRc_e h.1 rfl (by decide),
  fun _ _ => mG_e h.1 rfl (by decide),
  fun _ _ _ => mP_e h.1 rfl (by decide),
  fun _ => mRc_e h.1 rfl (by decide),
  fun _ _ => mG_e h.1 rfl (by decide),
  fun _ _ _ => mP_e h.1 rfl (by decide),
  fun _ => mRc_e h.1 rfl (by decide),
  fun _ _ => mG_e h.1 rfl (by decide),
  fun _ _ _ => mP_e h.1 rfl (by decide),
  fun _ => mRc_e h.1 rfl (by decide)⟩
theorem gc_3 {S : mS} (h : Ly S) {ρ : Type} : (∀ (j : Nat) (K : Int32 → Option ρ), mG 1 j (nI 70) S K = K (S.2.1 70 j)) ∧ (∀ (j : Nat) (v : Int32) (K : mS → Option ρ), mP 1 j (nI 70) v S K = K (mPut S 70 j v)) ∧ (∀ a : Option ρ, mRc 1 (nI 70) S a = a) ∧ (∀ (j : Nat) (K : Int32 → Option ρ), mG 1 j (nI 75) S K = K (S.2.1 75 j)) ∧ (∀ (j : Nat) (v : Int32) (K : mS → Option ρ), mP 1 j (nI 75) v S K = K (mPut S 75 j v)) ∧ (∀ a : Option ρ, mRc 1 (nI 75) S a = a) ∧ (∀ (j : Nat) (K : Int32 → Option ρ), mG 7 j (nI 83) S K = K (S.2.1 83 j)) ∧ (∀ (j : Nat) (v : Int32) (K : mS → Option ρ), mP 7 j (nI 83) v S K = K (mPut S 83 j v)) ∧ (∀ a : Option ρ, mRc 7 (nI 83) S a = a) ∧ (∀ (i : Nat) (K : Int32 → Option ρ), i < 3 → mX 8 (nI 3) (nI i) S K = K (S.2.1 3 i)) ∧ (∀ (i : Nat) (v : Int32) (K : mS → Option ρ), i < 3 → mXs (nI 3) (nI i) v S K = K (mPut S 3 i v)) ∧ (∀ (i : Nat) (K : Int32 → Option ρ), i < 3 → mX 8 (nI 4) (nI i) S K = K (S.2.1 4 i)) ∧ (∀ (i : Nat) (v : Int32) (K : mS → Option ρ), i < 3 → mXs (nI 4) (nI i) v S K = K (mPut S 4 i v)) ∧ (∀ (i : Nat) (K : Int32 → Option ρ), i < 7 → mX 8 (nI 5) (nI i) S K = K (S.2.1 5 i)) ∧ (∀ (i : Nat) (v : Int32) (K : mS → Option ρ), i < 7 → mXs (nI 5) (nI i) v S K = K (mPut S 5 i v)) ∧ (∀ (i : Nat) (K : Int32 → Option ρ), i < 7 → mX 8 (nI 6) (nI i) S K = K (S.2.1 6 i)) ∧ (∀ (i : Nat) (v : Int32) (K : mS → Option ρ), i < 7 → mXs (nI 6) (nI i) v S K = K (mPut S 6 i v)) ∧ (∀ (i : Nat) (K : Int32 → Option ρ), i < 18 → mX 8 (nI 8) (nI i) S K = K (S.2.1 8 i)) ∧ (∀ (i : Nat) (v : Int32) (K : mS → Option ρ), i < 18 → mXs (nI 8) (nI i) v S K = K (mPut S 8 i v)) ∧ (∀ (i : Nat) (K : Int32 → Option ρ), i < 18 → mX 8 (nI 10) (nI i) S K = K (S.2.1 10 i)) ∧ (∀ (i : Nat) (v : Int32) (K : mS → Option ρ), i < 18 → mXs (nI 10) (nI i) v S K = K (mPut S 10 i v)) ∧ (∀ (i : Nat) (K : Int32 → Option ρ), i < 18 → mX 8 (nI 12) (nI i) S K = K (S.2.1 12 i)) ∧ (∀ (i : Nat) (v : Int32) (K : mS → Option ρ), i < 18 → mXs (nI 12) (nI i) v S K = K (mPut S 12 i v)) ∧ (∀ (i : Nat) (K : Int32 → Option ρ), i < 88 → mX 8 (nI 14) (nI i) S K = K (S.2.1 14 i)) ∧ (∀ (i : Nat) (v : Int32) (K : mS → Option ρ), i < 88 → mXs (nI 14) (nI i) v S K = K (mPut S 14 i v)) ∧ (∀ (i : Nat) (K : Int32 → Option ρ), i < 3 → mX 8 (nI 17) (nI i) S K = K (S.2.1 17 i)) ∧ (∀ (i : Nat) (v : Int32) (K : mS → Option ρ), i < 3 → mXs (nI 17) (nI i) v S K = K (mPut S 17 i v)) ∧ (∀ (i : Nat) (K : Int32 → Option ρ), i < 3 → mX 8 (nI 18) (nI i) S K = K (S.2.1 18 i)) ∧ (∀ (i : Nat) (v : Int32) (K : mS → Option ρ), i < 3 → mXs (nI 18) (nI i) v S K = K (mPut S 18 i v)) ∧ (∀ (i : Nat) (K : Int32 → Option ρ), i < 7 → mX 8 (nI 19) (nI i) S K = K (S.2.1 19 i)) ∧ (∀ (i : Nat) (v : Int32) (K : mS → Option ρ), i < 7 → mXs (nI 19) (nI i) v S K = K (mPut S 19 i v)) ∧ (∀ (i : Nat) (K : Int32 → Option ρ), i < 7 → mX 8 (nI 20) (nI i) S K = K (S.2.1 20 i)) ∧ (∀ (i : Nat) (v : Int32) (K : mS → Option ρ), i < 7 → mXs (nI 20) (nI i) v S K = K (mPut S 20 i v)) ∧ (∀ (i : Nat) (K : Int32 → Option ρ), i < 18 → mX 8 (nI 22) (nI i) S K = K (S.2.1 22 i)) ∧ (∀ (i : Nat) (v : Int32) (K : mS → Option ρ), i < 18 → mXs (nI 22) (nI i) v S K = K (mPut S 22 i v)) ∧ (∀ (i : Nat) (K : Int32 → Option ρ), i < 18 → mX 8 (nI 24) (nI i) S K = K (S.2.1 24 i)) ∧ (∀ (i : Nat) (v : Int32) (K : mS → Option ρ), i < 18 → mXs (nI 24) (nI i) v S K = K (mPut S 24 i v)) ∧ (∀ (i : Nat) (K : Int32 → Option ρ), i < 18 → mX 8 (nI 26) (nI i) S K = K (S.2.1 26 i)) ∧ (∀ (i : Nat) (v : Int32) (K : mS → Option ρ), i < 18 → mXs (nI 26) (nI i) v S K = K (mPut S 26 i v)) ∧ (∀ (i : Nat) (K : Int32 → Option ρ), i < 88 → mX 8 (nI 28) (nI i) S K = K (S.2.1 28 i)) ∧ (∀ (i : Nat) (v : Int32) (K : mS → Option ρ), i < 88 → mXs (nI 28) (nI i) v S K = K (mPut S 28 i v)) ∧ (∀ (i : Nat) (K : Int32 → Option ρ), i < 3 → mX 8 (nI 32) (nI i) S K = K (S.2.1 32 i)) ∧ (∀ (i : Nat) (v : Int32) (K : mS → Option ρ), i < 3 → mXs (nI 32) (nI i) v S K = K (mPut S 32 i v)) ∧ (∀ (i : Nat) (K : Int32 → Option ρ), i < 3 → mX 8 (nI 33) (nI i) S K = K (S.2.1 33 i)) ∧ (∀ (i : Nat) (v : Int32) (K : mS → Option ρ), i < 3 → mXs (nI 33) (nI i) v S K = K (mPut S 33 i v)) ∧ (∀ (i : Nat) (K : Int32 → Option ρ), i < 7 → mX 8 (nI 34) (nI i) S K = K (S.2.1 34 i)) ∧ (∀ (i : Nat) (v : Int32) (K : mS → Option ρ), i < 7 → mXs (nI 34) (nI i) v S K = K (mPut S 34 i v)) ∧ (∀ (i : Nat) (K : Int32 → Option ρ), i < 7 → mX 8 (nI 35) (nI i) S K = K (S.2.1 35 i)) ∧ (∀ (i : Nat) (v : Int32) (K : mS → Option ρ), i < 7 → mXs (nI 35) (nI i) v S K = K (mPut S 35 i v)) ∧ (∀ (i : Nat) (K : Int32 → Option ρ), i < 18 → mX 8 (nI 37) (nI i) S K = K (S.2.1 37 i)) ∧ (∀ (i : Nat) (v : Int32) (K : mS → Option ρ), i < 18 → mXs (nI 37) (nI i) v S K = K (mPut S 37 i v)) ∧ (∀ (i : Nat) (K : Int32 → Option ρ), i < 18 → mX 8 (nI 39) (nI i) S K = K (S.2.1 39 i)) ∧ (∀ (i : Nat) (v : Int32) (K : mS → Option ρ), i < 18 → mXs (nI 39) (nI i) v S K = K (mPut S 39 i v)) ∧ (∀ (i : Nat) (K : Int32 → Option ρ), i < 18 → mX 8 (nI 41) (nI i) S K = K (S.2.1 41 i)) ∧ (∀ (i : Nat) (v : Int32) (K : mS → Option ρ), i < 18 → mXs (nI 41) (nI i) v S K = K (mPut S 41 i v)) ∧ (∀ (i : Nat) (K : Int32 → Option ρ), i < 88 → mX 8 (nI 43) (nI i) S K = K (S.2.1 43 i)) ∧ (∀ (i : Nat) (v : Int32) (K : mS → Option ρ), i < 88 → mXs (nI 43) (nI i) v S K = K (mPut S 43 i v)) ∧ (∀ (i : Nat) (K : Int32 → Option ρ), i < 3 → mX 8 (nI 46) (nI i) S K = K (S.2.1 46 i)) ∧ (∀ (i : Nat) (v : Int32) (K : mS → Option ρ), i < 3 → mXs (nI 46) (nI i) v S K = K (mPut S 46 i v)) ∧ (∀ (i : Nat) (K : Int32 → Option ρ), i < 3 → mX 8 (nI 47) (nI i) S K = K (S.2.1 47 i)) := ⟨fun _ _ => mG_e h.1 rfl (by decide),
  fun _ _ _ => mP_e h.1 rfl (by decide),
  fun _ => mRc_e h.1 rfl (by decide),
  fun _ _ => mG_e h.1 rfl (by decide),
  fun _ _ _ => mP_e h.1 rfl (by decide),
  fun _ => mRc_e h.1 rfl (by decide),
  fun _ _ => mG_e h.1 rfl (by decide),
  fun _ _ _ => mP_e h.1 rfl (by decide),
  fun _ => mRc_e h.1 rfl (by decide),
  fun _ _ hi => mX_e h.1 rfl (by decide) hi,
  fun _ _ _ hi => mXs_e h.1 rfl hi,
  fun _ _ hi => mX_e h.1 rfl (by decide) hi,
  fun _ _ _ hi => mXs_e h.1 rfl hi,
  fun _ _ hi => mX_e h.1 rfl (by decide) hi,
  fun _ _ _ hi => mXs_e h.1 rfl hi,
  fun _ _ hi => mX_e h.1 rfl (by decide) hi,
  fun _ _ _ hi => mXs_e h.1 rfl hi,
  fun _ _ hi => mX_e h.1 rfl (by decide) hi,
  fun _ _ _ hi => mXs_e h.1 rfl hi,
  fun _ _ hi => mX_e h.1 rfl (by decide) hi,
  fun _ _ _ hi => mXs_e h.1 rfl hi,
  fun _ _ hi => mX_e h.1 rfl (by decide) hi,
  fun _ _ _ hi => mXs_e h.1 rfl hi,
  fun _ _ hi => mX_e h.1 rfl (by decide) hi,
  fun _ _ _ hi => mXs_e h.1 rfl hi,
  fun _ _ hi => mX_e h.1 rfl (by decide) hi,
  fun _ _ _ hi => mXs_e h.1 rfl hi,
  fun _ _ hi => mX_e h.1 rfl (by decide) hi,
  fun _ _ _ hi => mXs_e h.1 rfl hi,
  fun _ _ hi => mX_e h.1 rfl (by decide) hi,
  fun _ _ _ hi => mXs_e h.1 rfl hi,
  fun _ _ hi => mX_e h.1 rfl (by decide) hi,
  fun _ _ _ hi => mXs_e h.1 rfl hi,
  fun _ _ hi => mX_e h.1 rfl (by decide) hi,
  fun _ _ _ hi => mXs_e h.1 rfl hi,
  fun _ _ hi => mX_e h.1 rfl (by decide) hi,
  fun _ _ _ hi => mXs_e h.1 rfl hi,
  fun _ _ hi => mX_e h.1 rfl (by decide) hi,
  fun _ _ _ hi => mXs_e h.1 rfl hi,
  fun _ _ hi => mX_e h.1 rfl (by decide) hi,
  fun _ _ _ hi => mXs_e h.1 rfl hi,
  fun _ _ hi => mX_e h.1 rfl (by decide) hi,
  fun _ _ _ hi => mXs_e h.1 rfl hi,
  fun _ _ hi => mX_e h.1 rfl (by decide) hi,
  fun _ _ _ hi => mXs_e h.1 rfl hi,
  fun _ _ hi => mX_e h.1 rfl (by decide) hi,
  fun _ _ _ hi => mXs_e h.1 rfl hi,
  fun _ _ hi => mX_e h.1 rfl (by decide) hi,
  fun _ _ _ hi => mXs_e h.1 rfl hi,
  fun _ _ hi => mX_e h.1 rfl (by decide) hi,
  fun _ _ _ hi => mXs_e h.1 rfl hi,
  fun _ _ hi => mX_e h.1 rfl (by decide) hi,
  fun _ _ _ hi => mXs_e h.1 rfl hi,
  fun _ _ hi => mX_e h.1 rfl (by decide) hi,
  fun _ _ _ hi => mXs_e h.1 rfl hi,
  fun _ _ hi => mX_e h.1 rfl (by decide) hi,
  fun _ _ _ hi => mXs_e h.1 rfl hi,
  fun _ _ hi => mX_e h.1 rfl (by decide) hi,
  fun _ _ _ hi => mXs_e h.1 rfl hi,
  fun _ _ hi => mX_e h.1 rfl (by decide) hi⟩
theorem gc_4 {S : mS} (h : Ly S) {ρ : Type} : (∀ (i : Nat) (v : Int32) (K : mS → Option ρ), i < 3 → mXs (nI 47) (nI i) v S K = K (mPut S 47 i v)) ∧ (∀ (i : Nat) (K : Int32 → Option ρ), i < 7 → mX 8 (nI 48) (nI i) S K = K (S.2.1 48 i)) ∧ (∀ (i : Nat) (v : Int32) (K : mS → Option ρ), i < 7 → mXs (nI 48) (nI i) v S K = K (mPut S 48 i v)) ∧ (∀ (i : Nat) (K : Int32 → Option ρ), i < 7 → mX 8 (nI 49) (nI i) S K = K (S.2.1 49 i)) ∧ (∀ (i : Nat) (v : Int32) (K : mS → Option ρ), i < 7 → mXs (nI 49) (nI i) v S K = K (mPut S 49 i v)) ∧ (∀ (i : Nat) (K : Int32 → Option ρ), i < 18 → mX 8 (nI 51) (nI i) S K = K (S.2.1 51 i)) ∧ (∀ (i : Nat) (v : Int32) (K : mS → Option ρ), i < 18 → mXs (nI 51) (nI i) v S K = K (mPut S 51 i v)) ∧ (∀ (i : Nat) (K : Int32 → Option ρ), i < 18 → mX 8 (nI 53) (nI i) S K = K (S.2.1 53 i)) ∧ (∀ (i : Nat) (v : Int32) (K : mS → Option ρ), i < 18 → mXs (nI 53) (nI i) v S K = K (mPut S 53 i v)) ∧ (∀ (i : Nat) (K : Int32 → Option ρ), i < 18 → mX 8 (nI 55) (nI i) S K = K (S.2.1 55 i)) ∧ (∀ (i : Nat) (v : Int32) (K : mS → Option ρ), i < 18 → mXs (nI 55) (nI i) v S K = K (mPut S 55 i v)) ∧ (∀ (i : Nat) (K : Int32 → Option ρ), i < 88 → mX 8 (nI 57) (nI i) S K = K (S.2.1 57 i)) ∧ (∀ (i : Nat) (v : Int32) (K : mS → Option ρ), i < 88 → mXs (nI 57) (nI i) v S K = K (mPut S 57 i v)) ∧ (∀ (i : Nat) (K : Int32 → Option ρ), i < 275 → mX 8 (nI 62) (nI i) S K = K (S.2.1 62 i)) ∧ (∀ (i : Nat) (v : Int32) (K : mS → Option ρ), i < 275 → mXs (nI 62) (nI i) v S K = K (mPut S 62 i v)) ∧ (∀ (i : Nat) (K : Int32 → Option ρ), i < 25 → mX 8 (nI 63) (nI i) S K = K (S.2.1 63 i)) ∧ (∀ (i : Nat) (v : Int32) (K : mS → Option ρ), i < 25 → mXs (nI 63) (nI i) v S K = K (mPut S 63 i v)) ∧ (∀ (i : Nat) (K : Int32 → Option ρ), i < 625 → mX 8 (nI 64) (nI i) S K = K (S.2.1 64 i)) ∧ (∀ (i : Nat) (v : Int32) (K : mS → Option ρ), i < 625 → mXs (nI 64) (nI i) v S K = K (mPut S 64 i v)) ∧ (∀ (i : Nat) (K : Int32 → Option ρ), i < 3 → mX 8 (nI 66) (nI i) S K = K (S.2.1 66 i)) ∧ (∀ (i : Nat) (v : Int32) (K : mS → Option ρ), i < 3 → mXs (nI 66) (nI i) v S K = K (mPut S 66 i v)) ∧ (∀ (i : Nat) (K : Int32 → Option ρ), i < 3 → mX 8 (nI 67) (nI i) S K = K (S.2.1 67 i)) ∧ (∀ (i : Nat) (v : Int32) (K : mS → Option ρ), i < 3 → mXs (nI 67) (nI i) v S K = K (mPut S 67 i v)) ∧ (∀ (i : Nat) (K : Int32 → Option ρ), i < 7 → mX 8 (nI 68) (nI i) S K = K (S.2.1 68 i)) ∧ (∀ (i : Nat) (v : Int32) (K : mS → Option ρ), i < 7 → mXs (nI 68) (nI i) v S K = K (mPut S 68 i v)) ∧ (∀ (i : Nat) (K : Int32 → Option ρ), i < 7 → mX 8 (nI 69) (nI i) S K = K (S.2.1 69 i)) ∧ (∀ (i : Nat) (v : Int32) (K : mS → Option ρ), i < 7 → mXs (nI 69) (nI i) v S K = K (mPut S 69 i v)) ∧ (∀ (i : Nat) (K : Int32 → Option ρ), i < 3 → mX 8 (nI 71) (nI i) S K = K (S.2.1 71 i)) ∧ (∀ (i : Nat) (v : Int32) (K : mS → Option ρ), i < 3 → mXs (nI 71) (nI i) v S K = K (mPut S 71 i v)) ∧ (∀ (i : Nat) (K : Int32 → Option ρ), i < 3 → mX 8 (nI 72) (nI i) S K = K (S.2.1 72 i)) ∧ (∀ (i : Nat) (v : Int32) (K : mS → Option ρ), i < 3 → mXs (nI 72) (nI i) v S K = K (mPut S 72 i v)) ∧ (∀ (i : Nat) (K : Int32 → Option ρ), i < 7 → mX 8 (nI 73) (nI i) S K = K (S.2.1 73 i)) ∧ (∀ (i : Nat) (v : Int32) (K : mS → Option ρ), i < 7 → mXs (nI 73) (nI i) v S K = K (mPut S 73 i v)) ∧ (∀ (i : Nat) (K : Int32 → Option ρ), i < 7 → mX 8 (nI 74) (nI i) S K = K (S.2.1 74 i)) ∧ (∀ (i : Nat) (v : Int32) (K : mS → Option ρ), i < 7 → mXs (nI 74) (nI i) v S K = K (mPut S 74 i v)) ∧ (∀ (i : Nat) (K : Int32 → Option ρ), i < 3 → mX 8 (nI 76) (nI i) S K = K (S.2.1 76 i)) ∧ (∀ (i : Nat) (v : Int32) (K : mS → Option ρ), i < 3 → mXs (nI 76) (nI i) v S K = K (mPut S 76 i v)) ∧ (∀ (i : Nat) (K : Int32 → Option ρ), i < 3 → mX 8 (nI 77) (nI i) S K = K (S.2.1 77 i)) ∧ (∀ (i : Nat) (v : Int32) (K : mS → Option ρ), i < 3 → mXs (nI 77) (nI i) v S K = K (mPut S 77 i v)) ∧ (∀ (i : Nat) (K : Int32 → Option ρ), i < 7 → mX 8 (nI 78) (nI i) S K = K (S.2.1 78 i)) ∧ (∀ (i : Nat) (v : Int32) (K : mS → Option ρ), i < 7 → mXs (nI 78) (nI i) v S K = K (mPut S 78 i v)) ∧ (∀ (i : Nat) (K : Int32 → Option ρ), i < 7 → mX 8 (nI 79) (nI i) S K = K (S.2.1 79 i)) ∧ (∀ (i : Nat) (v : Int32) (K : mS → Option ρ), i < 7 → mXs (nI 79) (nI i) v S K = K (mPut S 79 i v)) ∧ (∀ (i : Nat) (K : Int32 → Option ρ), i < 6 → mX 8 (nI 80) (nI i) S K = K (S.2.1 80 i)) ∧ (∀ (i : Nat) (v : Int32) (K : mS → Option ρ), i < 6 → mXs (nI 80) (nI i) v S K = K (mPut S 80 i v)) ∧ (∀ (i : Nat) (K : Int32 → Option ρ), i < 30 → mX 8 (nI 81) (nI i) S K = K (S.2.1 81 i)) ∧ (∀ (i : Nat) (v : Int32) (K : mS → Option ρ), i < 30 → mXs (nI 81) (nI i) v S K = K (mPut S 81 i v)) ∧ (∀ (i : Nat) (K : Int32 → Option ρ), i < 25 → mX 8 (nI 82) (nI i) S K = K (S.2.1 82 i)) ∧ (∀ (i : Nat) (v : Int32) (K : mS → Option ρ), i < 25 → mXs (nI 82) (nI i) v S K = K (mPut S 82 i v)) ∧ (∀ (i : Nat) (K : Int32 → Option ρ), i < 3 → mX 8 (nI 84) (nI i) S K = K (S.2.1 84 i)) ∧ (∀ (i : Nat) (v : Int32) (K : mS → Option ρ), i < 3 → mXs (nI 84) (nI i) v S K = K (mPut S 84 i v)) ∧ (∀ (i : Nat) (K : Int32 → Option ρ), i < 3 → mX 8 (nI 85) (nI i) S K = K (S.2.1 85 i)) ∧ (∀ (i : Nat) (v : Int32) (K : mS → Option ρ), i < 3 → mXs (nI 85) (nI i) v S K = K (mPut S 85 i v)) ∧ (∀ (i : Nat) (K : Int32 → Option ρ), i < 3 → mX 8 (nI 86) (nI i) S K = K (S.2.1 86 i)) ∧ (∀ (i : Nat) (v : Int32) (K : mS → Option ρ), i < 3 → mXs (nI 86) (nI i) v S K = K (mPut S 86 i v)) ∧ (∀ (i : Nat) (K : Int32 → Option ρ), i < 7 → mX 8 (nI 87) (nI i) S K = K (S.2.1 87 i)) ∧ (∀ (i : Nat) (v : Int32) (K : mS → Option ρ), i < 7 → mXs (nI 87) (nI i) v S K = K (mPut S 87 i v)) ∧ (∀ (i : Nat) (K : Int32 → Option ρ), i < 7 → mX 8 (nI 88) (nI i) S K = K (S.2.1 88 i)) ∧ (∀ (i : Nat) (v : Int32) (K : mS → Option ρ), i < 7 → mXs (nI 88) (nI i) v S K = K (mPut S 88 i v)) ∧ (∀ (i : Nat) (K : Int32 → Option ρ), i < 10 → mX 8 (nI 89) (nI i) S K = K (S.2.1 89 i)) := ⟨fun _ _ _ hi => mXs_e h.1 rfl hi,
  fun _ _ hi => mX_e h.1 rfl (by decide) hi,
  fun _ _ _ hi => mXs_e h.1 rfl hi,
  fun _ _ hi => mX_e h.1 rfl (by decide) hi,
  fun _ _ _ hi => mXs_e h.1 rfl hi,
  fun _ _ hi => mX_e h.1 rfl (by decide) hi,
  fun _ _ _ hi => mXs_e h.1 rfl hi,
  fun _ _ hi => mX_e h.1 rfl (by decide) hi,
  fun _ _ _ hi => mXs_e h.1 rfl hi,
  fun _ _ hi => mX_e h.1 rfl (by decide) hi,
  fun _ _ _ hi => mXs_e h.1 rfl hi,
  fun _ _ hi => mX_e h.1 rfl (by decide) hi,
  fun _ _ _ hi => mXs_e h.1 rfl hi,
  fun _ _ hi => mX_e h.1 rfl (by decide) hi,
  fun _ _ _ hi => mXs_e h.1 rfl hi,
  fun _ _ hi => mX_e h.1 rfl (by decide) hi,
  fun _ _ _ hi => mXs_e h.1 rfl hi,
  fun _ _ hi => mX_e h.1 rfl (by decide) hi,
  fun _ _ _ hi => mXs_e h.1 rfl hi,
  fun _ _ hi => mX_e h.1 rfl (by decide) hi,
  fun _ _ _ hi => mXs_e h.1 rfl hi,
  fun _ _ hi => mX_e h.1 rfl (by decide) hi,
  fun _ _ _ hi => mXs_e h.1 rfl hi,
  fun _ _ hi => mX_e h.1 rfl (by decide) hi,
  fun _ _ _ hi => mXs_e h.1 rfl hi,
  fun _ _ hi => mX_e h.1 rfl (by decide) hi,
  fun _ _ _ hi => mXs_e h.1 rfl hi,
  fun _ _ hi => mX_e h.1 rfl (by decide) hi,
  fun _ _ _ hi => mXs_e h.1 rfl hi,
  fun _ _ hi => mX_e h.1 rfl (by decide) hi,
  fun _ _ _ hi => mXs_e h.1 rfl hi,
  fun _ _ hi => mX_e h.1 rfl (by decide) hi,
  fun _ _ _ hi => mXs_e h.1 rfl hi,
  fun _ _ hi => mX_e h.1 rfl (by decide) hi,
  fun _ _ _ hi => mXs_e h.1 rfl hi,
  fun _ _ hi => mX_e h.1 rfl (by decide) hi,
  fun _ _ _ hi => mXs_e h.1 rfl hi,
  fun _ _ hi => mX_e h.1 rfl (by decide) hi,
  fun _ _ _ hi => mXs_e h.1 rfl hi,
  fun _ _ hi => mX_e h.1 rfl (by decide) hi,
  fun _ _ _ hi => mXs_e h.1 rfl hi,
  fun _ _ hi => mX_e h.1 rfl (by decide) hi,
  fun _ _ _ hi => mXs_e h.1 rfl hi,
  fun _ _ hi => mX_e h.1 rfl (by decide) hi,
  fun _ _ _ hi => mXs_e h.1 rfl hi,
  fun _ _ hi => mX_e h.1 rfl (by decide) hi,
  fun _ _ _ hi => mXs_e h.1 rfl hi,
  fun _ _ hi => mX_e h.1 rfl (by decide) hi,
  fun _ _ _ hi => mXs_e h.1 rfl hi,
  fun _ _ hi => mX_e h.1 rfl (by decide) hi,
  fun _ _ _ hi => mXs_e h.1 rfl hi,
  fun _ _ hi => mX_e h.1 rfl (by decide) hi,
  fun _ _ _ hi => mXs_e h.1 rfl hi,
  fun _ _ hi => mX_e h.1 rfl (by decide) hi,
  fun _ _ _ hi => mXs_e h.1 rfl hi,
  fun _ _ hi => mX_e h.1 rfl (by decide) hi,
  fun _ _ _ hi => mXs_e h.1 rfl hi,
  fun _ _ hi => mX_e h.1 rfl (by decide) hi,
  fun _ _ _ hi => mXs_e h.1 rfl hi,
  fun _ _ hi => mX_e h.1 rfl (by decide) hi⟩
theorem gc_5 {S : mS} (h : Ly S) {ρ : Type} : (∀ (i : Nat) (v : Int32) (K : mS → Option ρ), i < 10 → mXs (nI 89) (nI i) v S K = K (mPut S 89 i v)) ∧ (∀ (i : Nat) (K : Int32 → Option ρ), i < 18 → mX 8 (nI 90) (nI i) S K = K (S.2.1 90 i)) ∧ (∀ (i : Nat) (v : Int32) (K : mS → Option ρ), i < 18 → mXs (nI 90) (nI i) v S K = K (mPut S 90 i v)) ∧ (∀ (i : Nat) (K : Int32 → Option ρ), i < 18 → mX 8 (nI 91) (nI i) S K = K (S.2.1 91 i)) ∧ (∀ (i : Nat) (v : Int32) (K : mS → Option ρ), i < 18 → mXs (nI 91) (nI i) v S K = K (mPut S 91 i v)) ∧ (∀ (i : Nat) (K : Int32 → Option ρ), i < 150 → mX 8 (nI 92) (nI i) S K = K (S.2.1 92 i)) ∧ (∀ (i : Nat) (v : Int32) (K : mS → Option ρ), i < 150 → mXs (nI 92) (nI i) v S K = K (mPut S 92 i v)) ∧ (∀ (i : Nat) (K : Int32 → Option ρ), i < 170 → mX 8 (nI 93) (nI i) S K = K (S.2.1 93 i)) ∧ (∀ (i : Nat) (v : Int32) (K : mS → Option ρ), i < 170 → mXs (nI 93) (nI i) v S K = K (mPut S 93 i v)) ∧ (∀ (i : Nat) (K : Int32 → Option ρ), i < 88 → mX 8 (nI 94) (nI i) S K = K (S.2.1 94 i)) ∧ (∀ (i : Nat) (v : Int32) (K : mS → Option ρ), i < 88 → mXs (nI 94) (nI i) v S K = K (mPut S 94 i v)) ∧ (∀ (i : Nat) (K : Int32 → Option ρ), i < 22 → mX 8 (nI 95) (nI i) S K = K (S.2.1 95 i)) ∧ (∀ (i : Nat) (v : Int32) (K : mS → Option ρ), i < 22 → mXs (nI 95) (nI i) v S K = K (mPut S 95 i v)) ∧ (∀ (i : Nat) (K : Int32 → Option ρ), i < 275 → mX 8 (nI 96) (nI i) S K = K (S.2.1 96 i)) ∧ (∀ (i : Nat) (v : Int32) (K : mS → Option ρ), i < 275 → mXs (nI 96) (nI i) v S K = K (mPut S 96 i v)) ∧ (∀ (i : Nat) (K : Int32 → Option ρ), i < 25 → mX 8 (nI 97) (nI i) S K = K (S.2.1 97 i)) ∧ (∀ (i : Nat) (v : Int32) (K : mS → Option ρ), i < 25 → mXs (nI 97) (nI i) v S K = K (mPut S 97 i v)) ∧ (∀ (i : Nat) (K : Int32 → Option ρ), i < 340 → mX 8 (nI 98) (nI i) S K = K (S.2.1 98 i)) ∧ (∀ (i : Nat) (v : Int32) (K : mS → Option ρ), i < 340 → mXs (nI 98) (nI i) v S K = K (mPut S 98 i v)) ∧ (∀ (i : Nat) (K : Int32 → Option ρ), i < 2 → mX 8 (nI 99) (nI i) S K = K (S.2.1 99 i)) ∧ (∀ (i : Nat) (v : Int32) (K : mS → Option ρ), i < 2 → mXs (nI 99) (nI i) v S K = K (mPut S 99 i v)) ∧ (∀ (i : Nat) (K : Int32 → Option ρ), i < 150 → mX 9 (nI 60) (nI i) S K = K (S.2.1 60 i)) ∧ (∀ (i : Nat) (v : Int32) (K : mS → Option ρ), i < 150 → mXb (nI 60) (nI i) v S K = K (mPut S 60 i (vp_nar .byte v))) ∧ (∀ (i : Nat) (K : Int32 → Option ρ), i < 2 → mX 10 (nI 58) (nI i) S K = K (S.2.1 58 i)) ∧ (∀ (i : Nat) (v : Int32) (K : mS → Option ρ), i < 2 → mXz (nI 58) (nI i) v S K = K (mPut S 58 i (vp_nar .boolean v))) ∧ (∀ (j : Nat) (K : Int64 → Option ρ), mGl 7 j (nI 83) S K = K (S.2.2 83 j)) ∧ (∀ (j : Nat) (v : Int64) (K : mS → Option ρ), mPl 7 j (nI 83) v S K = K (mPutL S 83 j v)) := ⟨fun _ _ _ hi => mXs_e h.1 rfl hi,
  fun _ _ hi => mX_e h.1 rfl (by decide) hi,
  fun _ _ _ hi => mXs_e h.1 rfl hi,
  fun _ _ hi => mX_e h.1 rfl (by decide) hi,
  fun _ _ _ hi => mXs_e h.1 rfl hi,
  fun _ _ hi => mX_e h.1 rfl (by decide) hi,
  fun _ _ _ hi => mXs_e h.1 rfl hi,
  fun _ _ hi => mX_e h.1 rfl (by decide) hi,
  fun _ _ _ hi => mXs_e h.1 rfl hi,
  fun _ _ hi => mX_e h.1 rfl (by decide) hi,
  fun _ _ _ hi => mXs_e h.1 rfl hi,
  fun _ _ hi => mX_e h.1 rfl (by decide) hi,
  fun _ _ _ hi => mXs_e h.1 rfl hi,
  fun _ _ hi => mX_e h.1 rfl (by decide) hi,
  fun _ _ _ hi => mXs_e h.1 rfl hi,
  fun _ _ hi => mX_e h.1 rfl (by decide) hi,
  fun _ _ _ hi => mXs_e h.1 rfl hi,
  fun _ _ hi => mX_e h.1 rfl (by decide) hi,
  fun _ _ _ hi => mXs_e h.1 rfl hi,
  fun _ _ hi => mX_e h.1 rfl (by decide) hi,
  fun _ _ _ hi => mXs_e h.1 rfl hi,
  fun _ _ hi => mX_e h.1 rfl (by decide) hi,
  fun _ _ _ hi => mXb_e h.1 rfl hi,
  fun _ _ hi => mX_e h.1 rfl (by decide) hi,
  fun _ _ _ hi => mXz_e h.1 rfl hi,
  fun _ _ => mGl_e h.1 rfl (by decide),
  fun _ _ _ => mPl_e h.1 rfl (by decide)⟩
/-- where the class's herds are -/
def HO (o : Nat) : Prop := o = 2 ∨ o = 16 ∨ o = 31 ∨ o = 45 ∨ o = 65 ∨ o = 70 ∨ o = 75
theorem HO_k {o : Nat} (h : HO o) : o < 76 ∧ mKd o = 1 ∧ (mKd (o + 1) = 8 ∧ mKd (o + 2) = 8 ∧ mKd (o + 3) = 8 ∧ mKd (o + 4) = 8) ∧ (mLn (o + 1) = 3 ∧ mLn (o + 2) = 3 ∧ mLn (o + 3) = 7 ∧ mLn (o + 4) = 7) ∧ (∀ j, j < 4 → cst o j = true ∧ cvl o j = o + 1 + j) ∧ (cst o 4 = false ∧ cst o 5 = false ∧ cst o 6 = false) := by
  unfold HO at h
  rcases h with rfl | rfl | rfl | rfl | rfl | rfl | rfl <;> decide
theorem hgs {S : mS} {o : Nat} (ho : HO o) (h : Ly S) {ρ : Type} : (∀ K : Int32 → Option ρ, mGr 1 0 (nI o) S K = K (nI (o + 1))) ∧ (∀ K : Int32 → Option ρ, mGr 1 1 (nI o) S K = K (nI (o + 2))) ∧ (∀ K : Int32 → Option ρ, mGr 1 2 (nI o) S K = K (nI (o + 3))) ∧ (∀ K : Int32 → Option ρ, mGr 1 3 (nI o) S K = K (nI (o + 4))) ∧ (∀ (j : Nat) (K : Int32 → Option ρ), mG 1 j (nI o) S K = K (S.2.1 o j)) ∧ (∀ (j : Nat) (v : Int32) (K : mS → Option ρ), mP 1 j (nI o) v S K = K (mPut S o j v)) ∧ (∀ a : Option ρ, mRc 1 (nI o) S a = a) ∧ (∀ (i : Nat) (K : Int32 → Option ρ), i < 3 → mX 8 (nI (o + 1)) (nI i) S K = K (S.2.1 (o + 1) i)) ∧ (∀ (i : Nat) (v : Int32) (K : mS → Option ρ), i < 3 → mXs (nI (o + 1)) (nI i) v S K = K (mPut S (o + 1) i v)) ∧ (∀ (i : Nat) (K : Int32 → Option ρ), i < 3 → mX 8 (nI (o + 2)) (nI i) S K = K (S.2.1 (o + 2) i)) ∧ (∀ (i : Nat) (v : Int32) (K : mS → Option ρ), i < 3 → mXs (nI (o + 2)) (nI i) v S K = K (mPut S (o + 2) i v)) ∧ (∀ (i : Nat) (K : Int32 → Option ρ), i < 7 → mX 8 (nI (o + 3)) (nI i) S K = K (S.2.1 (o + 3) i)) ∧ (∀ (i : Nat) (v : Int32) (K : mS → Option ρ), i < 7 → mXs (nI (o + 3)) (nI i) v S K = K (mPut S (o + 3) i v)) ∧ (∀ (i : Nat) (K : Int32 → Option ρ), i < 7 → mX 8 (nI (o + 4)) (nI i) S K = K (S.2.1 (o + 4) i)) ∧ (∀ (i : Nat) (v : Int32) (K : mS → Option ρ), i < 7 → mXs (nI (o + 4)) (nI i) v S K = K (mPut S (o + 4) i v)) := by
  have k := HO_k ho
  exact ⟨fun _ => mGr_e h.1 k.2.1 (by decide) (Ly_at h o 0 (o + 1) (by have := k.1; omega) (k.2.2.2.2.1 0 (by decide)).1 (k.2.2.2.2.1 0 (by decide)).2) (by have := k.1; omega),
  fun _ => mGr_e h.1 k.2.1 (by decide) (Ly_at h o 1 (o + 2) (by have := k.1; omega) (k.2.2.2.2.1 1 (by decide)).1 (k.2.2.2.2.1 1 (by decide)).2) (by have := k.1; omega),
  fun _ => mGr_e h.1 k.2.1 (by decide) (Ly_at h o 2 (o + 3) (by have := k.1; omega) (k.2.2.2.2.1 2 (by decide)).1 (k.2.2.2.2.1 2 (by decide)).2) (by have := k.1; omega),
  fun _ => mGr_e h.1 k.2.1 (by decide) (Ly_at h o 3 (o + 4) (by have := k.1; omega) (k.2.2.2.2.1 3 (by decide)).1 (k.2.2.2.2.1 3 (by decide)).2) (by have := k.1; omega),
  fun _ _ => mG_e h.1 k.2.1 (by decide),
  fun _ _ _ => mP_e h.1 k.2.1 (by decide),
  fun _ => mRc_e h.1 k.2.1 (by decide),
  fun _ _ hi => mX_e h.1 k.2.2.1.1 (by decide) (by rw [k.2.2.2.1.1]; exact hi),
  fun _ _ _ hi => mXs_e h.1 k.2.2.1.1 (by rw [k.2.2.2.1.1]; exact hi),
  fun _ _ hi => mX_e h.1 k.2.2.1.2.1 (by decide) (by rw [k.2.2.2.1.2.1]; exact hi),
  fun _ _ _ hi => mXs_e h.1 k.2.2.1.2.1 (by rw [k.2.2.2.1.2.1]; exact hi),
  fun _ _ hi => mX_e h.1 k.2.2.1.2.2.1 (by decide) (by rw [k.2.2.2.1.2.2.1]; exact hi),
  fun _ _ _ hi => mXs_e h.1 k.2.2.1.2.2.1 (by rw [k.2.2.2.1.2.2.1]; exact hi),
  fun _ _ hi => mX_e h.1 k.2.2.1.2.2.2 (by decide) (by rw [k.2.2.2.1.2.2.2]; exact hi),
  fun _ _ _ hi => mXs_e h.1 k.2.2.1.2.2.2 (by rw [k.2.2.2.1.2.2.2]; exact hi)⟩
/-- what is no constant of the layout -/
theorem hcf {o : Nat} (ho : HO o) : (cst o 4 = false ∧ cst o 5 = false ∧ cst o 6 = false) ∧ (∀ j, cst (o + 1) j = false) ∧ (∀ j, cst (o + 2) j = false) ∧ (∀ j, cst (o + 3) j = false) ∧ (∀ j, cst (o + 4) j = false) := by
  have k := HO_k ho
  exact ⟨k.2.2.2.2.2, fun _ => cst_arr (Or.inl k.2.2.1.1), fun _ => cst_arr (Or.inl k.2.2.1.2.1), fun _ => cst_arr (Or.inl k.2.2.1.2.2.1), fun _ => cst_arr (Or.inl k.2.2.1.2.2.2)⟩
theorem kcf : cst 0 12 = false ∧ cst 0 13 = false ∧ cst 0 14 = false ∧ cst 0 15 = false ∧ cst 0 16 = false ∧ cst 83 1 = false ∧ cst 83 2 = false ∧ cst 83 3 = false ∧ cst 83 4 = false ∧ cst 83 5 = false ∧ cst 83 6 = false ∧ cst 83 7 = false ∧ cst 83 16 = false ∧ cst 83 17 = false ∧ cst 83 18 = false ∧ cst 83 21 = false ∧ cst 59 1 = false ∧ cst 59 2 = false ∧ cst 59 3 = false ∧ cst 59 4 = false ∧ cst 59 5 = false ∧ cst 59 6 = false ∧ cst 59 7 = false ∧ cst 59 8 = false ∧ cst 61 3 = false ∧ cst 61 4 = false ∧ cst 61 5 = false ∧ cst 61 6 = false ∧ cst 61 7 = false ∧ cst 1 5 = false ∧ cst 7 3 = false ∧ cst 9 3 = false ∧ cst 11 3 = false ∧ cst 13 1 = false ∧ cst 2 4 = false ∧ cst 2 5 = false ∧ cst 2 6 = false ∧ cst 15 5 = false ∧ cst 21 3 = false ∧ cst 23 3 = false ∧ cst 25 3 = false ∧ cst 27 1 = false ∧ cst 16 4 = false ∧ cst 16 5 = false ∧ cst 16 6 = false ∧ cst 30 5 = false ∧ cst 36 3 = false ∧ cst 38 3 = false ∧ cst 40 3 = false ∧ cst 42 1 = false ∧ cst 31 4 = false ∧ cst 31 5 = false ∧ cst 31 6 = false ∧ cst 44 5 = false ∧ cst 50 3 = false ∧ cst 52 3 = false ∧ cst 54 3 = false ∧ cst 56 1 = false ∧ cst 45 4 = false ∧ cst 45 5 = false ∧ cst 45 6 = false := by decide
theorem kca : (∀ j, cst 3 j = false) ∧ (∀ j, cst 4 j = false) ∧ (∀ j, cst 5 j = false) ∧ (∀ j, cst 6 j = false) ∧ (∀ j, cst 8 j = false) ∧ (∀ j, cst 10 j = false) ∧ (∀ j, cst 12 j = false) ∧ (∀ j, cst 14 j = false) ∧ (∀ j, cst 17 j = false) ∧ (∀ j, cst 18 j = false) ∧ (∀ j, cst 19 j = false) ∧ (∀ j, cst 20 j = false) ∧ (∀ j, cst 22 j = false) ∧ (∀ j, cst 24 j = false) ∧ (∀ j, cst 26 j = false) ∧ (∀ j, cst 28 j = false) ∧ (∀ j, cst 32 j = false) ∧ (∀ j, cst 33 j = false) ∧ (∀ j, cst 34 j = false) ∧ (∀ j, cst 35 j = false) ∧ (∀ j, cst 37 j = false) ∧ (∀ j, cst 39 j = false) ∧ (∀ j, cst 41 j = false) ∧ (∀ j, cst 43 j = false) ∧ (∀ j, cst 46 j = false) ∧ (∀ j, cst 47 j = false) ∧ (∀ j, cst 48 j = false) ∧ (∀ j, cst 49 j = false) ∧ (∀ j, cst 51 j = false) ∧ (∀ j, cst 53 j = false) ∧ (∀ j, cst 55 j = false) ∧ (∀ j, cst 57 j = false) ∧ (∀ j, cst 58 j = false) ∧ (∀ j, cst 60 j = false) ∧ (∀ j, cst 62 j = false) ∧ (∀ j, cst 63 j = false) ∧ (∀ j, cst 64 j = false) ∧ (∀ j, cst 66 j = false) ∧ (∀ j, cst 67 j = false) ∧ (∀ j, cst 68 j = false) ∧ (∀ j, cst 69 j = false) ∧ (∀ j, cst 71 j = false) ∧ (∀ j, cst 72 j = false) ∧ (∀ j, cst 73 j = false) ∧ (∀ j, cst 74 j = false) ∧ (∀ j, cst 76 j = false) ∧ (∀ j, cst 77 j = false) ∧ (∀ j, cst 78 j = false) ∧ (∀ j, cst 79 j = false) ∧ (∀ j, cst 80 j = false) ∧ (∀ j, cst 81 j = false) ∧ (∀ j, cst 82 j = false) ∧ (∀ j, cst 84 j = false) ∧ (∀ j, cst 85 j = false) ∧ (∀ j, cst 86 j = false) ∧ (∀ j, cst 87 j = false) ∧ (∀ j, cst 88 j = false) ∧ (∀ j, cst 89 j = false) ∧ (∀ j, cst 90 j = false) ∧ (∀ j, cst 91 j = false) ∧ (∀ j, cst 92 j = false) ∧ (∀ j, cst 93 j = false) ∧ (∀ j, cst 94 j = false) ∧ (∀ j, cst 95 j = false) ∧ (∀ j, cst 96 j = false) ∧ (∀ j, cst 97 j = false) ∧ (∀ j, cst 98 j = false) ∧ (∀ j, cst 99 j = false) := ⟨fun _ => cst_arr (Or.inl rfl), fun _ => cst_arr (Or.inl rfl), fun _ => cst_arr (Or.inl rfl), fun _ => cst_arr (Or.inl rfl), fun _ => cst_arr (Or.inl rfl), fun _ => cst_arr (Or.inl rfl), fun _ => cst_arr (Or.inl rfl), fun _ => cst_arr (Or.inl rfl), fun _ => cst_arr (Or.inl rfl), fun _ => cst_arr (Or.inl rfl), fun _ => cst_arr (Or.inl rfl), fun _ => cst_arr (Or.inl rfl), fun _ => cst_arr (Or.inl rfl), fun _ => cst_arr (Or.inl rfl), fun _ => cst_arr (Or.inl rfl), fun _ => cst_arr (Or.inl rfl), fun _ => cst_arr (Or.inl rfl), fun _ => cst_arr (Or.inl rfl), fun _ => cst_arr (Or.inl rfl), fun _ => cst_arr (Or.inl rfl), fun _ => cst_arr (Or.inl rfl), fun _ => cst_arr (Or.inl rfl), fun _ => cst_arr (Or.inl rfl), fun _ => cst_arr (Or.inl rfl), fun _ => cst_arr (Or.inl rfl), fun _ => cst_arr (Or.inl rfl), fun _ => cst_arr (Or.inl rfl), fun _ => cst_arr (Or.inl rfl), fun _ => cst_arr (Or.inl rfl), fun _ => cst_arr (Or.inl rfl), fun _ => cst_arr (Or.inl rfl), fun _ => cst_arr (Or.inl rfl), fun _ => cst_arr (Or.inr (Or.inr rfl)), fun _ => cst_arr (Or.inr (Or.inl rfl)), fun _ => cst_arr (Or.inl rfl), fun _ => cst_arr (Or.inl rfl), fun _ => cst_arr (Or.inl rfl), fun _ => cst_arr (Or.inl rfl), fun _ => cst_arr (Or.inl rfl), fun _ => cst_arr (Or.inl rfl), fun _ => cst_arr (Or.inl rfl), fun _ => cst_arr (Or.inl rfl), fun _ => cst_arr (Or.inl rfl), fun _ => cst_arr (Or.inl rfl), fun _ => cst_arr (Or.inl rfl), fun _ => cst_arr (Or.inl rfl), fun _ => cst_arr (Or.inl rfl), fun _ => cst_arr (Or.inl rfl), fun _ => cst_arr (Or.inl rfl), fun _ => cst_arr (Or.inl rfl), fun _ => cst_arr (Or.inl rfl), fun _ => cst_arr (Or.inl rfl), fun _ => cst_arr (Or.inl rfl), fun _ => cst_arr (Or.inl rfl), fun _ => cst_arr (Or.inl rfl), fun _ => cst_arr (Or.inl rfl), fun _ => cst_arr (Or.inl rfl), fun _ => cst_arr (Or.inl rfl), fun _ => cst_arr (Or.inl rfl), fun _ => cst_arr (Or.inl rfl), fun _ => cst_arr (Or.inl rfl), fun _ => cst_arr (Or.inl rfl), fun _ => cst_arr (Or.inl rfl), fun _ => cst_arr (Or.inl rfl), fun _ => cst_arr (Or.inl rfl), fun _ => cst_arr (Or.inl rfl), fun _ => cst_arr (Or.inl rfl), fun _ => cst_arr (Or.inl rfl)⟩
/-! literals -/
theorem lits : (0 : Int32) = nI 0 ∧ (1 : Int32) = nI 1 ∧ (2 : Int32) = nI 2 ∧ (3 : Int32) = nI 3 ∧ (4 : Int32) = nI 4 ∧ (5 : Int32) = nI 5 ∧ (6 : Int32) = nI 6 ∧ (7 : Int32) = nI 7 ∧ (8 : Int32) = nI 8 ∧ (9 : Int32) = nI 9 ∧ (10 : Int32) = nI 10 ∧ (11 : Int32) = nI 11 ∧ (12 : Int32) = nI 12 ∧ (13 : Int32) = nI 13 ∧ (14 : Int32) = nI 14 ∧ (15 : Int32) = nI 15 ∧ (16 : Int32) = nI 16 ∧ (17 : Int32) = nI 17 ∧ (18 : Int32) = nI 18 ∧ (19 : Int32) = nI 19 ∧ (20 : Int32) = nI 20 ∧ (21 : Int32) = nI 21 ∧ (22 : Int32) = nI 22 ∧ (23 : Int32) = nI 23 ∧ (24 : Int32) = nI 24 ∧ (25 : Int32) = nI 25 ∧ (26 : Int32) = nI 26 ∧ (27 : Int32) = nI 27 ∧ (28 : Int32) = nI 28 ∧ (29 : Int32) = nI 29 ∧ (30 : Int32) = nI 30 ∧ (31 : Int32) = nI 31 ∧ (32 : Int32) = nI 32 ∧ (40 : Int32) = nI 40 ∧ (48 : Int32) = nI 48 ∧ (57 : Int32) = nI 57 ∧ (59 : Int32) = nI 59 ∧ (60 : Int32) = nI 60 ∧ (74 : Int32) = nI 74 ∧ (88 : Int32) = nI 88 ∧ (97 : Int32) = nI 97 ∧ (99 : Int32) = nI 99 ∧ (100 : Int32) = nI 100 ∧ (101 : Int32) = nI 101 ∧ (102 : Int32) = nI 102 ∧ (103 : Int32) = nI 103 ∧ (104 : Int32) = nI 104 ∧ (108 : Int32) = nI 108 ∧ (112 : Int32) = nI 112 ∧ (115 : Int32) = nI 115 ∧ (116 : Int32) = nI 116 ∧ (119 : Int32) = nI 119 ∧ (122 : Int32) = nI 122 ∧ (125 : Int32) = nI 125 ∧ (127 : Int32) = nI 127 ∧ (150 : Int32) = nI 150 ∧ (170 : Int32) = nI 170 ∧ (340 : Int32) = nI 340 ∧ (625 : Int32) = nI 625 ∧ (275 : Int32) = nI 275 ∧ (9999 : Int32) = nI 9999 ∧ (999999 : Int32) = nI 999999 ∧ (1048576 : Int32) = nI 1048576 := by decide +kernel
theorem le_i {a b : Nat} (ha : a < 2147483648) (hb : b < 2147483648) : (nI a ≤ nI b) = (a ≤ b) := propext (nI_leI ha hb)
theorem lt_i {a b : Nat} (ha : a < 2147483648) (hb : b < 2147483648) : (nI a < nI b) = (a < b) := propext (nI_ltI ha hb)
theorem eq_i {a b : Nat} (ha : a < 2147483648) (hb : b < 2147483648) : (nI a = nI b) = (a = b) := propext (nI_eq ha hb)
theorem ng_i {a : Nat} : nI a ≤ nI a := Int32.le_refl _
theorem nI_mul (a b : Nat) : nI a * nI b = nI (a * b) := (Int32.ofNat_mul a b).symm
theorem nI_sub {a b : Nat} (h : b ≤ a) : nI a - nI b = nI (a - b) := by
  obtain ⟨c, rfl⟩ := Nat.exists_eq_add_of_le h
  rw [← nI_add, Nat.add_sub_cancel_left, Int32.add_comm, Int32.add_sub_cancel]
theorem nI_m1 : nI 0 - nI 1 = -1 := by decide +kernel
/-! loops: n is what is left of the fuel, j the round -/
theorem lup {β : Type} (G : Nat → Nat → β) (N : Nat) (st : ∀ n j, j < N → G (n + 1) j = G n (j + 1)) (n : Nat) (hn : N < n) : ∃ m, G n 0 = G (m + 1) N := by
  have h : ∀ d j n, j + d = N → d < n → ∃ m, G n j = G (m + 1) N := by
    intro d
    induction d with
    | zero =>
      intro j n hj hn
      obtain ⟨m, rfl⟩ : ∃ m, n = m + 1 := ⟨n - 1, by omega⟩
      exact ⟨m, by rw [← hj]; rfl⟩
    | succ d ih =>
      intro j n hj hn
      obtain ⟨m, rfl⟩ : ∃ m, n = m + 1 := ⟨n - 1, by omega⟩
      obtain ⟨q, hq⟩ := ih (j + 1) m (by omega) (by omega)
      exact ⟨q, by rw [st m j (by omega), hq]⟩
  exact h N 0 n (by omega) hn
theorem lupI {β σ : Type} (G : Nat → Nat → σ → β) (P : Nat → σ → Prop) (N : Nat) (st : ∀ n j s, j < N → P j s → ∃ s', P (j + 1) s' ∧ G (n + 1) j s = G n (j + 1) s') (n : Nat) (s : σ) (h0 : P 0 s) (hn : N < n) : ∃ m s', P N s' ∧ G n 0 s = G (m + 1) N s' := by
  have h : ∀ d j n s, j + d = N → d < n → P j s → ∃ m s', P N s' ∧ G n j s = G (m + 1) N s' := by
    intro d
    induction d with
    | zero =>
      intro j n s hj hn hp
      obtain ⟨m, rfl⟩ : ∃ m, n = m + 1 := ⟨n - 1, by omega⟩
      obtain rfl : j = N := by omega
      exact ⟨m, s, hp, rfl⟩
    | succ d ih =>
      intro j n s hj hn hp
      obtain ⟨m, rfl⟩ : ∃ m, n = m + 1 := ⟨n - 1, by omega⟩
      obtain ⟨s', hp', he⟩ := st m j s (by omega) hp
      obtain ⟨q, s2, hp2, hq⟩ := ih (j + 1) m s' (by omega) (by omega) hp'
      exact ⟨q, s2, hp2, by rw [he, hq]⟩
  exact h N 0 n s (by omega) hn h0
/-- with a way out: each round goes on, or the loop is over with what R says of the end -/
theorem lupX {β σ : Type} (G : Nat → Nat → σ → β) (P : Nat → σ → Prop) (R : β → Prop) (N : Nat) (st : ∀ n j s, j < N → P j s → R (G (n + 1) j s) ∨ ∃ s', P (j + 1) s' ∧ G (n + 1) j s = G n (j + 1) s') (fi : ∀ n s, P N s → R (G (n + 1) N s)) (n : Nat) (s : σ) (h0 : P 0 s) (hn : N < n) : R (G n 0 s) := by
  have h : ∀ d j n s, j + d = N → d < n → P j s → R (G n j s) := by
    intro d
    induction d with
    | zero =>
      intro j n s hj hn hp
      obtain ⟨m, rfl⟩ : ∃ m, n = m + 1 := ⟨n - 1, by omega⟩
      obtain rfl : j = N := by omega
      exact fi m s hp
    | succ d ih =>
      intro j n s hj hn hp
      obtain ⟨m, rfl⟩ : ∃ m, n = m + 1 := ⟨n - 1, by omega⟩
      rcases st m j s (by omega) hp with hr | ⟨s', hp', he⟩
      · exact hr
      · rw [he]
        exact ih (j + 1) m s' (by omega) (by omega) hp'
  exact h N 0 n s (by omega) hn h0
/-! one call: what the class may touch, what the reference may -/
def TC (S S1 : mS) : Prop := S1.1 = S.1 ∧ (∀ k, (k = 0 ∨ (29 ≤ k ∧ k < 59) ∨ k = 60 ∨ k = 64 ∨ 83 ≤ k) → S1.2.1 k = S.2.1 k) ∧ S1.2.1 59 1 = S.2.1 59 1 ∧ S1.2.1 61 3 = S.2.1 61 3 ∧ S1.2.2 = S.2.2
def TM (S S2 : mS) : Prop := S2.1 = S.1 ∧ (∀ k, (k < 83 ∨ k = 84 ∨ k = 92 ∨ 98 ≤ k) → S2.2.1 k = S.2.1 k) ∧ S2.2.1 83 16 = S.2.1 83 16 ∧ ∀ j, j = 25 ∨ j = 26 → S2.2.2 83 j = S.2.2 83 j
theorem TC_rf {S : mS} : TC S S := ⟨rfl, fun _ _ => rfl, rfl, rfl, rfl⟩
theorem TM_rf {S : mS} : TM S S := ⟨rfl, fun _ _ => rfl, rfl, fun _ _ => rfl⟩
theorem TC_tr {S S1 S2 : mS} (a : TC S S1) (b : TC S1 S2) : TC S S2 := ⟨b.1.trans a.1, fun k h => (b.2.1 k h).trans (a.2.1 k h), b.2.2.1.trans a.2.2.1, b.2.2.2.1.trans a.2.2.2.1, b.2.2.2.2.trans a.2.2.2.2⟩
theorem TM_tr {S S1 S2 : mS} (a : TM S S1) (b : TM S1 S2) : TM S S2 := ⟨b.1.trans a.1, fun k h => (b.2.1 k h).trans (a.2.1 k h), b.2.2.1.trans a.2.2.1, fun j h => (b.2.2.2 j h).trans (a.2.2.2 j h)⟩
theorem TC_fr {S S1 : mS} {lo hi : Nat} (f : Fr lo hi S S1) (h : (1 ≤ lo ∧ hi ≤ 29) ∨ (62 ≤ lo ∧ hi ≤ 64) ∨ (65 ≤ lo ∧ hi ≤ 83)) : TC S S1 := ⟨f.1, fun k hk => f.2.1 k (by omega), by rw [f.2.1 59 (by omega)], by rw [f.2.1 61 (by omega)], f.2.2⟩
theorem TM_fr {S S1 : mS} {lo hi : Nat} (f : Fr lo hi S S1) (h : (85 ≤ lo ∧ hi ≤ 92) ∨ (93 ≤ lo ∧ hi ≤ 98)) : TM S S1 := ⟨f.1, fun k hk => f.2.1 k (by omega), by rw [f.2.1 83 (by omega)], fun j _ => by rw [f.2.2]⟩
theorem TC_put {S : mS} {k j : Nat} {v : Int32} (h : (1 ≤ k ∧ k < 29) ∨ (k = 59 ∧ j ≠ 1) ∨ (k = 61 ∧ j ≠ 3) ∨ k = 62 ∨ k = 63 ∨ (65 ≤ k ∧ k < 83)) : TC S (mPut S k j v) := ⟨rfl, fun q hq => mPut_r _ _ _ _ _ (by omega), by rw [mPut_g, if_neg (by omega)], by rw [mPut_g, if_neg (by omega)], rfl⟩
theorem TM_put {S : mS} {k j : Nat} {v : Int32} (h : (k = 83 ∧ j ≠ 16) ∨ (85 ≤ k ∧ k < 92) ∨ (93 ≤ k ∧ k < 98)) : TM S (mPut S k j v) := ⟨rfl, fun q hq => mPut_r _ _ _ _ _ (by omega), by rw [mPut_g, if_neg (by omega)], fun _ _ => rfl⟩
theorem TM_putL {S : mS} {v : Int64} : TM S (mPutL S 83 29 v) := ⟨rfl, fun _ _ => rfl, rfl, fun j hj => by rw [mPutL_l, if_neg (by omega)]⟩
theorem MK_TC {S S1 : mS} {k : KS} (t : TC S S1) (h : MK S k) : MK S1 k := MK_sa (fun q a b => t.2.1 q (by omega)) h
theorem CK_TM {S S1 : mS} {k : KS} (t : TM S S1) (h : CK S 1 k) : CK S1 1 k := CK_sa (fun q a b => t.2.1 q (by omega)) h
theorem Rest_TC {S S1 : mS} (t : TC S S1) (h : Rest S) : Rest S1 := Rest_sa (fun j _ _ => by rw [t.2.1 0 (by omega)]) (fun q a b => t.2.1 q (by omega)) t.2.2.1 (t.2.1 60 (by omega)) t.2.2.2.1 (t.2.1 64 (by omega)) (by rw [t.2.1 83 (by omega)]) (t.2.1 84 (by omega)) (t.2.1 92 (by omega)) (t.2.1 98 (by omega)) (t.2.1 99 (by omega)) (fun j _ => by rw [t.2.2.2.2]) h
theorem Rest_TM {S S1 : mS} (t : TM S S1) (h : Rest S) : Rest S1 := Rest_sa (fun j _ _ => by rw [t.2.1 0 (by omega)]) (fun q a b => t.2.1 q (by omega)) (by rw [t.2.1 59 (by omega)]) (t.2.1 60 (by omega)) (by rw [t.2.1 61 (by omega)]) (t.2.1 64 (by omega)) t.2.2.1 (t.2.1 84 (by omega)) (t.2.1 92 (by omega)) (t.2.1 98 (by omega)) (t.2.1 99 (by omega)) t.2.2.2 h
/-- the k of both -/
def IK (S : mS) (k : KS) : Prop := Ly S ∧ VK k ∧ CK S 1 k ∧ MK S k ∧ Rest S
theorem Inv_k {S : mS} (h : Inv S) : ∃ k, IK S k := by
  obtain ⟨a, ⟨k, b, c, d⟩, e⟩ := h
  exact ⟨k, a, b, c, d, e⟩
/-- a call that both answer -/
theorem Agr_k {S : mS} {k k' : KS} {e1 e2 : mS → Option (Int32 × mS)} {r : Int32} (H : IK S k) (hv : VK k') (c : ∃ S1, e1 S = some (r, S1) ∧ Ly S1 ∧ CK S1 1 k' ∧ TC S S1) (m : ∀ S1, Ly S1 → MK S1 k → ∃ S2, e2 S1 = some (r, S2) ∧ Ly S2 ∧ MK S2 k' ∧ TM S1 S2) : Agr e1 e2 S := by
  obtain ⟨hL, -, -, hm, hR⟩ := H
  obtain ⟨S1, c1, c2, c3, c4⟩ := c
  obtain ⟨S2, m1, m2, m3, m4⟩ := m S1 c2 (MK_TC c4 hm)
  exact ⟨r, S1, S2, c1, c2.1, m1, m2, ⟨k', hv, CK_TM m4 c3, m3⟩, Rest_TM m4 (Rest_TC c4 hR)⟩
/-- one that both answer and that writes nothing -/
theorem Agr_r {S : mS} {k : KS} {e1 e2 : mS → Option (Int32 × mS)} {r : Int32} (H : IK S k) (c : e1 S = some (r, S)) (m : e2 S = some (r, S)) : Agr e1 e2 S := ⟨r, S, S, c, H.1.1, m, H.1, ⟨k, H.2.1, H.2.2.1, H.2.2.2.1⟩, H.2.2.2.2⟩
/-- one that both refuse -/
theorem Agr_ref {S : mS} {k : KS} {e1 e2 : mS → Option (Int32 × mS)} {v : Int32} (z : Nat) (hz : z < 3) (H : IK S k) (c : e1 S = some (v, mPut S 0 (14 + z) (S.2.1 0 (14 + z) + 1))) (m : ∀ S1, Ly S1 → MK S1 k → e2 S1 = some (v, mPut S1 84 z (S1.2.1 84 z + 1))) : Agr e1 e2 S := by
  have hi : Inv S := ⟨H.1, ⟨k, H.2.1, H.2.2.1, H.2.2.2.1⟩, H.2.2.2.2⟩
  have hL1 : Ly (mPut S 0 (14 + z) (S.2.1 0 (14 + z) + 1)) := Ly_put H.1 (by rcases (show z = 0 ∨ z = 1 ∨ z = 2 by omega) with rfl | rfl | rfl <;> decide)
  exact ⟨v, _, _, c, hL1.1, m _ hL1 (MK_sa (fun q a b => mPut_r _ _ _ _ _ (by omega)) H.2.2.2.1), ref_inv hz hi⟩
/-! checks -/
theorem m1_sub {w : Nat} (h : w < 2147483648) : nI w - nI 1 = if w = 0 then -1 else nI (w - 1) := by
  by_cases h0 : w = 0
  · subst h0
    exact nI_m1
  · rw [if_neg h0, nI_sub (by omega)]
theorem dN_0 (v : Int32) : dN 0 v = false := by
  unfold dN mIn
  simp
theorem dN_of {v : Int32} {N : Nat} (hN : N < 2147483648) : (if ¬ v < 0 ∧ ¬ (nI N - 1) < v then (1 : Int32) else 0) = if dN N v = true then 1 else 0 := by
  have h1 : (1 : Int32) = nI 1 := rfl
  by_cases h0 : N = 0
  · subst h0
    rw [dN_0]
    have : (nI 0 - 1 : Int32) = -1 := nI_m1
    rw [this, if_neg]
    · rfl
    · rintro ⟨a, b⟩
      apply b
      obtain ⟨j, hj, rfl⟩ := nI_of a
      rw [Int32.lt_iff_toInt_lt, nI_toInt hj]
      show (-1 : Int) < _
      omega
  · have e : (nI N - 1 : Int32) = nI (N - 1) := nI_sub (a := N) (b := 1) (by omega)
    rw [e]
    by_cases h : dN N v = true
    · rw [if_pos h, if_pos ((in_dN (by omega) hN).mpr h)]
    · rw [if_neg h, if_neg (fun z => h ((in_dN (by omega) hN).mp z))]
theorem is_dN {v : Int32} (N : Nat) (hN : N < 2147483648) : f_X6_isWithin v 0 (nI N - 1) = some (if dN N v = true then 1 else 0) ∧ f_X7_in v 0 (nI N - 1) = some (if dN N v = true then 1 else 0) := by
  rw [x_in, y_in, dN_of hN]
  exact ⟨rfl, rfl⟩
theorem mZ_ifb {ρ : Type} {c : Bool} {a : Option ρ} : mZ (if c = true then 1 else 0) a = a := by
  cases c <;> rfl
theorem x_hasW {S : mS} {o : Nat} {h : HS} (v : Int32) (ho : HO o) (hL : Ly S) (hr : RH S o h) (hw : h.w ≤ 7) : f_X1_hasWhistle (nI o) v S = some (if dN h.w v = true then 1 else 0) := by
  rw [f_X1_hasWhistle, (hgs ho hL).2.2.2.2.1, hr.1, (is_dN h.w (by omega)).1, mCp_e, mZ_ifb]
theorem x_hasS {S : mS} {o : Nat} {h : HS} (v : Int32) (ho : HO o) (hL : Ly S) (hr : RH S o h) (hw : h.f ≤ 7) : f_X1_hasSheep (nI o) v S = some (if dN h.f v = true then 1 else 0) := by
  rw [f_X1_hasSheep, (hgs ho hL).2.2.2.2.1, hr.2.1, (is_dN h.f (by omega)).1, mCp_e, mZ_ifb]
theorem y_hasW {S : mS} {h : HS} (v : Int32) (hL : Ly S) (hr : RM S h) (hw : h.w ≤ 7) : f_X7_isWhistle (nI 83) v S = some (if dN h.w v = true then 1 else 0) := by
  rw [f_X7_isWhistle, mG_e hL.1 k83 (by decide), hr.1, (is_dN h.w (by omega)).2, mCp_e, mZ_ifb]
theorem y_hasS {S : mS} {h : HS} (v : Int32) (hL : Ly S) (hr : RM S h) (hw : h.f ≤ 7) : f_X7_isSheep (nI 83) v S = some (if dN h.f v = true then 1 else 0) := by
  rw [f_X7_isSheep, mG_e hL.1 k83 (by decide), hr.2.1, (is_dN h.f (by omega)).2, mCp_e, mZ_ifb]
theorem x_cell (v : Int32) : f_X6_isCell v = some (if dN 25 v = true then 1 else 0) := by
  rw [f_X6_isCell, show (24 : Int32) = nI 25 - 1 from rfl, (is_dN 25 (by decide)).1, mCp_e, mZ_ifb]
theorem y_cell (v : Int32) : f_X7_isCell v = some (if dN 25 v = true then 1 else 0) := by
  rw [f_X7_isCell, show (24 : Int32) = nI 25 - 1 from rfl, (is_dN 25 (by decide)).2, mCp_e, mZ_ifb]
theorem x_kind (v : Int32) : f_X6_isKind v = some (if dN 6 v = true then 1 else 0) := by
  rw [f_X6_isKind, show (5 : Int32) = nI 6 - 1 from rfl, (is_dN 6 (by decide)).1, mCp_e, mZ_ifb]
theorem x_iscall (v : Int32) : f_X6_isCall v = some (if dN 5 v = true then 1 else 0) := by
  rw [f_X6_isCall, show (4 : Int32) = nI 5 - 1 from rfl, (is_dN 5 (by decide)).1, mCp_e, mZ_ifb]
theorem y_iscall (v : Int32) : f_X7_isCall v = some (if dN 5 v = true then 1 else 0) := by
  rw [f_X7_isCall, show (4 : Int32) = nI 5 - 1 from rfl, (is_dN 5 (by decide)).2, mCp_e, mZ_ifb]
theorem x_isimage (v : Int32) : f_X6_isImage v = some (if dN 2 v = true then 1 else 0) := by
  rw [f_X6_isImage, show f_X6_isWithin v 0 1 = _ from (is_dN 2 (by decide)).1, mCp_e, mZ_ifb]
theorem i_in (v : Int32) : (f_X7_in v 0 5 = some (if dN 6 v = true then 1 else 0) ∧ f_X7_in v 0 1 = some (if dN 2 v = true then 1 else 0) ∧ f_X7_in v 0 2 = some (if dN 3 v = true then 1 else 0) ∧ f_X7_in v 0 9 = some (if dN 10 v = true then 1 else 0) ∧ f_X7_in v 0 8 = some (if dN 9 v = true then 1 else 0) ∧ f_X7_in v 0 99 = some (if dN 100 v = true then 1 else 0) ∧ f_X7_in v 0 20 = some (if dN 21 v = true then 1 else 0) ∧ f_X7_in v 0 10 = some (if dN 11 v = true then 1 else 0) ∧ f_X7_in v 0 127 = some (if dN 128 v = true then 1 else 0) ∧ f_X7_in v 0 60 = some (if dN 61 v = true then 1 else 0) ∧ f_X7_in v 0 999999 = some (if dN 1000000 v = true then 1 else 0)) ∧ f_X6_isWithin v 0 5 = some (if dN 6 v = true then 1 else 0) ∧ f_X6_isWithin v 0 1 = some (if dN 2 v = true then 1 else 0) ∧ f_X6_isWithin v 0 2 = some (if dN 3 v = true then 1 else 0) ∧ f_X6_isWithin v 0 9 = some (if dN 10 v = true then 1 else 0) ∧ f_X6_isWithin v 0 8 = some (if dN 9 v = true then 1 else 0) ∧ f_X6_isWithin v 0 99 = some (if dN 100 v = true then 1 else 0) ∧ f_X6_isWithin v 0 20 = some (if dN 21 v = true then 1 else 0) ∧ f_X6_isWithin v 0 10 = some (if dN 11 v = true then 1 else 0) ∧ f_X6_isWithin v 0 127 = some (if dN 128 v = true then 1 else 0) ∧ f_X6_isWithin v 0 60 = some (if dN 61 v = true then 1 else 0) ∧ f_X6_isWithin v 0 999999 = some (if dN 1000000 v = true then 1 else 0) :=
  ⟨⟨(is_dN 6 (by decide)).2, (is_dN 2 (by decide)).2, (is_dN 3 (by decide)).2, (is_dN 10 (by decide)).2, (is_dN 9 (by decide)).2, (is_dN 100 (by decide)).2, (is_dN 21 (by decide)).2, (is_dN 11 (by decide)).2, (is_dN 128 (by decide)).2, (is_dN 61 (by decide)).2, (is_dN 1000000 (by decide)).2⟩, (is_dN 6 (by decide)).1, (is_dN 2 (by decide)).1, (is_dN 3 (by decide)).1, (is_dN 10 (by decide)).1, (is_dN 9 (by decide)).1, (is_dN 100 (by decide)).1, (is_dN 21 (by decide)).1, (is_dN 11 (by decide)).1, (is_dN 128 (by decide)).1, (is_dN 61 (by decide)).1, (is_dN 1000000 (by decide)).1⟩

