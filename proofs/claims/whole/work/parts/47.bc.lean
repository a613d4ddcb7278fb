section BC
def bcN (x : Nat) : Nat :=
  let v1 := x - ((x >>> 1) &&& 1431655765)
  let v2 := (v1 &&& 858993459) + ((v1 >>> 2) &&& 858993459)
  let v3 := (v2 + (v2 >>> 4)) &&& 252645135
  let v4 := v3 + (v3 >>> 8)
  let v5 := v4 + (v4 >>> 16)
  v5 &&& 63
def pcN : Nat → Nat → Nat
  | 0, _ => 0
  | n + 1, x => x % 2 + pcN n (x / 2)
def bcQ (x : Nat) : Bool := Nat.beq (bcN x) (pcN 16 x)
def bcL (q : Nat → Bool) : Nat → Nat → Bool
  | 0, _ => true
  | n + 1, b => q b && bcL q n (b + 1)
def bcA : Nat → Nat → Bool
  | 0, _ => true
  | n + 1, b => bcL bcQ 256 b && bcA n (b + 256)
theorem bc_t0 : bcA 16 0 = true := by decide +kernel
theorem bc_t1 : bcA 16 4096 = true := by decide +kernel
theorem bc_t2 : bcA 16 8192 = true := by decide +kernel
theorem bc_t3 : bcA 16 12288 = true := by decide +kernel
theorem bc_t4 : bcA 16 16384 = true := by decide +kernel
theorem bc_t5 : bcA 16 20480 = true := by decide +kernel
theorem bc_t6 : bcA 16 24576 = true := by decide +kernel
theorem bc_t7 : bcA 16 28672 = true := by decide +kernel
theorem bc_t8 : bcA 16 32768 = true := by decide +kernel
theorem bc_t9 : bcA 16 36864 = true := by decide +kernel
theorem bc_t10 : bcA 16 40960 = true := by decide +kernel
theorem bc_t11 : bcA 16 45056 = true := by decide +kernel
theorem bc_t12 : bcA 16 49152 = true := by decide +kernel
theorem bc_t13 : bcA 16 53248 = true := by decide +kernel
theorem bc_t14 : bcA 16 57344 = true := by decide +kernel
theorem bc_t15 : bcA 16 61440 = true := by decide +kernel
theorem bcL_at {q : Nat → Bool} : ∀ (n b : Nat), bcL q n b = true → ∀ k, k < n → q (b + k) = true
  | 0, _, _, k, hk => absurd hk (Nat.not_lt_zero _)
  | n + 1, b, h, k, hk => by
    rw [bcL, Bool.and_eq_true] at h
    rcases k with _ | k
    · exact h.1
    · have := bcL_at n (b + 1) h.2 k (by omega)
      rwa [show b + 1 + k = b + (k + 1) by omega] at this
theorem bcA_at : ∀ (n b : Nat), bcA n b = true → ∀ a k, a < n → k < 256 → bcQ (b + 256 * a + k) = true
  | 0, _, _, a, _, ha, _ => absurd ha (Nat.not_lt_zero _)
  | n + 1, b, h, a, k, ha, hk => by
    rw [bcA, Bool.and_eq_true] at h
    rcases a with _ | a
    · have := bcL_at 256 b h.1 k hk
      rwa [show b + 256 * 0 + k = b + k by omega]
    · have := bcA_at n (b + 256) h.2 a k (by omega) hk
      rwa [show b + 256 + 256 * a + k = b + 256 * (a + 1) + k by omega] at this
theorem bcN_pc {x : Nat} (h : x < 65536) : bcN x = pcN 16 x := by
  have key : ∀ c, bcA 16 (4096 * c) = true → x / 4096 = c → bcN x = pcN 16 x := by
    intro c hc e
    have := bcA_at 16 (4096 * c) hc (x % 4096 / 256) (x % 256) (by omega) (by omega)
    rw [show 4096 * c + 256 * (x % 4096 / 256) + x % 256 = x by omega] at this
    exact Nat.eq_of_beq_eq_true this
  by_cases e0 : x / 4096 = 0
  · exact key 0 bc_t0 e0
  by_cases e1 : x / 4096 = 1
  · exact key 1 bc_t1 e1
  by_cases e2 : x / 4096 = 2
  · exact key 2 bc_t2 e2
  by_cases e3 : x / 4096 = 3
  · exact key 3 bc_t3 e3
  by_cases e4 : x / 4096 = 4
  · exact key 4 bc_t4 e4
  by_cases e5 : x / 4096 = 5
  · exact key 5 bc_t5 e5
  by_cases e6 : x / 4096 = 6
  · exact key 6 bc_t6 e6
  by_cases e7 : x / 4096 = 7
  · exact key 7 bc_t7 e7
  by_cases e8 : x / 4096 = 8
  · exact key 8 bc_t8 e8
  by_cases e9 : x / 4096 = 9
  · exact key 9 bc_t9 e9
  by_cases e10 : x / 4096 = 10
  · exact key 10 bc_t10 e10
  by_cases e11 : x / 4096 = 11
  · exact key 11 bc_t11 e11
  by_cases e12 : x / 4096 = 12
  · exact key 12 bc_t12 e12
  by_cases e13 : x / 4096 = 13
  · exact key 13 bc_t13 e13
  by_cases e14 : x / 4096 = 14
  · exact key 14 bc_t14 e14
  by_cases e15 : x / 4096 = 15
  · exact key 15 bc_t15 e15
  omega
theorem pc_le : ∀ (n x : Nat), pcN n x ≤ n
  | 0, _ => Nat.le_refl _
  | n + 1, x => by
    have := pc_le n (x / 2)
    rw [pcN]
    omega
theorem pc_ct : ∀ (n x : Nat), pcN n x = fb_ct (fun j => x.testBit j) n
  | 0, _ => rfl
  | n + 1, x => by
    have h := fb_ct_split (fun j => x.testBit j) 1 n
    rw [Nat.add_comm 1 n] at h
    rw [h, pcN, pc_ct n (x / 2)]
    congr 1
    · show x % 2 = 0 + (if x.testBit 0 = true then 1 else 0)
      rw [Nat.testBit_zero]
      have : x % 2 = 0 ∨ x % 2 = 1 := by omega
      rcases this with e | e <;> simp [e]
    · apply fb_ct_cong
      intro k _
      rw [Nat.add_comm 1 k, Nat.testBit_succ]
end BC
