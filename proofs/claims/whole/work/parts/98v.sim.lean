-- ===== the invariant holds at the start, every call keeps it, and the room is enough =====
theorem sim_ops : SimOps Inv := by
  refine ⟨fun S k M x1 x2 x3 x4 x5 h => Op_inv (K := KP) (op_put FU (by decide) x1 x2 x3 x4 x5) S k M h, fun S k M h => Op_inv (K := KP) (op_wipe FU) S k M h, fun S k M x1 x2 h => Op_inv (K := KP) (op_cell FU (by decide) x1 x2) S k M h, fun S k M x1 h => Op_inv (K := KP) (op_redo FU (by decide) x1) S k M h, fun S k M x1 h => Op_inv (K := KP) (op_rerun FU (by decide) x1) S k M h, fun S k M h => Op_inv (K := KP) (op_rerunStale FU (by decide)) S k M h, fun S k M x1 h => Op_inv (K := KP) (op_forget FU x1) S k M h, fun S k M x1 x2 h => Op_inv (K := KP) (op_of FU x1 x2) S k M h, fun S k M x1 x2 h => Op_inv (K := KP) (op_leans FU x1 x2) S k M h, fun S k M x1 h => Op_inv (K := KP) (op_stale FU (by decide) x1) S k M h, fun S k M x1 x2 x3 h => Op_inv (K := KP) (op_written FU x1 x2 x3) S k M h, fun S k M x1 h => Op_inv (K := KP) (op_count FU x1) S k M h, fun S k M x1 h => Op_inv (K := KP) (op_newest FU x1) S k M h, fun S k M x1 x2 h => Op_inv (K := KP) (op_edition FU (by decide) x1 x2) S k M h, fun S k M x1 h => Op_inv (K := KP) (op_classOf FU x1) S k M h, fun S k M x1 x2 x3 h => Op_inv (K := KP) (op_field FU x1 x2 x3) S k M h, fun S k M x1 x2 h => Op_inv (K := KP) (op_is FU (by decide) x1 x2) S k M h, fun S k M x1 x2 x3 h => Op_inv (K := KP) (op_call FU (by decide) x1 x2 x3) S k M h, fun S k M x1 h => Op_inv (K := KP) (op_came FU x1) S k M h, fun S k M x1 x2 h => Op_inv (K := KP) (op_convert FU (by decide) x1 x2) S k M h⟩
theorem tri2 : ∀ n, 2 * tri n = n * (n + 1)
  | 0 => rfl
  | n + 1 => by
    show 2 * (tri n + (n + 1)) = (n + 1) * (n + 1 + 1)
    have := tri2 n
    rw [Nat.mul_add, this, Nat.mul_add (n + 1) (n + 1) 1, Nat.add_mul n 1 (n + 1), Nat.one_mul, Nat.mul_one]
    omega
theorem al_le {o : Option CS} {f : Int32} {g : Nat → Int32} {ns : Nat → Nat} (h : Pl o f g ns) : al1 o ns ≤ 348 ∧ al2 o ns ≤ 1519157 := by
  cases o with
  | none => exact ⟨Nat.zero_le _, Nat.zero_le _⟩
  | some I =>
    obtain ⟨_, y, hI, _⟩ := h
    have h5 : ns 5 ≤ 40 := (hI.2 5 (by omega) (by omega)).2.2.2.2
    have h6 : ns 6 ≤ 150 := (hI.2 6 (by omega) (by omega)).2.2.2.2
    have h7 : ns 7 ≤ 150 := (hI.2 7 (by omega) (by omega)).2.2.2.2
    have t5 := tri_le h5
    have t6 := tri_le h6
    have t7 := tri_le h7
    have e5 := tri2 40
    have e6 := tri2 150
    refine ⟨?_, ?_⟩
    · show 8 + (ns 5 + ns 6 + ns 7) ≤ 348
      omega
    · show 1032 + (125 * tri (ns 5) + 104 * tri (ns 6) + 21 * tri (ns 7)) ≤ 1519157
      omega
theorem sim_room : SimRoom Inv := by
  intro S k M hI
  obtain ⟨x, hC, hM, ns, h1, h2, h3⟩ := hI
  obtain ⟨_, _, _, ms, g1, g2, g3⟩ := hC
  have a0 := al_le (h1 0 (by omega))
  have a1 := al_le (h1 1 (by omega))
  have b0 : ms 0 ≤ 4 := (g1 0 (by omega)).2.2
  have b1 : ms 1 ≤ 4 := (g1 1 (by omega)).2.2
  have b2 : ms 2 ≤ 20 := (g1 2 (by omega)).2.2
  have b3 : ms 3 ≤ 1260 := (g1 3 (by omega)).2.2
  have b4 : ms 4 ≤ 21 := (g1 4 (by omega)).2.2
  have b5 : ms 5 ≤ 40 := (g1 5 (by omega)).2.2
  have b6 : ms 6 ≤ 150 := (g1 6 (by omega)).2.2
  have b7 : ms 7 ≤ 150 := (g1 7 (by omega)).2.2
  have t0 := tri_le b0
  have t1 := tri_le b1
  have t2 := tri_le b2
  have t3 := tri_le b3
  have t4 := tri_le b4
  have t5 := tri_le b5
  have t6 := tri_le b6
  have t7 := tri_le b7
  have e0 := tri2 4
  have e2 := tri2 20
  have e3 := tri2 1260
  have e4 := tri2 21
  have e5 := tri2 40
  have e6 := tri2 150
  have g2 : S.2 1 ≤ x.2.2.2.1 + (ms 0 + ms 1 + ms 2 + ms 3 + ms 4 + ms 5 + ms 6 + ms 7) := g2
  have g3 : S.2 2 ≤ x.2.2.2.2 + (2 * tri (ms 0) + 3 * tri (ms 1) + 2 * tri (ms 2) + 2 * tri (ms 3) + 8 * tri (ms 4) + 125 * tri (ms 5) + 104 * tri (ms 6) + 21 * tri (ms 7)) := g3
  refine ⟨?_, ?_⟩
  · show S.2 1 ≤ 500000
    omega
  · show S.2 2 ≤ 7100000
    omega
theorem inv_0 : Inv S00 (fun _ => none) M0 := by
  have hk8 : ∀ k, k < 8 → k = 0 ∨ k = 1 ∨ k = 2 ∨ k = 3 ∨ k = 4 ∨ k = 5 ∨ k = 6 ∨ k = 7 := fun k hk => by omega
  refine ⟨(S00.1, fun _ => 0, fun _ _ _ => 0, 0, 0), ⟨fun _ _ => rfl, fun k hk => ?_, fun k r c hk hr => absurd hr (Nat.not_lt_zero _), ⟨fun _ => 4, fun k hk => ?_, Nat.zero_le _, Nat.zero_le _⟩⟩, ⟨⟨⟨Nat.zero_le _, Nat.zero_le _, Nat.zero_le _⟩, fun c hc => absurd hc (Nat.not_lt_zero _), fun c hc => absurd hc (Nat.not_lt_zero _), fun c hc => absurd hc (Nat.not_lt_zero _), fun j hj => Or.inl ?_⟩, ⟨⟨rfl, rfl, rfl, fun j hj => ?_⟩, fun c hc => absurd hc (Nat.not_lt_zero _), fun c hc => absurd hc (Nat.not_lt_zero _), fun c hc => absurd hc (Nat.not_lt_zero _)⟩, ⟨0, Nat.zero_le _, rfl, rfl, fun i hi => absurd hi (Nat.not_lt_zero _)⟩, ⟨rfl, rfl, rfl, rfl⟩, fun c hc => absurd hc (Nat.not_lt_zero _)⟩, fun _ _ => 0, fun z hz => ?_, Nat.zero_le _, Nat.zero_le _⟩
  · rcases hk8 k hk with rfl | rfl | rfl | rfl | rfl | rfl | rfl | rfl <;> exact sOk_iff.mpr ⟨rfl, rfl, rfl, Nat.zero_le _, by rw [Nat.zero_mul]; exact Nat.zero_le _, by decide, by decide, by decide, by decide, by decide⟩
  · rcases hk8 k hk with rfl | rfl | rfl | rfl | rfl | rfl | rfl | rfl <;> exact ⟨rfl, Nat.le_refl _, by decide⟩
  · show (if 0 ≤ j ∧ j < 16 then (-1 : Int32) else 0) = -1
    rw [if_pos ⟨Nat.zero_le _, hj⟩]
  · show (0 : Int32) = (if 0 ≤ j ∧ j < 16 then (-1 : Int32) else 0) + nI 1
    rw [if_pos ⟨Nat.zero_le _, hj⟩]
    decide
  · show (0 : Int32) = nI 0
    rfl
