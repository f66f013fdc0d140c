-- THE BEGINNING
def g00 : SG := (0, fun _ => 0, fun _ => 0, fun _ => 0)
def b00 : BT := (10, [])
def cs00 : CS := (100, fun _ => 0, fun _ => false)
set_option maxRecDepth 20000 in
theorem bg_envC : EnvC h0 g00 (semB b00) := by
  refine ⟨rfl, by decide, fun c _ => ⟨rfl, Nat.zero_le _⟩, fun c _ => ⟨rfl, Nat.zero_le _⟩, fun i _ => ⟨rfl, Nat.zero_le _⟩, fun c hc => absurd hc (Nat.not_lt_zero c), rfl, semB_ok ?_⟩
  exact ⟨by decide, by decide, by decide, fun q hq => absurd hq List.not_mem_nil⟩
set_option maxRecDepth 20000 in
theorem bg_repC : RepC h0 6 cs00 := ⟨rfl, fun i _ => ⟨rfl, Nat.zero_le _, rfl⟩⟩
set_option maxRecDepth 20000 in
theorem bg_mask : maskOK (h0.1 102 1) cs00.2.2 := ⟨0, by decide, rfl, fun c _ => by show (0 : Nat).testBit c = false; exact Nat.zero_testBit c⟩
set_option maxRecDepth 20000 in
theorem bg_repM : RepM h0 cs00 := ⟨rfl, bg_mask, fun c _ => ⟨rfl, Nat.zero_le _⟩⟩
set_option maxRecDepth 20000 in
theorem bg_envM : EnvM h0 g00 b00 := ⟨rfl, by decide, fun c _ => ⟨rfl, Nat.zero_le _⟩, fun c _ => ⟨rfl, Nat.zero_le _⟩, fun i _ => ⟨rfl, Nat.zero_le _⟩, Or.inl ⟨rfl, rfl⟩, Or.inl rfl⟩
set_option maxRecDepth 20000 in
theorem bg_let : ∀ i, i < 12 → h0.1 115 i = lettersL.getD i 0 := by decide +kernel
set_option maxRecDepth 20000 in
theorem bg_tap : TapS h0 h0 := by
  intro t ht
  refine ⟨5, 0, by decide, by decide, fun _ => rfl, ?_⟩
  match t, ht with
  | 0, _ => exact ⟨rfl, rfl, rfl, rfl, fun _ _ => rfl⟩
  | 1, _ => exact ⟨rfl, rfl, rfl, rfl, fun _ _ => rfl⟩
  | 2, _ => exact ⟨rfl, rfl, rfl, rfl, fun _ _ => rfl⟩
  | 3, _ => exact ⟨rfl, rfl, rfl, rfl, fun _ _ => rfl⟩
  | 4, _ => exact ⟨rfl, rfl, rfl, rfl, fun _ _ => rfl⟩
  | 5, _ => exact ⟨rfl, rfl, rfl, rfl, fun _ _ => rfl⟩
  | n + 6, h => exact absurd h (by omega)
set_option maxRecDepth 20000 in
theorem bg_rest : Rest h0 h0 0 := by
  refine ⟨⟨0, fun _ => 0, ⟨rfl, by decide, fun i hi => absurd hi (Nat.not_lt_zero i)⟩, ⟨rfl, by decide, fun i hi => absurd hi (Nat.not_lt_zero i)⟩, bg_let⟩, ⟨0, by decide, rfl, rfl, Or.inl rfl, Or.inl rfl, Or.inl rfl, Or.inl rfl⟩, ⟨rfl, rfl, rfl⟩, ⟨0, by decide, rfl, rfl, fun i hi => absurd hi (Nat.not_lt_zero i)⟩, ⟨0, by decide, rfl, rfl, fun i hi => absurd hi (Nat.not_lt_zero i)⟩, ⟨0, by decide, rfl, rfl, fun i hi => absurd hi (Nat.not_lt_zero i)⟩, Or.inl ⟨rfl, rfl⟩, ⟨0, by decide, rfl, rfl, fun i hi => absurd hi (Nat.not_lt_zero i)⟩, bg_tap⟩
theorem bg_sim : Sim h0 h0 := ⟨g00, b00, cs00, ⟨bg_envC, bg_repC, rfl⟩, ⟨bg_envM, bg_repM, rfl⟩, by decide, bg_rest⟩
