/-! ===== the layout: component numbers ===== -/
def qlay (ca : Nat → ClassId) (ad : Nat → Nat) : Nat → qLay
  | 0 => qOb 5 (fun r => [.ref (ad 1), .ref (ad 14), .ref (ad 27), .ref (ad 38), .ref (ad 46), .int (qI (r 5)), .int (qI (r 6))])
  | 1 => qOb 3 (fun r => [.ref (ad (1 + 1)), .ref (ad (1 + 2)), .ref (ad (1 + 3)), .ref (ad (1 + 4)), .ref (ad (1 + 5)), .ref (ad (1 + 6)), .ref (ad (1 + 7)), .ref (ad (1 + 8)), .ref (ad (1 + 9)), .ref (ad (1 + 10)), .ref (ad (1 + 11)), .ref (ad (1 + 12)), .int (qI (r 12))])
  | 2 => qAI (ca 0) 96
  | 3 => qAI (ca 0) 96
  | 4 => qAI (ca 0) 96
  | 5 => qAI (ca 0) 96
  | 6 => qAI (ca 0) 96
  | 7 => qAI (ca 0) 96
  | 8 => qAI (ca 0) 4
  | 9 => qAI (ca 0) 4
  | 10 => qAI (ca 0) 4
  | 11 => qAI (ca 0) 4
  | 12 => qAI (ca 0) 4
  | 13 => qAI (ca 0) 4
  | 14 => qOb 3 (fun r => [.ref (ad (14 + 1)), .ref (ad (14 + 2)), .ref (ad (14 + 3)), .ref (ad (14 + 4)), .ref (ad (14 + 5)), .ref (ad (14 + 6)), .ref (ad (14 + 7)), .ref (ad (14 + 8)), .ref (ad (14 + 9)), .ref (ad (14 + 10)), .ref (ad (14 + 11)), .ref (ad (14 + 12)), .int (qI (r 12))])
  | 15 => qAI (ca 0) 96
  | 16 => qAI (ca 0) 96
  | 17 => qAI (ca 0) 96
  | 18 => qAI (ca 0) 96
  | 19 => qAI (ca 0) 96
  | 20 => qAI (ca 0) 96
  | 21 => qAI (ca 0) 4
  | 22 => qAI (ca 0) 4
  | 23 => qAI (ca 0) 4
  | 24 => qAI (ca 0) 4
  | 25 => qAI (ca 0) 4
  | 26 => qAI (ca 0) 4
  | 27 => qOb 0 (fun r => [.ref (ad 28), .ref (ad 29), .int (qI (r 2)), .long (qJ (r 3))])
  | 28 => qAR (ca 2) 4 (fun j => ad (30 + j))
  | 29 => qAR (ca 2) 4 (fun j => ad (34 + j))
  | 30 => qAI (ca 0) 96
  | 31 => qAI (ca 0) 96
  | 32 => qAI (ca 0) 96
  | 33 => qAI (ca 0) 96
  | 34 => qAI (ca 0) 96
  | 35 => qAI (ca 0) 96
  | 36 => qAI (ca 0) 96
  | 37 => qAI (ca 0) 96
  | 38 => qOb 1 (fun r => [.ref (ad 39), .ref (ad 40), .ref (ad 41), .int (qI (r 3))])
  | 39 => qAI (ca 0) 4
  | 40 => qAI (ca 0) 4
  | 41 => qAR (ca 3) 4 (fun j => ad (42 + j))
  | 42 => qAI (ca 1) 5000
  | 43 => qAI (ca 1) 5000
  | 44 => qAI (ca 1) 5000
  | 45 => qAI (ca 1) 5000
  | 46 => qAI (ca 0) 4
  | _ => qAI (ca 0) 0
def qBC (g : qG) (ad : Nat → Nat) (w : qWd) : Prop := ∀ k, k < 47 → w k = some (ad k, qlay g.2 ad k)
theorem lw0 {g : qG} {ad : Nat → Nat} {w : qWd} (h : qBC g ad w) : w 0 = some (ad 0, qOb 5 (fun r => [.ref (ad 1), .ref (ad 14), .ref (ad 27), .ref (ad 38), .ref (ad 46), .int (qI (r 5)), .int (qI (r 6))])) := h 0 (by decide)
theorem lw1 {g : qG} {ad : Nat → Nat} {w : qWd} (h : qBC g ad w) : w 1 = some (ad 1, qOb 3 (fun r => [.ref (ad (1 + 1)), .ref (ad (1 + 2)), .ref (ad (1 + 3)), .ref (ad (1 + 4)), .ref (ad (1 + 5)), .ref (ad (1 + 6)), .ref (ad (1 + 7)), .ref (ad (1 + 8)), .ref (ad (1 + 9)), .ref (ad (1 + 10)), .ref (ad (1 + 11)), .ref (ad (1 + 12)), .int (qI (r 12))])) := h 1 (by decide)
theorem lw2 {g : qG} {ad : Nat → Nat} {w : qWd} (h : qBC g ad w) : w 2 = some (ad 2, qAI (g.2 0) 96) := h 2 (by decide)
theorem lw3 {g : qG} {ad : Nat → Nat} {w : qWd} (h : qBC g ad w) : w 3 = some (ad 3, qAI (g.2 0) 96) := h 3 (by decide)
theorem lw4 {g : qG} {ad : Nat → Nat} {w : qWd} (h : qBC g ad w) : w 4 = some (ad 4, qAI (g.2 0) 96) := h 4 (by decide)
theorem lw5 {g : qG} {ad : Nat → Nat} {w : qWd} (h : qBC g ad w) : w 5 = some (ad 5, qAI (g.2 0) 96) := h 5 (by decide)
theorem lw6 {g : qG} {ad : Nat → Nat} {w : qWd} (h : qBC g ad w) : w 6 = some (ad 6, qAI (g.2 0) 96) := h 6 (by decide)
theorem lw7 {g : qG} {ad : Nat → Nat} {w : qWd} (h : qBC g ad w) : w 7 = some (ad 7, qAI (g.2 0) 96) := h 7 (by decide)
theorem lw8 {g : qG} {ad : Nat → Nat} {w : qWd} (h : qBC g ad w) : w 8 = some (ad 8, qAI (g.2 0) 4) := h 8 (by decide)
theorem lw9 {g : qG} {ad : Nat → Nat} {w : qWd} (h : qBC g ad w) : w 9 = some (ad 9, qAI (g.2 0) 4) := h 9 (by decide)
theorem lw10 {g : qG} {ad : Nat → Nat} {w : qWd} (h : qBC g ad w) : w 10 = some (ad 10, qAI (g.2 0) 4) := h 10 (by decide)
theorem lw11 {g : qG} {ad : Nat → Nat} {w : qWd} (h : qBC g ad w) : w 11 = some (ad 11, qAI (g.2 0) 4) := h 11 (by decide)
theorem lw12 {g : qG} {ad : Nat → Nat} {w : qWd} (h : qBC g ad w) : w 12 = some (ad 12, qAI (g.2 0) 4) := h 12 (by decide)
theorem lw13 {g : qG} {ad : Nat → Nat} {w : qWd} (h : qBC g ad w) : w 13 = some (ad 13, qAI (g.2 0) 4) := h 13 (by decide)
theorem lw14 {g : qG} {ad : Nat → Nat} {w : qWd} (h : qBC g ad w) : w 14 = some (ad 14, qOb 3 (fun r => [.ref (ad (14 + 1)), .ref (ad (14 + 2)), .ref (ad (14 + 3)), .ref (ad (14 + 4)), .ref (ad (14 + 5)), .ref (ad (14 + 6)), .ref (ad (14 + 7)), .ref (ad (14 + 8)), .ref (ad (14 + 9)), .ref (ad (14 + 10)), .ref (ad (14 + 11)), .ref (ad (14 + 12)), .int (qI (r 12))])) := h 14 (by decide)
theorem lw15 {g : qG} {ad : Nat → Nat} {w : qWd} (h : qBC g ad w) : w 15 = some (ad 15, qAI (g.2 0) 96) := h 15 (by decide)
theorem lw16 {g : qG} {ad : Nat → Nat} {w : qWd} (h : qBC g ad w) : w 16 = some (ad 16, qAI (g.2 0) 96) := h 16 (by decide)
theorem lw17 {g : qG} {ad : Nat → Nat} {w : qWd} (h : qBC g ad w) : w 17 = some (ad 17, qAI (g.2 0) 96) := h 17 (by decide)
theorem lw18 {g : qG} {ad : Nat → Nat} {w : qWd} (h : qBC g ad w) : w 18 = some (ad 18, qAI (g.2 0) 96) := h 18 (by decide)
theorem lw19 {g : qG} {ad : Nat → Nat} {w : qWd} (h : qBC g ad w) : w 19 = some (ad 19, qAI (g.2 0) 96) := h 19 (by decide)
theorem lw20 {g : qG} {ad : Nat → Nat} {w : qWd} (h : qBC g ad w) : w 20 = some (ad 20, qAI (g.2 0) 96) := h 20 (by decide)
theorem lw21 {g : qG} {ad : Nat → Nat} {w : qWd} (h : qBC g ad w) : w 21 = some (ad 21, qAI (g.2 0) 4) := h 21 (by decide)
theorem lw22 {g : qG} {ad : Nat → Nat} {w : qWd} (h : qBC g ad w) : w 22 = some (ad 22, qAI (g.2 0) 4) := h 22 (by decide)
theorem lw23 {g : qG} {ad : Nat → Nat} {w : qWd} (h : qBC g ad w) : w 23 = some (ad 23, qAI (g.2 0) 4) := h 23 (by decide)
theorem lw24 {g : qG} {ad : Nat → Nat} {w : qWd} (h : qBC g ad w) : w 24 = some (ad 24, qAI (g.2 0) 4) := h 24 (by decide)
theorem lw25 {g : qG} {ad : Nat → Nat} {w : qWd} (h : qBC g ad w) : w 25 = some (ad 25, qAI (g.2 0) 4) := h 25 (by decide)
theorem lw26 {g : qG} {ad : Nat → Nat} {w : qWd} (h : qBC g ad w) : w 26 = some (ad 26, qAI (g.2 0) 4) := h 26 (by decide)
theorem lw27 {g : qG} {ad : Nat → Nat} {w : qWd} (h : qBC g ad w) : w 27 = some (ad 27, qOb 0 (fun r => [.ref (ad 28), .ref (ad 29), .int (qI (r 2)), .long (qJ (r 3))])) := h 27 (by decide)
theorem lw28 {g : qG} {ad : Nat → Nat} {w : qWd} (h : qBC g ad w) : w 28 = some (ad 28, qAR (g.2 2) 4 (fun j => ad (30 + j))) := h 28 (by decide)
theorem lw29 {g : qG} {ad : Nat → Nat} {w : qWd} (h : qBC g ad w) : w 29 = some (ad 29, qAR (g.2 2) 4 (fun j => ad (34 + j))) := h 29 (by decide)
theorem lw30 {g : qG} {ad : Nat → Nat} {w : qWd} (h : qBC g ad w) : w 30 = some (ad 30, qAI (g.2 0) 96) := h 30 (by decide)
theorem lw31 {g : qG} {ad : Nat → Nat} {w : qWd} (h : qBC g ad w) : w 31 = some (ad 31, qAI (g.2 0) 96) := h 31 (by decide)
theorem lw32 {g : qG} {ad : Nat → Nat} {w : qWd} (h : qBC g ad w) : w 32 = some (ad 32, qAI (g.2 0) 96) := h 32 (by decide)
theorem lw33 {g : qG} {ad : Nat → Nat} {w : qWd} (h : qBC g ad w) : w 33 = some (ad 33, qAI (g.2 0) 96) := h 33 (by decide)
theorem lw34 {g : qG} {ad : Nat → Nat} {w : qWd} (h : qBC g ad w) : w 34 = some (ad 34, qAI (g.2 0) 96) := h 34 (by decide)
theorem lw35 {g : qG} {ad : Nat → Nat} {w : qWd} (h : qBC g ad w) : w 35 = some (ad 35, qAI (g.2 0) 96) := h 35 (by decide)
theorem lw36 {g : qG} {ad : Nat → Nat} {w : qWd} (h : qBC g ad w) : w 36 = some (ad 36, qAI (g.2 0) 96) := h 36 (by decide)
theorem lw37 {g : qG} {ad : Nat → Nat} {w : qWd} (h : qBC g ad w) : w 37 = some (ad 37, qAI (g.2 0) 96) := h 37 (by decide)
theorem lw38 {g : qG} {ad : Nat → Nat} {w : qWd} (h : qBC g ad w) : w 38 = some (ad 38, qOb 1 (fun r => [.ref (ad 39), .ref (ad 40), .ref (ad 41), .int (qI (r 3))])) := h 38 (by decide)
theorem lw39 {g : qG} {ad : Nat → Nat} {w : qWd} (h : qBC g ad w) : w 39 = some (ad 39, qAI (g.2 0) 4) := h 39 (by decide)
theorem lw40 {g : qG} {ad : Nat → Nat} {w : qWd} (h : qBC g ad w) : w 40 = some (ad 40, qAI (g.2 0) 4) := h 40 (by decide)
theorem lw41 {g : qG} {ad : Nat → Nat} {w : qWd} (h : qBC g ad w) : w 41 = some (ad 41, qAR (g.2 3) 4 (fun j => ad (42 + j))) := h 41 (by decide)
theorem lw42 {g : qG} {ad : Nat → Nat} {w : qWd} (h : qBC g ad w) : w 42 = some (ad 42, qAI (g.2 1) 5000) := h 42 (by decide)
theorem lw43 {g : qG} {ad : Nat → Nat} {w : qWd} (h : qBC g ad w) : w 43 = some (ad 43, qAI (g.2 1) 5000) := h 43 (by decide)
theorem lw44 {g : qG} {ad : Nat → Nat} {w : qWd} (h : qBC g ad w) : w 44 = some (ad 44, qAI (g.2 1) 5000) := h 44 (by decide)
theorem lw45 {g : qG} {ad : Nat → Nat} {w : qWd} (h : qBC g ad w) : w 45 = some (ad 45, qAI (g.2 1) 5000) := h 45 (by decide)
theorem lw46 {g : qG} {ad : Nat → Nat} {w : qWd} (h : qBC g ad w) : w 46 = some (ad 46, qAI (g.2 0) 4) := h 46 (by decide)
theorem lwB {g : qG} {ad : Nat → Nat} {w : qWd} (h : qBC g ad w) {B : Nat} (hB : B = 1 ∨ B = 14) : w B = some (ad B, qOb 3 (fun r => [.ref (ad (B + 1)), .ref (ad (B + 2)), .ref (ad (B + 3)), .ref (ad (B + 4)), .ref (ad (B + 5)), .ref (ad (B + 6)), .ref (ad (B + 7)), .ref (ad (B + 8)), .ref (ad (B + 9)), .ref (ad (B + 10)), .ref (ad (B + 11)), .ref (ad (B + 12)), .int (qI (r 12))])) := by
  rcases hB with rfl | rfl
  · exact lw1 h
  · exact lw14 h
theorem lwB_kinds {g : qG} {ad : Nat → Nat} {w : qWd} (h : qBC g ad w) {B : Nat} (hB : B = 1 ∨ B = 14) : w (B + 1) = some (ad (B + 1), qAI (g.2 0) 96) := by
  rcases hB with rfl | rfl
  · exact lw2 h
  · exact lw15 h
theorem lwB_bodies {g : qG} {ad : Nat → Nat} {w : qWd} (h : qBC g ad w) {B : Nat} (hB : B = 1 ∨ B = 14) : w (B + 2) = some (ad (B + 2), qAI (g.2 0) 96) := by
  rcases hB with rfl | rfl
  · exact lw3 h
  · exact lw16 h
theorem lwB_particles {g : qG} {ad : Nat → Nat} {w : qWd} (h : qBC g ad w) {B : Nat} (hB : B = 1 ∨ B = 14) : w (B + 3) = some (ad (B + 3), qAI (g.2 0) 96) := by
  rcases hB with rfl | rfl
  · exact lw4 h
  · exact lw17 h
theorem lwB_dyed {g : qG} {ad : Nat → Nat} {w : qWd} (h : qBC g ad w) {B : Nat} (hB : B = 1 ∨ B = 14) : w (B + 4) = some (ad (B + 4), qAI (g.2 0) 96) := by
  rcases hB with rfl | rfl
  · exact lw5 h
  · exact lw18 h
theorem lwB_hoppedParticles {g : qG} {ad : Nat → Nat} {w : qWd} (h : qBC g ad w) {B : Nat} (hB : B = 1 ∨ B = 14) : w (B + 5) = some (ad (B + 5), qAI (g.2 0) 96) := by
  rcases hB with rfl | rfl
  · exact lw6 h
  · exact lw19 h
theorem lwB_hoppedDyed {g : qG} {ad : Nat → Nat} {w : qWd} (h : qBC g ad w) {B : Nat} (hB : B = 1 ∨ B = 14) : w (B + 6) = some (ad (B + 6), qAI (g.2 0) 96) := by
  rcases hB with rfl | rfl
  · exact lw7 h
  · exact lw20 h
theorem lwB_hits {g : qG} {ad : Nat → Nat} {w : qWd} (h : qBC g ad w) {B : Nat} (hB : B = 1 ∨ B = 14) : w (B + 7) = some (ad (B + 7), qAI (g.2 0) 4) := by
  rcases hB with rfl | rfl
  · exact lw8 h
  · exact lw21 h
theorem lwB_pushRight {g : qG} {ad : Nat → Nat} {w : qWd} (h : qBC g ad w) {B : Nat} (hB : B = 1 ∨ B = 14) : w (B + 8) = some (ad (B + 8), qAI (g.2 0) 4) := by
  rcases hB with rfl | rfl
  · exact lw9 h
  · exact lw22 h
theorem lwB_pushUp {g : qG} {ad : Nat → Nat} {w : qWd} (h : qBC g ad w) {B : Nat} (hB : B = 1 ∨ B = 14) : w (B + 9) = some (ad (B + 9), qAI (g.2 0) 4) := by
  rcases hB with rfl | rfl
  · exact lw10 h
  · exact lw23 h
theorem lwB_came {g : qG} {ad : Nat → Nat} {w : qWd} (h : qBC g ad w) {B : Nat} (hB : B = 1 ∨ B = 14) : w (B + 10) = some (ad (B + 10), qAI (g.2 0) 4) := by
  rcases hB with rfl | rfl
  · exact lw11 h
  · exact lw24 h
theorem lwB_gone {g : qG} {ad : Nat → Nat} {w : qWd} (h : qBC g ad w) {B : Nat} (hB : B = 1 ∨ B = 14) : w (B + 11) = some (ad (B + 11), qAI (g.2 0) 4) := by
  rcases hB with rfl | rfl
  · exact lw12 h
  · exact lw25 h
theorem lwB_struck {g : qG} {ad : Nat → Nat} {w : qWd} (h : qBC g ad w) {B : Nat} (hB : B = 1 ∨ B = 14) : w (B + 12) = some (ad (B + 12), qAI (g.2 0) 4) := by
  rcases hB with rfl | rfl
  · exact lw13 h
  · exact lw26 h
theorem lw_rows {g : qG} {ad : Nat → Nat} {w : qWd} (h : qBC g ad w) {j : Nat} (hj : j < 4) : w (30 + j) = some (ad (30 + j), qAI (g.2 0) 96) := by
  match j, hj with
  | 0, _ => exact lw30 h
  | 1, _ => exact lw31 h
  | 2, _ => exact lw32 h
  | 3, _ => exact lw33 h
theorem lw_moved {g : qG} {ad : Nat → Nat} {w : qWd} (h : qBC g ad w) {j : Nat} (hj : j < 4) : w (34 + j) = some (ad (34 + j), qAI (g.2 0) 96) := by
  match j, hj with
  | 0, _ => exact lw34 h
  | 1, _ => exact lw35 h
  | 2, _ => exact lw36 h
  | 3, _ => exact lw37 h
theorem lw_prow {g : qG} {ad : Nat → Nat} {w : qWd} (h : qBC g ad w) {j : Nat} (hj : j < 4) : w (42 + j) = some (ad (42 + j), qAI (g.2 1) 5000) := by
  match j, hj with
  | 0, _ => exact lw42 h
  | 1, _ => exact lw43 h
  | 2, _ => exact lw44 h
  | 3, _ => exact lw45 h
abbrev qrm0 : Room := { frames := 7, cells := 0, slots := 0, locals := 120 }
abbrev qrm1 : Room := { frames := 8, cells := 0, slots := 0, locals := 160 }
abbrev qrm2 : Room := { frames := 9, cells := 0, slots := 0, locals := 200 }
abbrev qrm3 : Room := { frames := 10, cells := 0, slots := 0, locals := 240 }
abbrev qrm4 : Room := { frames := 11, cells := 0, slots := 0, locals := 280 }
abbrev qrm5 : Room := { frames := 12, cells := 0, slots := 0, locals := 320 }
abbrev qrm6 : Room := { frames := 13, cells := 0, slots := 0, locals := 360 }
abbrev qrm7 : Room := { frames := 14, cells := 0, slots := 0, locals := 400 }
abbrev qrm8 : Room := { frames := 15, cells := 0, slots := 0, locals := 440 }
abbrev qrm9 : Room := { frames := 16, cells := 0, slots := 0, locals := 480 }
abbrev qrm10 : Room := { frames := 17, cells := 0, slots := 0, locals := 520 }
abbrev qrm11 : Room := { frames := 18, cells := 0, slots := 0, locals := 560 }
abbrev qrm12 : Room := { frames := 19, cells := 0, slots := 0, locals := 600 }
abbrev qrm13 : Room := { frames := 20, cells := 0, slots := 0, locals := 640 }
abbrev qrm14 : Room := { frames := 21, cells := 0, slots := 0, locals := 680 }
abbrev qrm15 : Room := { frames := 22, cells := 0, slots := 0, locals := 720 }
abbrev qrm16 : Room := { frames := 23, cells := 0, slots := 0, locals := 760 }
abbrev qrm17 : Room := { frames := 24, cells := 0, slots := 0, locals := 800 }
abbrev qrm18 : Room := { frames := 25, cells := 0, slots := 0, locals := 840 }
abbrev qrm19 : Room := { frames := 26, cells := 0, slots := 0, locals := 880 }
abbrev qrm20 : Room := { frames := 27, cells := 0, slots := 0, locals := 920 }
abbrev qrm21 : Room := { frames := 28, cells := 0, slots := 0, locals := 960 }
abbrev qrm22 : Room := { frames := 29, cells := 0, slots := 0, locals := 1000 }
abbrev qrm23 : Room := { frames := 30, cells := 0, slots := 0, locals := 1040 }
