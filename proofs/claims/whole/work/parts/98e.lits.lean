/-! comparisons with fixed numbers -/
set_option maxHeartbeats 200000 in
theorem iIl0 {s : Int} (h : R32 s) : iI s < 0 ↔ s < 0 := iI_lt (b := 0) h ⟨by decide, by decide⟩
set_option maxHeartbeats 200000 in
theorem iIe0 {s : Int} (h : R32 s) : iI s ≤ 0 ↔ s ≤ 0 := iI_le (b := 0) h ⟨by decide, by decide⟩
set_option maxHeartbeats 200000 in
theorem iIg0 {s : Int} (h : R32 s) : 0 ≤ iI s ↔ 0 ≤ s := iI_le (a := 0) ⟨by decide, by decide⟩ h
set_option maxHeartbeats 200000 in
theorem iIh0 {s : Int} (h : R32 s) : 0 < iI s ↔ 0 < s := iI_lt (a := 0) ⟨by decide, by decide⟩ h
set_option maxHeartbeats 200000 in
theorem iIq0 {s : Int} (h : R32 s) : iI s = 0 ↔ s = 0 := iI_eq (b := 0) h ⟨by decide, by decide⟩
set_option maxHeartbeats 200000 in
theorem iIl1 {s : Int} (h : R32 s) : iI s < 1 ↔ s < 1 := iI_lt (b := 1) h ⟨by decide, by decide⟩
set_option maxHeartbeats 200000 in
theorem iIe1 {s : Int} (h : R32 s) : iI s ≤ 1 ↔ s ≤ 1 := iI_le (b := 1) h ⟨by decide, by decide⟩
set_option maxHeartbeats 200000 in
theorem iIg1 {s : Int} (h : R32 s) : 1 ≤ iI s ↔ 1 ≤ s := iI_le (a := 1) ⟨by decide, by decide⟩ h
set_option maxHeartbeats 200000 in
theorem iIh1 {s : Int} (h : R32 s) : 1 < iI s ↔ 1 < s := iI_lt (a := 1) ⟨by decide, by decide⟩ h
set_option maxHeartbeats 200000 in
theorem iIq1 {s : Int} (h : R32 s) : iI s = 1 ↔ s = 1 := iI_eq (b := 1) h ⟨by decide, by decide⟩
set_option maxHeartbeats 200000 in
theorem iIl2 {s : Int} (h : R32 s) : iI s < 2 ↔ s < 2 := iI_lt (b := 2) h ⟨by decide, by decide⟩
set_option maxHeartbeats 200000 in
theorem iIe2 {s : Int} (h : R32 s) : iI s ≤ 2 ↔ s ≤ 2 := iI_le (b := 2) h ⟨by decide, by decide⟩
set_option maxHeartbeats 200000 in
theorem iIg2 {s : Int} (h : R32 s) : 2 ≤ iI s ↔ 2 ≤ s := iI_le (a := 2) ⟨by decide, by decide⟩ h
set_option maxHeartbeats 200000 in
theorem iIh2 {s : Int} (h : R32 s) : 2 < iI s ↔ 2 < s := iI_lt (a := 2) ⟨by decide, by decide⟩ h
set_option maxHeartbeats 200000 in
theorem iIq2 {s : Int} (h : R32 s) : iI s = 2 ↔ s = 2 := iI_eq (b := 2) h ⟨by decide, by decide⟩
set_option maxHeartbeats 200000 in
theorem iIl3 {s : Int} (h : R32 s) : iI s < 3 ↔ s < 3 := iI_lt (b := 3) h ⟨by decide, by decide⟩
set_option maxHeartbeats 200000 in
theorem iIe3 {s : Int} (h : R32 s) : iI s ≤ 3 ↔ s ≤ 3 := iI_le (b := 3) h ⟨by decide, by decide⟩
set_option maxHeartbeats 200000 in
theorem iIg3 {s : Int} (h : R32 s) : 3 ≤ iI s ↔ 3 ≤ s := iI_le (a := 3) ⟨by decide, by decide⟩ h
set_option maxHeartbeats 200000 in
theorem iIh3 {s : Int} (h : R32 s) : 3 < iI s ↔ 3 < s := iI_lt (a := 3) ⟨by decide, by decide⟩ h
set_option maxHeartbeats 200000 in
theorem iIq3 {s : Int} (h : R32 s) : iI s = 3 ↔ s = 3 := iI_eq (b := 3) h ⟨by decide, by decide⟩
set_option maxHeartbeats 200000 in
theorem iIl4 {s : Int} (h : R32 s) : iI s < 4 ↔ s < 4 := iI_lt (b := 4) h ⟨by decide, by decide⟩
set_option maxHeartbeats 200000 in
theorem iIe4 {s : Int} (h : R32 s) : iI s ≤ 4 ↔ s ≤ 4 := iI_le (b := 4) h ⟨by decide, by decide⟩
set_option maxHeartbeats 200000 in
theorem iIg4 {s : Int} (h : R32 s) : 4 ≤ iI s ↔ 4 ≤ s := iI_le (a := 4) ⟨by decide, by decide⟩ h
set_option maxHeartbeats 200000 in
theorem iIh4 {s : Int} (h : R32 s) : 4 < iI s ↔ 4 < s := iI_lt (a := 4) ⟨by decide, by decide⟩ h
set_option maxHeartbeats 200000 in
theorem iIq4 {s : Int} (h : R32 s) : iI s = 4 ↔ s = 4 := iI_eq (b := 4) h ⟨by decide, by decide⟩
set_option maxHeartbeats 200000 in
theorem iIl5 {s : Int} (h : R32 s) : iI s < 5 ↔ s < 5 := iI_lt (b := 5) h ⟨by decide, by decide⟩
set_option maxHeartbeats 200000 in
theorem iIe5 {s : Int} (h : R32 s) : iI s ≤ 5 ↔ s ≤ 5 := iI_le (b := 5) h ⟨by decide, by decide⟩
set_option maxHeartbeats 200000 in
theorem iIg5 {s : Int} (h : R32 s) : 5 ≤ iI s ↔ 5 ≤ s := iI_le (a := 5) ⟨by decide, by decide⟩ h
set_option maxHeartbeats 200000 in
theorem iIh5 {s : Int} (h : R32 s) : 5 < iI s ↔ 5 < s := iI_lt (a := 5) ⟨by decide, by decide⟩ h
set_option maxHeartbeats 200000 in
theorem iIq5 {s : Int} (h : R32 s) : iI s = 5 ↔ s = 5 := iI_eq (b := 5) h ⟨by decide, by decide⟩
set_option maxHeartbeats 200000 in
theorem iIl6 {s : Int} (h : R32 s) : iI s < 6 ↔ s < 6 := iI_lt (b := 6) h ⟨by decide, by decide⟩
set_option maxHeartbeats 200000 in
theorem iIe6 {s : Int} (h : R32 s) : iI s ≤ 6 ↔ s ≤ 6 := iI_le (b := 6) h ⟨by decide, by decide⟩
set_option maxHeartbeats 200000 in
theorem iIg6 {s : Int} (h : R32 s) : 6 ≤ iI s ↔ 6 ≤ s := iI_le (a := 6) ⟨by decide, by decide⟩ h
set_option maxHeartbeats 200000 in
theorem iIh6 {s : Int} (h : R32 s) : 6 < iI s ↔ 6 < s := iI_lt (a := 6) ⟨by decide, by decide⟩ h
set_option maxHeartbeats 200000 in
theorem iIq6 {s : Int} (h : R32 s) : iI s = 6 ↔ s = 6 := iI_eq (b := 6) h ⟨by decide, by decide⟩
set_option maxHeartbeats 200000 in
theorem iIl7 {s : Int} (h : R32 s) : iI s < 7 ↔ s < 7 := iI_lt (b := 7) h ⟨by decide, by decide⟩
set_option maxHeartbeats 200000 in
theorem iIe7 {s : Int} (h : R32 s) : iI s ≤ 7 ↔ s ≤ 7 := iI_le (b := 7) h ⟨by decide, by decide⟩
set_option maxHeartbeats 200000 in
theorem iIg7 {s : Int} (h : R32 s) : 7 ≤ iI s ↔ 7 ≤ s := iI_le (a := 7) ⟨by decide, by decide⟩ h
set_option maxHeartbeats 200000 in
theorem iIh7 {s : Int} (h : R32 s) : 7 < iI s ↔ 7 < s := iI_lt (a := 7) ⟨by decide, by decide⟩ h
set_option maxHeartbeats 200000 in
theorem iIq7 {s : Int} (h : R32 s) : iI s = 7 ↔ s = 7 := iI_eq (b := 7) h ⟨by decide, by decide⟩
set_option maxHeartbeats 200000 in
theorem iIl8 {s : Int} (h : R32 s) : iI s < 8 ↔ s < 8 := iI_lt (b := 8) h ⟨by decide, by decide⟩
set_option maxHeartbeats 200000 in
theorem iIe8 {s : Int} (h : R32 s) : iI s ≤ 8 ↔ s ≤ 8 := iI_le (b := 8) h ⟨by decide, by decide⟩
set_option maxHeartbeats 200000 in
theorem iIg8 {s : Int} (h : R32 s) : 8 ≤ iI s ↔ 8 ≤ s := iI_le (a := 8) ⟨by decide, by decide⟩ h
set_option maxHeartbeats 200000 in
theorem iIh8 {s : Int} (h : R32 s) : 8 < iI s ↔ 8 < s := iI_lt (a := 8) ⟨by decide, by decide⟩ h
set_option maxHeartbeats 200000 in
theorem iIq8 {s : Int} (h : R32 s) : iI s = 8 ↔ s = 8 := iI_eq (b := 8) h ⟨by decide, by decide⟩
set_option maxHeartbeats 200000 in
theorem iIl9 {s : Int} (h : R32 s) : iI s < 9 ↔ s < 9 := iI_lt (b := 9) h ⟨by decide, by decide⟩
set_option maxHeartbeats 200000 in
theorem iIe9 {s : Int} (h : R32 s) : iI s ≤ 9 ↔ s ≤ 9 := iI_le (b := 9) h ⟨by decide, by decide⟩
set_option maxHeartbeats 200000 in
theorem iIg9 {s : Int} (h : R32 s) : 9 ≤ iI s ↔ 9 ≤ s := iI_le (a := 9) ⟨by decide, by decide⟩ h
set_option maxHeartbeats 200000 in
theorem iIh9 {s : Int} (h : R32 s) : 9 < iI s ↔ 9 < s := iI_lt (a := 9) ⟨by decide, by decide⟩ h
set_option maxHeartbeats 200000 in
theorem iIq9 {s : Int} (h : R32 s) : iI s = 9 ↔ s = 9 := iI_eq (b := 9) h ⟨by decide, by decide⟩
set_option maxHeartbeats 200000 in
theorem iIl10 {s : Int} (h : R32 s) : iI s < 10 ↔ s < 10 := iI_lt (b := 10) h ⟨by decide, by decide⟩
set_option maxHeartbeats 200000 in
theorem iIe10 {s : Int} (h : R32 s) : iI s ≤ 10 ↔ s ≤ 10 := iI_le (b := 10) h ⟨by decide, by decide⟩
set_option maxHeartbeats 200000 in
theorem iIg10 {s : Int} (h : R32 s) : 10 ≤ iI s ↔ 10 ≤ s := iI_le (a := 10) ⟨by decide, by decide⟩ h
set_option maxHeartbeats 200000 in
theorem iIh10 {s : Int} (h : R32 s) : 10 < iI s ↔ 10 < s := iI_lt (a := 10) ⟨by decide, by decide⟩ h
set_option maxHeartbeats 200000 in
theorem iIq10 {s : Int} (h : R32 s) : iI s = 10 ↔ s = 10 := iI_eq (b := 10) h ⟨by decide, by decide⟩
set_option maxHeartbeats 200000 in
theorem iIl12 {s : Int} (h : R32 s) : iI s < 12 ↔ s < 12 := iI_lt (b := 12) h ⟨by decide, by decide⟩
set_option maxHeartbeats 200000 in
theorem iIe12 {s : Int} (h : R32 s) : iI s ≤ 12 ↔ s ≤ 12 := iI_le (b := 12) h ⟨by decide, by decide⟩
set_option maxHeartbeats 200000 in
theorem iIg12 {s : Int} (h : R32 s) : 12 ≤ iI s ↔ 12 ≤ s := iI_le (a := 12) ⟨by decide, by decide⟩ h
set_option maxHeartbeats 200000 in
theorem iIh12 {s : Int} (h : R32 s) : 12 < iI s ↔ 12 < s := iI_lt (a := 12) ⟨by decide, by decide⟩ h
set_option maxHeartbeats 200000 in
theorem iIq12 {s : Int} (h : R32 s) : iI s = 12 ↔ s = 12 := iI_eq (b := 12) h ⟨by decide, by decide⟩
set_option maxHeartbeats 200000 in
theorem iIl32 {s : Int} (h : R32 s) : iI s < 32 ↔ s < 32 := iI_lt (b := 32) h ⟨by decide, by decide⟩
set_option maxHeartbeats 200000 in
theorem iIe32 {s : Int} (h : R32 s) : iI s ≤ 32 ↔ s ≤ 32 := iI_le (b := 32) h ⟨by decide, by decide⟩
set_option maxHeartbeats 200000 in
theorem iIg32 {s : Int} (h : R32 s) : 32 ≤ iI s ↔ 32 ≤ s := iI_le (a := 32) ⟨by decide, by decide⟩ h
set_option maxHeartbeats 200000 in
theorem iIh32 {s : Int} (h : R32 s) : 32 < iI s ↔ 32 < s := iI_lt (a := 32) ⟨by decide, by decide⟩ h
set_option maxHeartbeats 200000 in
theorem iIq32 {s : Int} (h : R32 s) : iI s = 32 ↔ s = 32 := iI_eq (b := 32) h ⟨by decide, by decide⟩
set_option maxHeartbeats 200000 in
theorem iIl40 {s : Int} (h : R32 s) : iI s < 40 ↔ s < 40 := iI_lt (b := 40) h ⟨by decide, by decide⟩
set_option maxHeartbeats 200000 in
theorem iIe40 {s : Int} (h : R32 s) : iI s ≤ 40 ↔ s ≤ 40 := iI_le (b := 40) h ⟨by decide, by decide⟩
set_option maxHeartbeats 200000 in
theorem iIg40 {s : Int} (h : R32 s) : 40 ≤ iI s ↔ 40 ≤ s := iI_le (a := 40) ⟨by decide, by decide⟩ h
set_option maxHeartbeats 200000 in
theorem iIh40 {s : Int} (h : R32 s) : 40 < iI s ↔ 40 < s := iI_lt (a := 40) ⟨by decide, by decide⟩ h
set_option maxHeartbeats 200000 in
theorem iIq40 {s : Int} (h : R32 s) : iI s = 40 ↔ s = 40 := iI_eq (b := 40) h ⟨by decide, by decide⟩
set_option maxHeartbeats 200000 in
theorem iIl41 {s : Int} (h : R32 s) : iI s < 41 ↔ s < 41 := iI_lt (b := 41) h ⟨by decide, by decide⟩
set_option maxHeartbeats 200000 in
theorem iIe41 {s : Int} (h : R32 s) : iI s ≤ 41 ↔ s ≤ 41 := iI_le (b := 41) h ⟨by decide, by decide⟩
set_option maxHeartbeats 200000 in
theorem iIg41 {s : Int} (h : R32 s) : 41 ≤ iI s ↔ 41 ≤ s := iI_le (a := 41) ⟨by decide, by decide⟩ h
set_option maxHeartbeats 200000 in
theorem iIh41 {s : Int} (h : R32 s) : 41 < iI s ↔ 41 < s := iI_lt (a := 41) ⟨by decide, by decide⟩ h
set_option maxHeartbeats 200000 in
theorem iIq41 {s : Int} (h : R32 s) : iI s = 41 ↔ s = 41 := iI_eq (b := 41) h ⟨by decide, by decide⟩
set_option maxHeartbeats 200000 in
theorem iIl44 {s : Int} (h : R32 s) : iI s < 44 ↔ s < 44 := iI_lt (b := 44) h ⟨by decide, by decide⟩
set_option maxHeartbeats 200000 in
theorem iIe44 {s : Int} (h : R32 s) : iI s ≤ 44 ↔ s ≤ 44 := iI_le (b := 44) h ⟨by decide, by decide⟩
set_option maxHeartbeats 200000 in
theorem iIg44 {s : Int} (h : R32 s) : 44 ≤ iI s ↔ 44 ≤ s := iI_le (a := 44) ⟨by decide, by decide⟩ h
set_option maxHeartbeats 200000 in
theorem iIh44 {s : Int} (h : R32 s) : 44 < iI s ↔ 44 < s := iI_lt (a := 44) ⟨by decide, by decide⟩ h
set_option maxHeartbeats 200000 in
theorem iIq44 {s : Int} (h : R32 s) : iI s = 44 ↔ s = 44 := iI_eq (b := 44) h ⟨by decide, by decide⟩
set_option maxHeartbeats 200000 in
theorem iIl45 {s : Int} (h : R32 s) : iI s < 45 ↔ s < 45 := iI_lt (b := 45) h ⟨by decide, by decide⟩
set_option maxHeartbeats 200000 in
theorem iIe45 {s : Int} (h : R32 s) : iI s ≤ 45 ↔ s ≤ 45 := iI_le (b := 45) h ⟨by decide, by decide⟩
set_option maxHeartbeats 200000 in
theorem iIg45 {s : Int} (h : R32 s) : 45 ≤ iI s ↔ 45 ≤ s := iI_le (a := 45) ⟨by decide, by decide⟩ h
set_option maxHeartbeats 200000 in
theorem iIh45 {s : Int} (h : R32 s) : 45 < iI s ↔ 45 < s := iI_lt (a := 45) ⟨by decide, by decide⟩ h
set_option maxHeartbeats 200000 in
theorem iIq45 {s : Int} (h : R32 s) : iI s = 45 ↔ s = 45 := iI_eq (b := 45) h ⟨by decide, by decide⟩
set_option maxHeartbeats 200000 in
theorem iIl48 {s : Int} (h : R32 s) : iI s < 48 ↔ s < 48 := iI_lt (b := 48) h ⟨by decide, by decide⟩
set_option maxHeartbeats 200000 in
theorem iIe48 {s : Int} (h : R32 s) : iI s ≤ 48 ↔ s ≤ 48 := iI_le (b := 48) h ⟨by decide, by decide⟩
set_option maxHeartbeats 200000 in
theorem iIg48 {s : Int} (h : R32 s) : 48 ≤ iI s ↔ 48 ≤ s := iI_le (a := 48) ⟨by decide, by decide⟩ h
set_option maxHeartbeats 200000 in
theorem iIh48 {s : Int} (h : R32 s) : 48 < iI s ↔ 48 < s := iI_lt (a := 48) ⟨by decide, by decide⟩ h
set_option maxHeartbeats 200000 in
theorem iIq48 {s : Int} (h : R32 s) : iI s = 48 ↔ s = 48 := iI_eq (b := 48) h ⟨by decide, by decide⟩
set_option maxHeartbeats 200000 in
theorem iIl57 {s : Int} (h : R32 s) : iI s < 57 ↔ s < 57 := iI_lt (b := 57) h ⟨by decide, by decide⟩
set_option maxHeartbeats 200000 in
theorem iIe57 {s : Int} (h : R32 s) : iI s ≤ 57 ↔ s ≤ 57 := iI_le (b := 57) h ⟨by decide, by decide⟩
set_option maxHeartbeats 200000 in
theorem iIg57 {s : Int} (h : R32 s) : 57 ≤ iI s ↔ 57 ≤ s := iI_le (a := 57) ⟨by decide, by decide⟩ h
set_option maxHeartbeats 200000 in
theorem iIh57 {s : Int} (h : R32 s) : 57 < iI s ↔ 57 < s := iI_lt (a := 57) ⟨by decide, by decide⟩ h
set_option maxHeartbeats 200000 in
theorem iIq57 {s : Int} (h : R32 s) : iI s = 57 ↔ s = 57 := iI_eq (b := 57) h ⟨by decide, by decide⟩
set_option maxHeartbeats 200000 in
theorem iIl59 {s : Int} (h : R32 s) : iI s < 59 ↔ s < 59 := iI_lt (b := 59) h ⟨by decide, by decide⟩
set_option maxHeartbeats 200000 in
theorem iIe59 {s : Int} (h : R32 s) : iI s ≤ 59 ↔ s ≤ 59 := iI_le (b := 59) h ⟨by decide, by decide⟩
set_option maxHeartbeats 200000 in
theorem iIg59 {s : Int} (h : R32 s) : 59 ≤ iI s ↔ 59 ≤ s := iI_le (a := 59) ⟨by decide, by decide⟩ h
set_option maxHeartbeats 200000 in
theorem iIh59 {s : Int} (h : R32 s) : 59 < iI s ↔ 59 < s := iI_lt (a := 59) ⟨by decide, by decide⟩ h
set_option maxHeartbeats 200000 in
theorem iIq59 {s : Int} (h : R32 s) : iI s = 59 ↔ s = 59 := iI_eq (b := 59) h ⟨by decide, by decide⟩
set_option maxHeartbeats 200000 in
theorem iIl63 {s : Int} (h : R32 s) : iI s < 63 ↔ s < 63 := iI_lt (b := 63) h ⟨by decide, by decide⟩
set_option maxHeartbeats 200000 in
theorem iIe63 {s : Int} (h : R32 s) : iI s ≤ 63 ↔ s ≤ 63 := iI_le (b := 63) h ⟨by decide, by decide⟩
set_option maxHeartbeats 200000 in
theorem iIg63 {s : Int} (h : R32 s) : 63 ≤ iI s ↔ 63 ≤ s := iI_le (a := 63) ⟨by decide, by decide⟩ h
set_option maxHeartbeats 200000 in
theorem iIh63 {s : Int} (h : R32 s) : 63 < iI s ↔ 63 < s := iI_lt (a := 63) ⟨by decide, by decide⟩ h
set_option maxHeartbeats 200000 in
theorem iIq63 {s : Int} (h : R32 s) : iI s = 63 ↔ s = 63 := iI_eq (b := 63) h ⟨by decide, by decide⟩
set_option maxHeartbeats 200000 in
theorem iIl64 {s : Int} (h : R32 s) : iI s < 64 ↔ s < 64 := iI_lt (b := 64) h ⟨by decide, by decide⟩
set_option maxHeartbeats 200000 in
theorem iIe64 {s : Int} (h : R32 s) : iI s ≤ 64 ↔ s ≤ 64 := iI_le (b := 64) h ⟨by decide, by decide⟩
set_option maxHeartbeats 200000 in
theorem iIg64 {s : Int} (h : R32 s) : 64 ≤ iI s ↔ 64 ≤ s := iI_le (a := 64) ⟨by decide, by decide⟩ h
set_option maxHeartbeats 200000 in
theorem iIh64 {s : Int} (h : R32 s) : 64 < iI s ↔ 64 < s := iI_lt (a := 64) ⟨by decide, by decide⟩ h
set_option maxHeartbeats 200000 in
theorem iIq64 {s : Int} (h : R32 s) : iI s = 64 ↔ s = 64 := iI_eq (b := 64) h ⟨by decide, by decide⟩
set_option maxHeartbeats 200000 in
theorem iIl65 {s : Int} (h : R32 s) : iI s < 65 ↔ s < 65 := iI_lt (b := 65) h ⟨by decide, by decide⟩
set_option maxHeartbeats 200000 in
theorem iIe65 {s : Int} (h : R32 s) : iI s ≤ 65 ↔ s ≤ 65 := iI_le (b := 65) h ⟨by decide, by decide⟩
set_option maxHeartbeats 200000 in
theorem iIg65 {s : Int} (h : R32 s) : 65 ≤ iI s ↔ 65 ≤ s := iI_le (a := 65) ⟨by decide, by decide⟩ h
set_option maxHeartbeats 200000 in
theorem iIh65 {s : Int} (h : R32 s) : 65 < iI s ↔ 65 < s := iI_lt (a := 65) ⟨by decide, by decide⟩ h
set_option maxHeartbeats 200000 in
theorem iIq65 {s : Int} (h : R32 s) : iI s = 65 ↔ s = 65 := iI_eq (b := 65) h ⟨by decide, by decide⟩
set_option maxHeartbeats 200000 in
theorem iIl90 {s : Int} (h : R32 s) : iI s < 90 ↔ s < 90 := iI_lt (b := 90) h ⟨by decide, by decide⟩
set_option maxHeartbeats 200000 in
theorem iIe90 {s : Int} (h : R32 s) : iI s ≤ 90 ↔ s ≤ 90 := iI_le (b := 90) h ⟨by decide, by decide⟩
set_option maxHeartbeats 200000 in
theorem iIg90 {s : Int} (h : R32 s) : 90 ≤ iI s ↔ 90 ≤ s := iI_le (a := 90) ⟨by decide, by decide⟩ h
set_option maxHeartbeats 200000 in
theorem iIh90 {s : Int} (h : R32 s) : 90 < iI s ↔ 90 < s := iI_lt (a := 90) ⟨by decide, by decide⟩ h
set_option maxHeartbeats 200000 in
theorem iIq90 {s : Int} (h : R32 s) : iI s = 90 ↔ s = 90 := iI_eq (b := 90) h ⟨by decide, by decide⟩
set_option maxHeartbeats 200000 in
theorem iIl100 {s : Int} (h : R32 s) : iI s < 100 ↔ s < 100 := iI_lt (b := 100) h ⟨by decide, by decide⟩
set_option maxHeartbeats 200000 in
theorem iIe100 {s : Int} (h : R32 s) : iI s ≤ 100 ↔ s ≤ 100 := iI_le (b := 100) h ⟨by decide, by decide⟩
set_option maxHeartbeats 200000 in
theorem iIg100 {s : Int} (h : R32 s) : 100 ≤ iI s ↔ 100 ≤ s := iI_le (a := 100) ⟨by decide, by decide⟩ h
set_option maxHeartbeats 200000 in
theorem iIh100 {s : Int} (h : R32 s) : 100 < iI s ↔ 100 < s := iI_lt (a := 100) ⟨by decide, by decide⟩ h
set_option maxHeartbeats 200000 in
theorem iIq100 {s : Int} (h : R32 s) : iI s = 100 ↔ s = 100 := iI_eq (b := 100) h ⟨by decide, by decide⟩
set_option maxHeartbeats 200000 in
theorem iIl200 {s : Int} (h : R32 s) : iI s < 200 ↔ s < 200 := iI_lt (b := 200) h ⟨by decide, by decide⟩
set_option maxHeartbeats 200000 in
theorem iIe200 {s : Int} (h : R32 s) : iI s ≤ 200 ↔ s ≤ 200 := iI_le (b := 200) h ⟨by decide, by decide⟩
set_option maxHeartbeats 200000 in
theorem iIg200 {s : Int} (h : R32 s) : 200 ≤ iI s ↔ 200 ≤ s := iI_le (a := 200) ⟨by decide, by decide⟩ h
set_option maxHeartbeats 200000 in
theorem iIh200 {s : Int} (h : R32 s) : 200 < iI s ↔ 200 < s := iI_lt (a := 200) ⟨by decide, by decide⟩ h
set_option maxHeartbeats 200000 in
theorem iIq200 {s : Int} (h : R32 s) : iI s = 200 ↔ s = 200 := iI_eq (b := 200) h ⟨by decide, by decide⟩
set_option maxHeartbeats 200000 in
theorem iIl1000 {s : Int} (h : R32 s) : iI s < 1000 ↔ s < 1000 := iI_lt (b := 1000) h ⟨by decide, by decide⟩
set_option maxHeartbeats 200000 in
theorem iIe1000 {s : Int} (h : R32 s) : iI s ≤ 1000 ↔ s ≤ 1000 := iI_le (b := 1000) h ⟨by decide, by decide⟩
set_option maxHeartbeats 200000 in
theorem iIg1000 {s : Int} (h : R32 s) : 1000 ≤ iI s ↔ 1000 ≤ s := iI_le (a := 1000) ⟨by decide, by decide⟩ h
set_option maxHeartbeats 200000 in
theorem iIh1000 {s : Int} (h : R32 s) : 1000 < iI s ↔ 1000 < s := iI_lt (a := 1000) ⟨by decide, by decide⟩ h
set_option maxHeartbeats 200000 in
theorem iIq1000 {s : Int} (h : R32 s) : iI s = 1000 ↔ s = 1000 := iI_eq (b := 1000) h ⟨by decide, by decide⟩
set_option maxHeartbeats 200000 in
theorem iIl4000 {s : Int} (h : R32 s) : iI s < 4000 ↔ s < 4000 := iI_lt (b := 4000) h ⟨by decide, by decide⟩
set_option maxHeartbeats 200000 in
theorem iIe4000 {s : Int} (h : R32 s) : iI s ≤ 4000 ↔ s ≤ 4000 := iI_le (b := 4000) h ⟨by decide, by decide⟩
set_option maxHeartbeats 200000 in
theorem iIg4000 {s : Int} (h : R32 s) : 4000 ≤ iI s ↔ 4000 ≤ s := iI_le (a := 4000) ⟨by decide, by decide⟩ h
set_option maxHeartbeats 200000 in
theorem iIh4000 {s : Int} (h : R32 s) : 4000 < iI s ↔ 4000 < s := iI_lt (a := 4000) ⟨by decide, by decide⟩ h
set_option maxHeartbeats 200000 in
theorem iIq4000 {s : Int} (h : R32 s) : iI s = 4000 ↔ s = 4000 := iI_eq (b := 4000) h ⟨by decide, by decide⟩
set_option maxHeartbeats 200000 in
theorem iIl9999 {s : Int} (h : R32 s) : iI s < 9999 ↔ s < 9999 := iI_lt (b := 9999) h ⟨by decide, by decide⟩
set_option maxHeartbeats 200000 in
theorem iIe9999 {s : Int} (h : R32 s) : iI s ≤ 9999 ↔ s ≤ 9999 := iI_le (b := 9999) h ⟨by decide, by decide⟩
set_option maxHeartbeats 200000 in
theorem iIg9999 {s : Int} (h : R32 s) : 9999 ≤ iI s ↔ 9999 ≤ s := iI_le (a := 9999) ⟨by decide, by decide⟩ h
set_option maxHeartbeats 200000 in
theorem iIh9999 {s : Int} (h : R32 s) : 9999 < iI s ↔ 9999 < s := iI_lt (a := 9999) ⟨by decide, by decide⟩ h
set_option maxHeartbeats 200000 in
theorem iIq9999 {s : Int} (h : R32 s) : iI s = 9999 ↔ s = 9999 := iI_eq (b := 9999) h ⟨by decide, by decide⟩
set_option maxHeartbeats 200000 in
theorem iIl14112 {s : Int} (h : R32 s) : iI s < 14112 ↔ s < 14112 := iI_lt (b := 14112) h ⟨by decide, by decide⟩
set_option maxHeartbeats 200000 in
theorem iIe14112 {s : Int} (h : R32 s) : iI s ≤ 14112 ↔ s ≤ 14112 := iI_le (b := 14112) h ⟨by decide, by decide⟩
set_option maxHeartbeats 200000 in
theorem iIg14112 {s : Int} (h : R32 s) : 14112 ≤ iI s ↔ 14112 ≤ s := iI_le (a := 14112) ⟨by decide, by decide⟩ h
set_option maxHeartbeats 200000 in
theorem iIh14112 {s : Int} (h : R32 s) : 14112 < iI s ↔ 14112 < s := iI_lt (a := 14112) ⟨by decide, by decide⟩ h
set_option maxHeartbeats 200000 in
theorem iIq14112 {s : Int} (h : R32 s) : iI s = 14112 ↔ s = 14112 := iI_eq (b := 14112) h ⟨by decide, by decide⟩
set_option maxHeartbeats 200000 in
theorem iIl19000 {s : Int} (h : R32 s) : iI s < 19000 ↔ s < 19000 := iI_lt (b := 19000) h ⟨by decide, by decide⟩
set_option maxHeartbeats 200000 in
theorem iIe19000 {s : Int} (h : R32 s) : iI s ≤ 19000 ↔ s ≤ 19000 := iI_le (b := 19000) h ⟨by decide, by decide⟩
set_option maxHeartbeats 200000 in
theorem iIg19000 {s : Int} (h : R32 s) : 19000 ≤ iI s ↔ 19000 ≤ s := iI_le (a := 19000) ⟨by decide, by decide⟩ h
set_option maxHeartbeats 200000 in
theorem iIh19000 {s : Int} (h : R32 s) : 19000 < iI s ↔ 19000 < s := iI_lt (a := 19000) ⟨by decide, by decide⟩ h
set_option maxHeartbeats 200000 in
theorem iIq19000 {s : Int} (h : R32 s) : iI s = 19000 ↔ s = 19000 := iI_eq (b := 19000) h ⟨by decide, by decide⟩
set_option maxHeartbeats 200000 in
theorem iIl20000 {s : Int} (h : R32 s) : iI s < 20000 ↔ s < 20000 := iI_lt (b := 20000) h ⟨by decide, by decide⟩
set_option maxHeartbeats 200000 in
theorem iIe20000 {s : Int} (h : R32 s) : iI s ≤ 20000 ↔ s ≤ 20000 := iI_le (b := 20000) h ⟨by decide, by decide⟩
set_option maxHeartbeats 200000 in
theorem iIg20000 {s : Int} (h : R32 s) : 20000 ≤ iI s ↔ 20000 ≤ s := iI_le (a := 20000) ⟨by decide, by decide⟩ h
set_option maxHeartbeats 200000 in
theorem iIh20000 {s : Int} (h : R32 s) : 20000 < iI s ↔ 20000 < s := iI_lt (a := 20000) ⟨by decide, by decide⟩ h
set_option maxHeartbeats 200000 in
theorem iIq20000 {s : Int} (h : R32 s) : iI s = 20000 ↔ s = 20000 := iI_eq (b := 20000) h ⟨by decide, by decide⟩
set_option maxHeartbeats 200000 in
theorem iIl30000 {s : Int} (h : R32 s) : iI s < 30000 ↔ s < 30000 := iI_lt (b := 30000) h ⟨by decide, by decide⟩
set_option maxHeartbeats 200000 in
theorem iIe30000 {s : Int} (h : R32 s) : iI s ≤ 30000 ↔ s ≤ 30000 := iI_le (b := 30000) h ⟨by decide, by decide⟩
set_option maxHeartbeats 200000 in
theorem iIg30000 {s : Int} (h : R32 s) : 30000 ≤ iI s ↔ 30000 ≤ s := iI_le (a := 30000) ⟨by decide, by decide⟩ h
set_option maxHeartbeats 200000 in
theorem iIh30000 {s : Int} (h : R32 s) : 30000 < iI s ↔ 30000 < s := iI_lt (a := 30000) ⟨by decide, by decide⟩ h
set_option maxHeartbeats 200000 in
theorem iIq30000 {s : Int} (h : R32 s) : iI s = 30000 ↔ s = 30000 := iI_eq (b := 30000) h ⟨by decide, by decide⟩
set_option maxHeartbeats 200000 in
theorem iIl1000000000 {s : Int} (h : R32 s) : iI s < 1000000000 ↔ s < 1000000000 := iI_lt (b := 1000000000) h ⟨by decide, by decide⟩
set_option maxHeartbeats 200000 in
theorem iIe1000000000 {s : Int} (h : R32 s) : iI s ≤ 1000000000 ↔ s ≤ 1000000000 := iI_le (b := 1000000000) h ⟨by decide, by decide⟩
set_option maxHeartbeats 200000 in
theorem iIg1000000000 {s : Int} (h : R32 s) : 1000000000 ≤ iI s ↔ 1000000000 ≤ s := iI_le (a := 1000000000) ⟨by decide, by decide⟩ h
set_option maxHeartbeats 200000 in
theorem iIh1000000000 {s : Int} (h : R32 s) : 1000000000 < iI s ↔ 1000000000 < s := iI_lt (a := 1000000000) ⟨by decide, by decide⟩ h
set_option maxHeartbeats 200000 in
theorem iIq1000000000 {s : Int} (h : R32 s) : iI s = 1000000000 ↔ s = 1000000000 := iI_eq (b := 1000000000) h ⟨by decide, by decide⟩
set_option maxHeartbeats 200000 in
theorem nIl5 {a : Nat} (ha : a < 2147483648) : nI a < 5 ↔ a < 5 := nI_ltI ha (by decide : 5 < 2147483648)
set_option maxHeartbeats 200000 in
theorem nIe5 {a : Nat} (ha : a < 2147483648) : nI a ≤ 5 ↔ a ≤ 5 := nI_leI ha (by decide : 5 < 2147483648)
set_option maxHeartbeats 200000 in
theorem nIg5 {a : Nat} (ha : a < 2147483648) : 5 ≤ nI a ↔ 5 ≤ a := nI_leI (by decide : 5 < 2147483648) ha
set_option maxHeartbeats 200000 in
theorem nIh5 {a : Nat} (ha : a < 2147483648) : 5 < nI a ↔ 5 < a := nI_ltI (by decide : 5 < 2147483648) ha
set_option maxHeartbeats 200000 in
theorem nIq5 {a : Nat} (ha : a < 2147483648) : nI a = 5 ↔ a = 5 := nI_eq ha (by decide : 5 < 2147483648)
set_option maxHeartbeats 200000 in
theorem nIl6 {a : Nat} (ha : a < 2147483648) : nI a < 6 ↔ a < 6 := nI_ltI ha (by decide : 6 < 2147483648)
set_option maxHeartbeats 200000 in
theorem nIe6 {a : Nat} (ha : a < 2147483648) : nI a ≤ 6 ↔ a ≤ 6 := nI_leI ha (by decide : 6 < 2147483648)
set_option maxHeartbeats 200000 in
theorem nIg6 {a : Nat} (ha : a < 2147483648) : 6 ≤ nI a ↔ 6 ≤ a := nI_leI (by decide : 6 < 2147483648) ha
set_option maxHeartbeats 200000 in
theorem nIh6 {a : Nat} (ha : a < 2147483648) : 6 < nI a ↔ 6 < a := nI_ltI (by decide : 6 < 2147483648) ha
set_option maxHeartbeats 200000 in
theorem nIq6 {a : Nat} (ha : a < 2147483648) : nI a = 6 ↔ a = 6 := nI_eq ha (by decide : 6 < 2147483648)
set_option maxHeartbeats 200000 in
theorem nIl7 {a : Nat} (ha : a < 2147483648) : nI a < 7 ↔ a < 7 := nI_ltI ha (by decide : 7 < 2147483648)
set_option maxHeartbeats 200000 in
theorem nIe7 {a : Nat} (ha : a < 2147483648) : nI a ≤ 7 ↔ a ≤ 7 := nI_leI ha (by decide : 7 < 2147483648)
set_option maxHeartbeats 200000 in
theorem nIg7 {a : Nat} (ha : a < 2147483648) : 7 ≤ nI a ↔ 7 ≤ a := nI_leI (by decide : 7 < 2147483648) ha
set_option maxHeartbeats 200000 in
theorem nIh7 {a : Nat} (ha : a < 2147483648) : 7 < nI a ↔ 7 < a := nI_ltI (by decide : 7 < 2147483648) ha
set_option maxHeartbeats 200000 in
theorem nIq7 {a : Nat} (ha : a < 2147483648) : nI a = 7 ↔ a = 7 := nI_eq ha (by decide : 7 < 2147483648)
set_option maxHeartbeats 200000 in
theorem nIl9 {a : Nat} (ha : a < 2147483648) : nI a < 9 ↔ a < 9 := nI_ltI ha (by decide : 9 < 2147483648)
set_option maxHeartbeats 200000 in
theorem nIe9 {a : Nat} (ha : a < 2147483648) : nI a ≤ 9 ↔ a ≤ 9 := nI_leI ha (by decide : 9 < 2147483648)
set_option maxHeartbeats 200000 in
theorem nIg9 {a : Nat} (ha : a < 2147483648) : 9 ≤ nI a ↔ 9 ≤ a := nI_leI (by decide : 9 < 2147483648) ha
set_option maxHeartbeats 200000 in
theorem nIh9 {a : Nat} (ha : a < 2147483648) : 9 < nI a ↔ 9 < a := nI_ltI (by decide : 9 < 2147483648) ha
set_option maxHeartbeats 200000 in
theorem nIq9 {a : Nat} (ha : a < 2147483648) : nI a = 9 ↔ a = 9 := nI_eq ha (by decide : 9 < 2147483648)
set_option maxHeartbeats 200000 in
theorem nIl10 {a : Nat} (ha : a < 2147483648) : nI a < 10 ↔ a < 10 := nI_ltI ha (by decide : 10 < 2147483648)
set_option maxHeartbeats 200000 in
theorem nIe10 {a : Nat} (ha : a < 2147483648) : nI a ≤ 10 ↔ a ≤ 10 := nI_leI ha (by decide : 10 < 2147483648)
set_option maxHeartbeats 200000 in
theorem nIg10 {a : Nat} (ha : a < 2147483648) : 10 ≤ nI a ↔ 10 ≤ a := nI_leI (by decide : 10 < 2147483648) ha
set_option maxHeartbeats 200000 in
theorem nIh10 {a : Nat} (ha : a < 2147483648) : 10 < nI a ↔ 10 < a := nI_ltI (by decide : 10 < 2147483648) ha
set_option maxHeartbeats 200000 in
theorem nIq10 {a : Nat} (ha : a < 2147483648) : nI a = 10 ↔ a = 10 := nI_eq ha (by decide : 10 < 2147483648)
set_option maxHeartbeats 200000 in
theorem nIl12 {a : Nat} (ha : a < 2147483648) : nI a < 12 ↔ a < 12 := nI_ltI ha (by decide : 12 < 2147483648)
set_option maxHeartbeats 200000 in
theorem nIe12 {a : Nat} (ha : a < 2147483648) : nI a ≤ 12 ↔ a ≤ 12 := nI_leI ha (by decide : 12 < 2147483648)
set_option maxHeartbeats 200000 in
theorem nIg12 {a : Nat} (ha : a < 2147483648) : 12 ≤ nI a ↔ 12 ≤ a := nI_leI (by decide : 12 < 2147483648) ha
set_option maxHeartbeats 200000 in
theorem nIh12 {a : Nat} (ha : a < 2147483648) : 12 < nI a ↔ 12 < a := nI_ltI (by decide : 12 < 2147483648) ha
set_option maxHeartbeats 200000 in
theorem nIq12 {a : Nat} (ha : a < 2147483648) : nI a = 12 ↔ a = 12 := nI_eq ha (by decide : 12 < 2147483648)
set_option maxHeartbeats 200000 in
theorem nIl100 {a : Nat} (ha : a < 2147483648) : nI a < 100 ↔ a < 100 := nI_ltI ha (by decide : 100 < 2147483648)
set_option maxHeartbeats 200000 in
theorem nIe100 {a : Nat} (ha : a < 2147483648) : nI a ≤ 100 ↔ a ≤ 100 := nI_leI ha (by decide : 100 < 2147483648)
set_option maxHeartbeats 200000 in
theorem nIg100 {a : Nat} (ha : a < 2147483648) : 100 ≤ nI a ↔ 100 ≤ a := nI_leI (by decide : 100 < 2147483648) ha
set_option maxHeartbeats 200000 in
theorem nIh100 {a : Nat} (ha : a < 2147483648) : 100 < nI a ↔ 100 < a := nI_ltI (by decide : 100 < 2147483648) ha
set_option maxHeartbeats 200000 in
theorem nIq100 {a : Nat} (ha : a < 2147483648) : nI a = 100 ↔ a = 100 := nI_eq ha (by decide : 100 < 2147483648)
set_option maxHeartbeats 200000 in
theorem nIl401 {a : Nat} (ha : a < 2147483648) : nI a < 401 ↔ a < 401 := nI_ltI ha (by decide : 401 < 2147483648)
set_option maxHeartbeats 200000 in
theorem nIe401 {a : Nat} (ha : a < 2147483648) : nI a ≤ 401 ↔ a ≤ 401 := nI_leI ha (by decide : 401 < 2147483648)
set_option maxHeartbeats 200000 in
theorem nIg401 {a : Nat} (ha : a < 2147483648) : 401 ≤ nI a ↔ 401 ≤ a := nI_leI (by decide : 401 < 2147483648) ha
set_option maxHeartbeats 200000 in
theorem nIh401 {a : Nat} (ha : a < 2147483648) : 401 < nI a ↔ 401 < a := nI_ltI (by decide : 401 < 2147483648) ha
set_option maxHeartbeats 200000 in
theorem nIq401 {a : Nat} (ha : a < 2147483648) : nI a = 401 ↔ a = 401 := nI_eq ha (by decide : 401 < 2147483648)
set_option maxHeartbeats 200000 in
theorem nIl1000 {a : Nat} (ha : a < 2147483648) : nI a < 1000 ↔ a < 1000 := nI_ltI ha (by decide : 1000 < 2147483648)
set_option maxHeartbeats 200000 in
theorem nIe1000 {a : Nat} (ha : a < 2147483648) : nI a ≤ 1000 ↔ a ≤ 1000 := nI_leI ha (by decide : 1000 < 2147483648)
set_option maxHeartbeats 200000 in
theorem nIg1000 {a : Nat} (ha : a < 2147483648) : 1000 ≤ nI a ↔ 1000 ≤ a := nI_leI (by decide : 1000 < 2147483648) ha
set_option maxHeartbeats 200000 in
theorem nIh1000 {a : Nat} (ha : a < 2147483648) : 1000 < nI a ↔ 1000 < a := nI_ltI (by decide : 1000 < 2147483648) ha
set_option maxHeartbeats 200000 in
theorem nIq1000 {a : Nat} (ha : a < 2147483648) : nI a = 1000 ↔ a = 1000 := nI_eq ha (by decide : 1000 < 2147483648)
set_option maxHeartbeats 200000 in
theorem nIl4000 {a : Nat} (ha : a < 2147483648) : nI a < 4000 ↔ a < 4000 := nI_ltI ha (by decide : 4000 < 2147483648)
set_option maxHeartbeats 200000 in
theorem nIe4000 {a : Nat} (ha : a < 2147483648) : nI a ≤ 4000 ↔ a ≤ 4000 := nI_leI ha (by decide : 4000 < 2147483648)
set_option maxHeartbeats 200000 in
theorem nIg4000 {a : Nat} (ha : a < 2147483648) : 4000 ≤ nI a ↔ 4000 ≤ a := nI_leI (by decide : 4000 < 2147483648) ha
set_option maxHeartbeats 200000 in
theorem nIh4000 {a : Nat} (ha : a < 2147483648) : 4000 < nI a ↔ 4000 < a := nI_ltI (by decide : 4000 < 2147483648) ha
set_option maxHeartbeats 200000 in
theorem nIq4000 {a : Nat} (ha : a < 2147483648) : nI a = 4000 ↔ a = 4000 := nI_eq ha (by decide : 4000 < 2147483648)
set_option maxHeartbeats 200000 in
theorem nIl9999 {a : Nat} (ha : a < 2147483648) : nI a < 9999 ↔ a < 9999 := nI_ltI ha (by decide : 9999 < 2147483648)
set_option maxHeartbeats 200000 in
theorem nIe9999 {a : Nat} (ha : a < 2147483648) : nI a ≤ 9999 ↔ a ≤ 9999 := nI_leI ha (by decide : 9999 < 2147483648)
set_option maxHeartbeats 200000 in
theorem nIg9999 {a : Nat} (ha : a < 2147483648) : 9999 ≤ nI a ↔ 9999 ≤ a := nI_leI (by decide : 9999 < 2147483648) ha
set_option maxHeartbeats 200000 in
theorem nIh9999 {a : Nat} (ha : a < 2147483648) : 9999 < nI a ↔ 9999 < a := nI_ltI (by decide : 9999 < 2147483648) ha
set_option maxHeartbeats 200000 in
theorem nIq9999 {a : Nat} (ha : a < 2147483648) : nI a = 9999 ↔ a = 9999 := nI_eq ha (by decide : 9999 < 2147483648)
set_option maxHeartbeats 200000 in
theorem nIl14112 {a : Nat} (ha : a < 2147483648) : nI a < 14112 ↔ a < 14112 := nI_ltI ha (by decide : 14112 < 2147483648)
set_option maxHeartbeats 200000 in
theorem nIe14112 {a : Nat} (ha : a < 2147483648) : nI a ≤ 14112 ↔ a ≤ 14112 := nI_leI ha (by decide : 14112 < 2147483648)
set_option maxHeartbeats 200000 in
theorem nIg14112 {a : Nat} (ha : a < 2147483648) : 14112 ≤ nI a ↔ 14112 ≤ a := nI_leI (by decide : 14112 < 2147483648) ha
set_option maxHeartbeats 200000 in
theorem nIh14112 {a : Nat} (ha : a < 2147483648) : 14112 < nI a ↔ 14112 < a := nI_ltI (by decide : 14112 < 2147483648) ha
set_option maxHeartbeats 200000 in
theorem nIq14112 {a : Nat} (ha : a < 2147483648) : nI a = 14112 ↔ a = 14112 := nI_eq ha (by decide : 14112 < 2147483648)
set_option maxHeartbeats 200000 in
theorem nIl19000 {a : Nat} (ha : a < 2147483648) : nI a < 19000 ↔ a < 19000 := nI_ltI ha (by decide : 19000 < 2147483648)
set_option maxHeartbeats 200000 in
theorem nIe19000 {a : Nat} (ha : a < 2147483648) : nI a ≤ 19000 ↔ a ≤ 19000 := nI_leI ha (by decide : 19000 < 2147483648)
set_option maxHeartbeats 200000 in
theorem nIg19000 {a : Nat} (ha : a < 2147483648) : 19000 ≤ nI a ↔ 19000 ≤ a := nI_leI (by decide : 19000 < 2147483648) ha
set_option maxHeartbeats 200000 in
theorem nIh19000 {a : Nat} (ha : a < 2147483648) : 19000 < nI a ↔ 19000 < a := nI_ltI (by decide : 19000 < 2147483648) ha
set_option maxHeartbeats 200000 in
theorem nIq19000 {a : Nat} (ha : a < 2147483648) : nI a = 19000 ↔ a = 19000 := nI_eq ha (by decide : 19000 < 2147483648)
set_option maxHeartbeats 200000 in
theorem nIl20000 {a : Nat} (ha : a < 2147483648) : nI a < 20000 ↔ a < 20000 := nI_ltI ha (by decide : 20000 < 2147483648)
set_option maxHeartbeats 200000 in
theorem nIe20000 {a : Nat} (ha : a < 2147483648) : nI a ≤ 20000 ↔ a ≤ 20000 := nI_leI ha (by decide : 20000 < 2147483648)
set_option maxHeartbeats 200000 in
theorem nIg20000 {a : Nat} (ha : a < 2147483648) : 20000 ≤ nI a ↔ 20000 ≤ a := nI_leI (by decide : 20000 < 2147483648) ha
set_option maxHeartbeats 200000 in
theorem nIh20000 {a : Nat} (ha : a < 2147483648) : 20000 < nI a ↔ 20000 < a := nI_ltI (by decide : 20000 < 2147483648) ha
set_option maxHeartbeats 200000 in
theorem nIq20000 {a : Nat} (ha : a < 2147483648) : nI a = 20000 ↔ a = 20000 := nI_eq ha (by decide : 20000 < 2147483648)
set_option maxHeartbeats 200000 in
theorem nIl30000 {a : Nat} (ha : a < 2147483648) : nI a < 30000 ↔ a < 30000 := nI_ltI ha (by decide : 30000 < 2147483648)
set_option maxHeartbeats 200000 in
theorem nIe30000 {a : Nat} (ha : a < 2147483648) : nI a ≤ 30000 ↔ a ≤ 30000 := nI_leI ha (by decide : 30000 < 2147483648)
set_option maxHeartbeats 200000 in
theorem nIg30000 {a : Nat} (ha : a < 2147483648) : 30000 ≤ nI a ↔ 30000 ≤ a := nI_leI (by decide : 30000 < 2147483648) ha
set_option maxHeartbeats 200000 in
theorem nIh30000 {a : Nat} (ha : a < 2147483648) : 30000 < nI a ↔ 30000 < a := nI_ltI (by decide : 30000 < 2147483648) ha
set_option maxHeartbeats 200000 in
theorem nIq30000 {a : Nat} (ha : a < 2147483648) : nI a = 30000 ↔ a = 30000 := nI_eq ha (by decide : 30000 < 2147483648)
set_option maxHeartbeats 200000 in
theorem nIl64 {a : Nat} (ha : a < 2147483648) : nI a < 64 ↔ a < 64 := nI_ltI ha (by decide : 64 < 2147483648)
set_option maxHeartbeats 200000 in
theorem nIe64 {a : Nat} (ha : a < 2147483648) : nI a ≤ 64 ↔ a ≤ 64 := nI_leI ha (by decide : 64 < 2147483648)
set_option maxHeartbeats 200000 in
theorem nIg64 {a : Nat} (ha : a < 2147483648) : 64 ≤ nI a ↔ 64 ≤ a := nI_leI (by decide : 64 < 2147483648) ha
set_option maxHeartbeats 200000 in
theorem nIh64 {a : Nat} (ha : a < 2147483648) : 64 < nI a ↔ 64 < a := nI_ltI (by decide : 64 < 2147483648) ha
set_option maxHeartbeats 200000 in
theorem nIq64 {a : Nat} (ha : a < 2147483648) : nI a = 64 ↔ a = 64 := nI_eq ha (by decide : 64 < 2147483648)
