section RS
theorem r_has2 : r_about.hasRoom start1.e0.platform r_room = true := launch0.hasRoom_least _ r_room (by decide +kernel) (by decide +kernel) (by decide +kernel) (by decide +kernel) (by decide +kernel) (by decide +kernel)
end RS
