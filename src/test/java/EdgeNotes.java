/** Section 2 of the document: notes; and promises 11 to 18. */
final class EdgeNotes {
    private EdgeNotes() {
    }

    static void all() {
        numbers();
        copies();
        givingOfHouses();
        givingToTheBank();
        givingOfTheBank();
        presenting();
        promises();
    }

    private static void numbers() {
        EdgeTest.edge("NOTES have NUMBERS 0 .. 299, each is worth 10.", """
                house(0, 0) 1
                gold(0, 10000) 10000
                number(-1) -3
                number(300) -3
                number(0) 0
                number(299) 0
                give(0, 1, 2990) 10000
                number(298) 1
                number(299) 0
                count(8) 2990
                give(0, 1, 20) -7            # two, and one is there
                give(0, 1, 10) 10000
                number(299) 1
                count(8) 3000
                look(1, 3) 300
                look(1, 7) 3000
                give(0, 1, 10) -7            # none is there
                give(0, 1, 9) 9991
                number(300) -3
                give(1, 0, 3000) 9           # all at once
                count(8) 0
                count(9) 300
                """);
        EdgeTest.edge("A NUMBER is NEW (at first), OUT, IN or BURNT.", """
                house(0, 0) 1
                gold(0, 100) 100
                number(0) 0
                burn(0) -7
                give(0, 1, 10) 100
                number(0) 1
                burn(0) -7
                give(1, 0, 10) 0
                number(0) 2
                burn(0) 1
                number(0) 3
                burn(0) -7
                give(0, 1, 10) 100
                number(0) 3
                number(1) 1
                """);
        EdgeTest.edge("THE BANK ISSUES n NOTES: the n least NUMBERS that are IN, then the least NEW ones:"
                + " they are OUT then, each by one COPY.", """
                house(0, 0) 1
                house(0, 0) 2
                gold(0, 500) 500
                give(0, 1, 60) 500
                give(1, 2, 20) 0             # 2 has 0 and 1
                give(1, 0, 30) 0             # 2, 3, 4 are in
                give(0, 2, 20) 500           # 2 and 3: 4 stays, and no new one
                number(2) 1
                number(3) 1
                number(4) 2
                number(6) 0
                copyAt(2, 0) 2
                copyAt(3, 0) 2
                give(0, 2, 10) 500           # 4, the last that is in
                number(4) 1
                number(6) 0
                give(2, 0, 20) 0             # 0 and 1
                give(0, 1, 30) 500           # both, and one new one
                number(0) 1
                number(1) 1
                number(6) 1
                number(7) 0
                copyAt(6, 0) 1
                copyAt(6, 1) -3
                """);
        EdgeTest.edge("OUT (a sum): 10 for each NUMBER that is OUT.", """
                house(0, 0) 1
                gold(0, 90) 90
                count(8) 0
                give(0, 1, 9) 81
                count(8) 0
                give(0, 1, 10) 81
                count(8) 10
                forge(1, 0) 1
                count(8) 10                  # a number, not a copy
                give(0, 1, 29) 72
                count(8) 30
                give(1, 0, 10) 18
                count(8) 20
                burn(0) 1
                count(8) 20
                give(1, 0, 20) 18
                count(8) 0
                """);
    }

    private static void copies() {
        EdgeTest.edge("a forged one is a COPY more (400 COPIES at most, with those that are gone).", """
                house(0, 0) 1
                gold(0, 10000) 10000
                give(0, 1, 3000) 10000
                99 x forge(1, 7) 1..
                forge(1, 8) 1                # the copy 400
                forge(1, 8) -8
                forge(1, 0) -8
                copyAt(7, 99) 1
                copyAt(7, 100) -3
                give(1, 0, 10) 0
                count(11) 100
                copyAt(7, 99) -1
                look(1, 3) 299
                forge(1, 8) -8               # those that are gone count
                forge(0, 8) -5
                status(-8) 3
                """);
        EdgeTest.edge("(and COPIES have room for those that are NEW)", """
                house(0, 0) 1
                house(0, 0) 2
                gold(0, 9000) 9000
                give(0, 2, 20) 9000
                give(2, 0, 20) 0             # 0 and 1 are in
                give(0, 1, 20) 9000
                give(1, 0, 10) 0             # 0 is in, 1 is out
                396 x forge(2, 1) 1..
                give(0, 2, 40) -7            # 0, and three new ones: room for two
                count(8) 10
                number(0) 2
                give(0, 2, 30) 9000          # 0, and two new ones
                copyAt(3, 0) 2
                forge(2, 1) -8
                give(0, 2, 10) -7            # no room for a new one
                give(0, 2, 9) 8991
                give(2, 0, 29) 0             # 0 and 1 are in
                count(9) 2
                give(0, 1, 30) -7
                give(0, 1, 20) 9000          # none of them is new
                count(4) 0
                """);
        EdgeTest.edge("A HOUSE holds COPIES; its ORDER: by NUMBER, then by COPY.", """
                house(0, 0) 1
                house(0, 0) 2
                house(0, 0) 3
                gold(0, 500) 500
                give(0, 1, 40) 500
                give(0, 2, 20) 500
                forge(1, 4) 1
                forge(1, 2) 1
                forge(1, 2) 2
                forge(1, 0) 1                # 0 0, 0 1, 1, 2 0, 2 1, 2 2, 3, 4 1
                give(2, 1, 10) 0             # and 4 0, that comes ahead of 4 1
                give(1, 3, 10) 0
                copyAt(0, 0) 3
                copyAt(0, 1) 1
                give(1, 3, 30) 0
                copyAt(0, 1) 3
                copyAt(1, 0) 3
                copyAt(2, 0) 3
                copyAt(2, 1) 1
                give(1, 3, 20) 0
                copyAt(2, 1) 3
                copyAt(2, 2) 3
                copyAt(3, 0) 1
                give(1, 3, 20) 0
                copyAt(3, 0) 3
                copyAt(4, 0) 3
                copyAt(4, 1) 1
                """);
        EdgeTest.edge("the HOUSES that held it in order, each time (THE BANK first, if it was ISSUED as NEW, and"
                + " whenever it came IN; a forged one: the HOUSE to which it came): the first 8 of them.", """
                house(0, 0) 1
                house(0, 0) 2
                gold(0, 500) 500
                give(0, 1, 10) 500
                trail(0, 0, 0) 0
                trail(0, 0, 1) 1
                trail(0, 0, 2) -3
                present(1, 1) 1
                trail(0, 0, 2) 0
                trail(0, 0, 3) -3
                give(0, 2, 10) 490
                trail(0, 0, 3) 2             # THE BANK comes but once
                trail(0, 0, 4) -3
                give(2, 1, 10) 0
                give(1, 2, 10) 10
                trail(0, 0, 5) 2
                trail(0, 0, 6) -3
                give(2, 0, 10) 0
                trail(0, 0, 6) 0
                trail(0, 0, 7) -3
                give(0, 1, 10) 490
                trail(0, 0, 7) 1             # the eighth
                trail(0, 0, 8) -3
                give(1, 2, 10) 10
                trail(0, 0, 7) 1
                trail(0, 0, 8) -3            # no ninth
                copyAt(0, 0) 2
                forge(1, 0) 1
                trail(0, 1, 0) 1
                trail(0, 1, 1) -3
                """);
        EdgeTest.edge("A NUMBER that was IN goes on, as it is ISSUED, as its COPY that came IN last.", """
                house(0, 0) 1
                house(0, 0) 2
                gold(0, 500) 500
                give(0, 1, 10) 500
                forge(2, 0) 1
                give(2, 0, 10) 0             # the forged one comes in
                copyAt(0, 1) 0
                copyAt(0, 0) 1
                give(0, 2, 10) 500           # and goes on
                copyAt(0, 1) 2
                trail(0, 1, 2) 2
                give(1, 0, 10) 0             # now the true one, for the number is out
                copyAt(0, 0) 0
                number(0) 2
                give(0, 1, 10) 500
                copyAt(0, 0) 1
                copyAt(0, 1) 2
                trail(0, 0, 3) 1
                give(2, 0, 10) 0             # and the forged one once more
                copyAt(0, 1) 0
                present(1, 1) 0
                copyAt(0, 0) -1
                give(0, 1, 10) 500
                copyAt(0, 1) 1
                """);
        EdgeTest.edge("To GIVE to itself changes nothing, and each CAN.", """
                house(0, 0) 1
                house(1, 0) 2
                mind(1, 0, 2) 0
                gold(2, 50) 50
                bill(2, 1, 50, 3) 0
                sell(0) 50                   # the bank holds what it owes
                look(2, 7) 0
                run(4) 0                     # and pays it without a coin
                of(0, 0) -3
                look(2, 4) 1
                look(2, 7) 0
                give(1, 1, 5) -7             # but the call is refused
                """);
        EdgeTest.edge("To GIVE to itself changes nothing, and each CAN.", """
                house(0, 0) 1
                house(1, 0) 2
                mind(1, 0, 2) 0
                gold(0, 500) 500
                give(0, 2, 50) 500
                gold(2, 7) 7
                bill(2, 1, 30, 3) 0
                sell(0) 30                   # the bank holds what it owes, and two notes
                run(4) 0
                of(0, 0) -3
                look(2, 2) 7
                look(2, 3) 2
                trail(3, 0, 1) 2
                trail(3, 0, 2) -3            # no house held it twice
                trail(4, 0, 2) -3
                """);
    }

    private static void givingOfHouses() {
        EdgeTest.edge("of its COPIES, in ORDER, as many as it holds, but no more than s / 10; the rest in GOLD."
                + " It CAN if its GOLD is enough for that.", """
                house(0, 0) 1
                house(0, 0) 2
                gold(0, 500) 500
                give(0, 1, 30) 500
                give(1, 2, 1) -7             # without gold
                give(1, 2, 9) -7
                give(1, 2, 11) -7
                gold(1, 9) 9
                give(1, 2, 9) 0              # no note for 9
                look(2, 3) 0
                look(2, 2) 9
                give(2, 1, 9) 0
                give(1, 2, 10) 9             # one for 10
                look(2, 3) 1
                give(1, 2, 19) 0             # one, and 9
                look(2, 3) 2
                look(2, 2) 9
                gold(1, 11) 11
                give(1, 2, 22) -7            # one note, 12 in gold
                give(1, 2, 21) 0             # one note, 11 in gold
                look(1, 3) 0
                look(2, 3) 3
                look(2, 2) 20
                give(2, 1, 51) -7
                give(2, 1, 50) 0
                look(2, 7) 0
                give(2, 1, 1) -7
                give(1, 2, 20) 20
                """);
        EdgeTest.edge("A HOUSE GIVES s (1 .. 9999) to another one: its GOLD then."
                + " BEYOND, NO: s, a HOUSE and itself, one is DOWN, it CAN'T.", """
                house(0, 0) 1
                house(0, 0) 2
                gold(0, 50) 50
                give(0, 1, 15) 45
                promise(1, 2, 16, 1) 0
                run(2) 1
                look(1, 7) 15                # it is down, with a note and gold
                give(1, 2, 15) -7
                give(1, 0, 10) -7
                give(1, 2, 5) -7
                look(1, 7) 15
                """);
        EdgeTest.edge("A HOUSE GIVES s (1 .. 9999) to another one: its GOLD then."
                + " BEYOND, NO: s, a HOUSE and itself, one is DOWN, it CAN'T.", LandTests.ONE_DOWN + """
                2 x gold(2, 10000) ?
                house(0, 0) 3
                give(2, 3, 0) -7
                give(2, 3, -1) -7
                give(2, 3, -2147483648) -7
                give(2, 3, 10000) -7
                give(2, 3, 2147483647) -7
                give(2, 3, 1) 19999
                give(2, 3, 9999) 10000
                give(2, 3, 9998) 2
                give(2, 2, 1) -7
                give(2, 1, 1) -7
                give(1, 2, 1) -7
                give(0, 1, 1) -7
                give(0, 0, 1) -7
                give(2, 4, 0) -3
                give(4, 2, 0) -3
                give(-1, 2, 0) -3
                give(2, -1, 0) -3
                give(2, 0, 3) -7
                give(2, 0, 2) 0
                give(2, 0, 1) -7
                look(0, 2) 2
                look(3, 2) 19998
                """);
    }

    private static void givingToTheBank() {
        EdgeTest.edge("first those of its COPIES whose NUMBER isn't OUT, and of two of one NUMBER the one behind,"
                + " are FOUND: they are gone", NoteTests.FIVE_NOTES + """
                forge(1, 3) 1
                forge(1, 3) 2
                forge(2, 1) 1
                forge(2, 2) 1
                forge(2, 2) 2                # 2 has 1 1, 2 1, 2 2
                give(1, 2, 20) 0             # and 0 0, 1 0
                gold(2, 1) 1
                give(2, 0, 1) 0              # all that are forged are found, though no note goes
                count(11) 2                  # 1 1 behind 1 0, 2 2 behind 2 1
                copyAt(1, 0) 2
                copyAt(1, 1) -1
                copyAt(2, 1) 2
                copyAt(2, 2) -1
                look(2, 3) 3
                give(2, 0, 30) 0             # 2 comes in as its copy 1
                number(2) 2
                count(11) 2
                gold(1, 1) 1
                give(1, 0, 1) 0              # 2 0: its number is in; 3 1 and 3 2 are behind 3 0
                count(11) 5
                found(2, 0) 2
                found(3, 0) 3
                found(4, 0) 3
                copyAt(2, 0) -1
                copyAt(3, 0) 1
                copyAt(3, 1) -1
                copyAt(3, 2) -1
                look(1, 3) 2
                """);
        EdgeTest.edge("(each is noted: NUMBER, HOUSE, DAY; the first 60)", """
                house(0, 0) 1
                house(0, 0) 2
                gold(0, 500) 500
                gold(1, 9) 9
                gold(2, 9) 9
                give(0, 1, 30) 500
                58 x forge(1, 1) 1..
                give(1, 0, 1) 8
                count(11) 58
                found(57, 0) 1
                found(58, 0) -3
                run(2) 0
                forge(2, 0) 1
                forge(2, 0) 2
                give(2, 0, 1) 8              # one of two
                count(11) 59
                found(58, 0) 0
                found(58, 1) 2
                found(58, 2) 2
                found(59, 0) -3
                run(3) 0
                forge(1, 2) 1
                forge(1, 2) 2
                forge(2, 0) 3
                present(1, 2) 2              # the sixtieth, and one more
                count(11) 61
                found(59, 0) 2
                found(59, 1) 1
                found(59, 2) 5
                found(60, 0) -3
                found(60, 9) -3
                give(2, 0, 1) 7              # they are gone, but not noted
                count(11) 63                 # number 0 is in: both of them
                look(2, 3) 0
                copyAt(0, 1) -1
                copyAt(0, 3) -1
                found(60, 0) -3
                found(0, 2) 0
                """);
        EdgeTest.edge("(Where it is asked whether it CAN: as if these were gone; nothing is FOUND by that.)",
                NoteTests.FIVE_NOTES + """
                forge(1, 4) 1
                forge(1, 4) 2                # seven copies, five of them good
                give(1, 0, 60) -7
                give(1, 0, 51) -7
                count(11) 0
                look(1, 3) 7
                gold(1, 9) 9
                give(1, 0, 60) -7            # 10 in gold
                count(11) 0
                gold(1, 1) 10
                give(1, 0, 60) 0
                count(11) 2
                count(8) 0
                look(1, 3) 0
                """);
        EdgeTest.edge("(Where it is asked whether it CAN: as if these were gone; nothing is FOUND by that.)",
                NoteTests.FIVE_NOTES + """
                give(1, 0, 10) 0             # number 0 is in
                forge(1, 0) 1                # so this copy isn't worth a thing
                look(1, 3) 5
                give(1, 0, 50) -7
                give(1, 0, 41) -7
                count(11) 0
                give(1, 0, 40) 0
                count(11) 1
                look(1, 3) 0
                look(1, 2) 0
                """);
        EdgeTest.edge("(Where it is asked whether it CAN: as if these were gone; nothing is FOUND by that.)",
                NoteTests.FIVE_NOTES + """
                give(1, 0, 10) 0
                burn(0) 1
                forge(2, 0) 1
                give(2, 0, 10) -7
                bill(2, 1, 10, 1) 0
                sell(0) 10                   # THE BANK is its holder
                run(2) 1
                down(2, 0) 1                 # the copy of what is burnt doesn't pay it
                look(2, 3) 1
                copyAt(0, 1) 2
                count(11) 0
                """);
        EdgeTest.edge("Then as above; NUMBERS given so are IN.", NoteTests.FIVE_NOTES + """
                gold(1, 8) 8
                give(1, 0, 8) 0
                count(9) 0
                give(1, 0, 10) 0
                count(9) 1
                number(0) 2
                number(1) 1
                give(1, 0, 40) 0
                count(9) 5
                count(8) 0
                look(0, 2) 508
                give(1, 0, 10) -7
                """);
    }

    private static void givingOfTheBank() {
        EdgeTest.edge("THE BANK GIVES s: s / 10 NOTES ISSUED, the rest in GOLD. It CAN if its GOLD is enough for"
                + " the rest", """
                house(0, 0) 1
                tape lift 1
                text(0, 9) 0
                give(0, 1, 1) -7
                give(0, 1, 9) -7
                give(0, 1, 10) 0             # lifted: without gold
                give(0, 1, 11) -7
                gold(0, 8) 8
                give(0, 1, 19) -7
                give(0, 1, 9) -7
                give(0, 1, 18) 0
                look(1, 3) 2
                look(1, 2) 8
                gold(0, 9) 9
                give(0, 1, 9) 0
                look(1, 3) 2
                look(1, 2) 17
                """);
        EdgeTest.edge("there are so many NUMBERS that are IN or NEW", """
                house(0, 0) 1
                tape lift 1
                text(0, 9) 0
                give(0, 1, 2980) 0
                give(0, 1, 30) -7
                give(1, 0, 20) 0
                burn(1) 1                    # one is in, two are new
                give(0, 1, 40) -7
                give(0, 1, 30) 0
                count(8) 2990
                give(0, 1, 10) -7
                give(1, 0, 30) 0
                burn(0) 2
                give(0, 1, 30) -7            # two are in, and no new one
                give(0, 1, 20) 0
                """);
        EdgeTest.edge("if some are ISSUED, OUT by then is not above what the LAW out SAYS (or the LAW is LIFTED).", """
                house(0, 0) 1
                gold(0, 59) 59
                tape out 49
                text(0, 2) 0
                give(0, 1, 50) -7            # 50 is above 49
                give(0, 1, 40) 59
                give(0, 1, 10) -7
                run(2) 0                     # no text any more: GOLD
                give(0, 1, 20) -7            # 60 is above 59
                give(0, 1, 10) 59            # 50
                give(0, 1, 9) 50             # none is issued; 50 is just GOLD
                give(0, 1, 10) -7
                tape out 60
                text(2, 9) 1
                give(0, 1, 10) 50            # 60 is not above 60
                give(0, 1, 10) -7
                tape out 0-1
                text(2, 9) 2
                give(0, 1, 9) 41             # none is issued: the law isn't asked
                give(0, 1, 10) -7
                tape lift 0-1
                text(2, 4) 3
                give(0, 1, 10) 41            # what is not 0 lifts
                count(16) 1
                tape lift 0
                text(2, 9) 4
                count(16) 0
                give(0, 1, 10) -7
                count(8) 70
                """);
    }

    private static void presenting() {
        EdgeTest.edge("FOUND as above; of what is left the first n, or as many as there are, one after the other",
                NoteTests.FIVE_NOTES + """
                forge(1, 0) 1
                forge(1, 4) 1
                present(1, 1) 1              # 0 0, not 0 1
                count(11) 2
                copyAt(0, 0) 0
                copyAt(0, 1) -1
                number(1) 1
                present(1, 3) 3
                number(3) 2
                number(4) 1
                present(1, 2) 1              # as many as there are
                present(1, 400) 0
                present(1, 1) 0
                look(1, 2) 50
                count(14) -1
                forge(1, 2) 1
                present(1, 1) 0              # its number is in: found
                count(11) 3
                """);
        EdgeTest.edge("if THE BANK's GOLD is 10 at least 10 of it go to the HOUSE, and the COPY is IN; else THE BANK"
                + " is STOPPED (on that DAY), and that one and those behind stay.", """
                house(0, 0) 1
                house(0, 0) 2
                gold(0, 20) 20
                tape lift 1
                text(0, 99) 0
                give(0, 1, 30) 20
                give(0, 2, 20) 20
                run(3) 0
                present(1, 1) 1
                look(0, 2) 10
                present(1, 1) 1              # 10 is enough
                look(0, 2) 0
                count(14) -1
                present(2, 2) 0              # 0 is not
                count(14) 3
                look(2, 3) 2
                look(2, 2) 0
                number(3) 1
                """);
        EdgeTest.edge("else THE BANK is STOPPED (on that DAY), and that one and those behind stay.", """
                house(0, 0) 1
                gold(0, 29) 29
                tape lift 1
                text(0, 99) 0
                give(0, 1, 40) 29
                run(5) 0
                present(1, 4) 2              # 9 is one too few
                look(0, 2) 9
                count(14) 5
                look(1, 3) 2
                look(1, 2) 20
                number(1) 2
                number(2) 1
                number(3) 1
                """);
        EdgeTest.edge("Behind that nothing is ever PRESENTED.", """
                house(0, 0) 1
                house(0, 0) 2
                gold(0, 9) 9
                tape lift 1
                text(0, 99) 0
                give(0, 1, 20) 9
                give(0, 2, 10) 9
                bold(2, 999) 9000
                present(1, 1) 0
                count(14) 0
                gold(0, 1000) 1009
                present(1, 1) -7
                present(2, 1) -7
                run(14) 0                    # nor in runs
                look(2, 3) 1
                count(14) 0
                sheet(0, 5) 999
                run(60) 0
                present(1, 1) -7
                give(1, 0, 10) 0             # it may be given
                """);
        EdgeTest.edge("A HOUSE PRESENTS n COPIES (1 .. 400): how many were IN by that. BEYOND, KIND: THE BANK;"
                + " NO: n, it is DOWN, THE BANK is STOPPED.", LandTests.ONE_DOWN + """
                gold(0, 10) 10
                give(0, 2, 10) 10
                present(2, 0) -7
                present(2, -1) -7            # no BELOW here
                present(2, -2147483648) -7
                present(2, 401) -7
                present(2, 2147483647) -7
                present(1, 1) -7
                present(0, 0) -5
                present(0, 401) -5
                present(3, 0) -3
                present(-1, 0) -3
                present(2, 400) 1
                present(2, 1) 0
                status(-7) 6
                """);
    }

    private static void promises() {
        EdgeTest.edge("A NUMBER that is IN is BURNT: how many are. BEYOND, NO: it isn't IN.", """
                house(0, 0) 1
                gold(0, 10000) 10000
                give(0, 1, 3000) 10000
                burn(299) -7
                give(1, 0, 3000) 0
                burn(300) -3
                burn(-1) -3
                burn(2147483647) -3
                burn(-2147483648) -3
                burn(299) 1
                burn(0) 2
                burn(299) -7
                burn(298) 3
                count(9) 297
                count(10) 3
                give(0, 1, 2980) -7
                give(0, 1, 2970) 10000
                burn(1) -7
                """);
        EdgeTest.edge("A forged COPY of a NUMBER that isn't NEW comes to a HOUSE: which COPY it is."
                + " BEYOND (HOUSE, NUMBER), KIND: THE BANK; NO: it is NEW, the HOUSE is DOWN; FULL.",
                NoteTests.FIVE_NOTES + """
                forge(1, 4) 1
                forge(1, 5) -7               # the first that is new
                forge(1, 299) -7
                forge(1, 300) -3
                forge(1, -1) -3
                forge(3, 0) -3
                forge(-1, 0) -3
                forge(0, 300) -3
                forge(0, 5) -5
                forge(0, 0) -5
                promise(2, 1, 5, 1) 0
                run(2) 1
                forge(2, 0) -7
                forge(2, 5) -7
                394 x forge(1, 0) 1..
                forge(1, 0) -8               # 5 and 395 are 400
                forge(1, 5) -7               # NO is ahead of FULL
                forge(2, 0) -7
                forge(0, 0) -5
                forge(1, 300) -3
                """);
        EdgeTest.edge("Who has COPY c of a NUMBER (THE BANK if it came IN and wasn't ISSUED since); NONE: it was FOUND."
                + " BEYOND (NUMBER, c).", NoteTests.FIVE_NOTES + """
                copyAt(4, 0) 1
                copyAt(5, 0) -3
                copyAt(4, 1) -3
                copyAt(4, -1) -3
                copyAt(4, 2147483647) -3
                copyAt(4, -2147483648) -3
                copyAt(-1, 0) -3
                copyAt(300, 0) -3
                copyAt(2147483647, 0) -3
                forge(2, 4) 1
                copyAt(4, 1) 2
                copyAt(4, 2) -3
                give(2, 0, 10) 0
                copyAt(4, 1) 0
                gold(1, 1) 1
                give(1, 0, 1) 0
                copyAt(4, 0) -1              # it was found
                status(-3) 9                 # that is no refusal
                burn(4) 1
                copyAt(4, 1) 0
                """);
        EdgeTest.edge("HOUSE i, from 0, of the TRAIL of COPY c of a NUMBER. BEYOND.", NoteTests.FIVE_NOTES + """
                trail(4, 0, 0) 0
                trail(4, 0, 1) 1
                trail(4, 0, 2) -3
                trail(4, 0, -1) -3
                trail(4, 0, 2147483647) -3
                trail(4, 0, -2147483648) -3
                trail(4, 1, 0) -3
                trail(4, -1, 0) -3
                trail(5, 0, 0) -3
                trail(-1, 0, 0) -3
                trail(300, 0, 0) -3
                forge(2, 4) 1
                trail(4, 1, 0) 2
                trail(4, 1, 1) -3
                gold(2, 1) 1
                give(1, 0, 50) 0
                give(2, 0, 1) 0
                copyAt(4, 1) -1
                trail(4, 1, 0) 2             # what was found had its trail
                trail(4, 1, 1) -3
                """);
        EdgeTest.edge("Of what was FOUND, the i-th, from 0: NUMBER (what = 0), HOUSE (1), DAY (2). BEYOND, NO.",
                NoteTests.FIVE_NOTES + """
                found(0, 0) -3
                found(0, 3) -3
                forge(1, 4) 1
                run(9) 0
                present(1, 1) 1
                found(0, 0) 4
                found(0, 1) 1
                found(0, 2) 9
                found(0, 3) -7
                found(0, -1) -7
                found(1, 0) -3
                found(1, 3) -3
                found(-1, 0) -3
                found(2147483647, 0) -3
                found(-2147483648, -1) -3
                """);
    }
}
