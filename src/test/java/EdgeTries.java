/** Section 8 of the document: tries and plans; promises 46 to 50. */
final class EdgeTries {
    private EdgeTries() {
    }

    static void all() {
        tries();
        triesFromMidweek();
        outcomes();
        asBefore();
        plans();
        plansOfWeeks();
        stoppedAheadOfDown();
        attempts();
        planPromise();
        judges();
        images();
        imagesOfAll();
        imagesOfPapers();
        imagesOfNotes();
    }

    private static void tries() {
        EdgeTest.edge("A TRY: with RATES told for 1 .. 4 WEEKS: from the open DAY on 7 times so many DAYS go by; ahead of"
                + " the first, the eighth .. of them RATE becomes the one that is told", """
                flow(10) 0
                gold(0, 100) 100
                attempt(20, 1, 0) 250
                attempt(5, 1, 0) 100
                attempt(0, 1, 0) 50
                attempt(0, 2, 0) 0
                attempt(0, 2, 4) 0           # just enough
                attempt(0, 3, 4) 1
                attempt(0, 3, 0) 0
                attempt(20, 2, 0) 200        # 20, then 0
                attempt(640, 2, 0) 200       # 0, then 20
                attempt(20, 4, 0) 100
                attempt(676500, 4, 0) 700    # four times 20
                attempt(0, 0, 0) -7
                attempt(0, 5, 0) -7
                look(0, 2) 100
                count(15) 5
                """);
    }

    private static void triesFromMidweek() {
        String land = PaperTests.FOUR + """
                tape rate 9
                text(0, 99) 0
                flow(10) 0
                gold(0, 100) 100
                gold(1, 60) 60
                tell(0, 0, 0) -1
                """;
        EdgeTest.edge("ahead of the first, the eighth .. of them RATE becomes the one that is told; the RULE rate is not"
                + " followed.", land + """
                run(3) 0
                trade(1, 2, 100, 1) 0
                attempt(20, 1, 0) 250        # day 6 is in it
                attempt(20, 1, 2) 0          # day 7: 60 of 60, at 20 and not at 9
                attempt(19, 1, 2) 1          # 62
                attempt(20, 2, 0) 200        # day 13 at 0
                attempt(20, 2, 2) 1
                attempt(640, 2, 0) 200
                attempt(640, 2, 2) 1
                gold(1, 60) 120
                attempt(20, 2, 2) 1          # on day 14 at 0: 100 of 60
                gold(1, 39) 159
                attempt(20, 2, 2) 1
                gold(1, 1) 160
                attempt(20, 2, 2) 0
                attempt(660, 2, 2) 0
                run(4) 0
                count(15) 9                  # now it is followed
                look(0, 2) 100
                """);
        EdgeTest.edge("the RULE rate is not followed.", land + """
                run(3) 0
                trade(1, 2, 100, 1) 0
                plan(676500, 1) 0            # at 20 from day 3 to day 9
                row(0) 20
                row(1) 250
                row(3) 0
                judge() -1
                plan(642675, 1) 1            # at 19 the bill of day 7 is 62
                row(0) 19
                row(3) 1
                judge() -1
                """);
        EdgeTest.edge("from the open DAY on 7 times so many DAYS go by", LandTests.ONE_DOWN + """
                house(0, 0) 3
                promise(2, 3, 5, 6) 1        # due on day 8
                promise(2, 3, 5, 7) 2        # due on day 9
                gold(2, 5) 5
                attempt(5, 1, 2) 1           # days 2 to 8
                attempt(5, 2, 2) 2
                run(6) 0
                count(0) 8
                attempt(5, 1, 2) 2
                """);
    }

    private static void outcomes() {
        EdgeTest.edge("OUTCOME: 0 THE BANK's GOLD, 1 OUT, 2 HOUSES DOWN, 3 how many were REFUSED by it in the TRY,"
                + " 4 whether THE BANK is STOPPED (1, 0).", LandTests.ONE_DOWN + """
                house(0, 0) 3
                gold(0, 200) 200
                tape buy day>8
                text(0, 99) 0
                bill(2, 3, 50, 60) 1
                sell(1) 0
                mind(3, 999, 0) 0
                count(12) 1
                attempt(5, 1, 0) 200
                attempt(5, 1, 1) 0
                attempt(5, 1, 2) 1           # the one that was down already
                attempt(5, 1, 3) 7           # days 2 to 8, without the one ahead of it
                attempt(5, 1, 4) 0
                attempt(165, 2, 0) 200
                attempt(165, 2, 1) 50
                attempt(165, 2, 3) 7
                count(12) 1
                count(8) 0
                flow(100) 0
                attempt(3, 1, 0) 0
                attempt(3, 1, 4) 0           # it had just so much
                attempt(2, 1, 4) 1
                count(14) -1
                gold(0, 1) 201
                attempt(3, 1, 0) 1
                """);
        EdgeTest.edge("4 whether THE BANK is STOPPED (1, 0).", """
                flow(1) 0
                tell(1, 0, 6) -1
                run(7) 0
                attempt(20, 1, 4) 1          # from before
                attempt(20, 1, 0) 14
                """);
    }

    private static void asBefore() {
        EdgeTest.edge("Then all is as before.", PaperTests.FOUR + """
                gold(0, 100) 100
                give(0, 1, 40) 100
                give(0, 4, 10) 100
                give(4, 0, 10) 0
                forge(2, 0) 1
                gold(2, 5) 5
                deposit(1, 3, 20) 0
                bill(1, 2, 30, 3) 1
                promise(2, 1, 5, 1) 2
                trade(1, 2, 50, 4) 0
                mind(2, 99, 0) 0
                bold(1, 999) 9000
                flow(9) 0
                lay(3) 3
                set(2, 7) 0
                attempt(0, 4, 2) 1
                attempt(0, 4, 4) 1
                plan(0, 2) 1
                judge() -1
                count(0) 0
                count(4) 3
                count(8) 40
                count(9) 1
                count(11) 0
                count(12) 0
                count(13) 0
                count(14) -1
                count(15) 5
                look(0, 2) 100
                look(1, 3) 2
                look(2, 2) 5
                look(2, 4) 1
                copyAt(0, 1) 2
                copyAt(5, 0) -3
                trail(0, 0, 2) 3
                trail(0, 0, 3) -3
                trail(4, 0, 2) 0
                trail(4, 0, 3) -3
                found(0, 0) -3
                sheet(0, 0) -3
                of(1, 5) 0
                of(1, 6) 2
                of(1, 9) -1
                of(3, 0) -3
                knew(1, 0, 0) 0
                attempt(0, 4, 2) 1           # and again the same
                row(8) 0
                row(7) 1
                """);
    }

    private static void plans() {
        EdgeTest.edge("one that leaves THE BANK not STOPPED comes ahead of others", PaperTests.FOUR + """
                gold(0, 1) 1
                flow(1) 0
                tape lift 1
                text(0, 99) 0
                mind(2, 9999, 0) 0
                bill(1, 2, 2990, 60) 0
                promise(2, 1, 2990, 1) 1
                attempt(0, 1, 2) 0
                attempt(0, 1, 4) 1
                attempt(20, 1, 2) 1          # the bill brings 99 less
                attempt(20, 1, 4) 0
                plan(655360, 1) 1            # 0, 0, 0, 20
                row(0) 20
                row(1) 15
                row(2) 2890
                row(3) 1
                row(4) 0
                status(-3) 1
                plan(0, 1) 0                 # all are stopped
                row(0) 0
                row(1) 0
                row(2) 2990
                row(3) 0
                """);
        String land = PaperTests.FOUR + """
                house(0, 0) 5
                gold(0, 900) 900
                gold(1, 40) 40
                tell(0, 0, 50) -1
                trade(1, 2, 100, 3) 0
                tape buy price<20
                text(0, 99) 0
                bill(3, 5, 50, 60) 0
                mind(5, 999, 0) 0
                """;
        EdgeTest.edge("then one with fewer HOUSES DOWN, then with fewer REFUSED", land + """
                attempt(0, 1, 2) 1
                attempt(0, 1, 3) 0
                attempt(20, 1, 2) 0
                attempt(20, 1, 3) 7
                plan(655360, 1) 0            # fewer down, though more are refused
                row(0) 20
                row(3) 0
                plan(675860, 1) 0            # 20, 0, 20, 20
                row(0) 20
                plan(676468, 1) 0            # 20, 19, 20, 20: as few are down, and none refused
                row(0) 19
                row(1) 891
                row(2) 40
                """);
        EdgeTest.edge("of like ones the first (by the place of each RATE among the four, WEEK by WEEK).", land + """
                plan(641650, 1) 0            # 18, 19, 18, 19
                row(0) 18
                plan(608883, 1) 0            # 19, 19, 18, 18
                row(0) 19
                goesOn(0, 0) 1
                plan(641650, 2) 0
                row(0) 18
                row(4) 18
                plan(641650, 4) 0
                row(0) 18
                row(12) 18
                """);
    }

    private static void plansOfWeeks() {
        EdgeTest.edge("of all rows of RATES (each WEEK one of the four)", """
                flow(1) 0
                gold(0, 5) 5
                plan(656000, 2) 0            # 0, 20, 0, 20: one week of 0 can be borne
                row(0) 0
                row(1) 0
                row(4) 20
                row(5) 15
                row(8) 0
                status(-3) 1
                plan(20500, 2) 0             # 20, 0, 20, 0
                row(0) 20
                row(1) 20
                row(4) 20
                row(5) 35
                plan(655360, 2) 0            # the last of the four
                row(0) 0
                row(4) 20
                plan(656000, 4) 0
                row(0) 0
                row(4) 20
                row(8) 0
                row(12) 0
                row(13) 5
                judge() -1
                """);
        EdgeTest.edge("A PLAN for 1 .. 4 WEEKS of four RATES", """
                plan(0, 0) -7
                plan(0, 5) -7
                plan(0, -1) -7
                plan(0, 2147483647) -7
                plan(0, -2147483648) -7
                tear() 0
                plan(0, 1) 0
                row(3) 0
                row(4) 0
                plan(0, 4) 0
                row(15) 0
                row(16) 0
                status(-3) 2
                """);
        EdgeTest.edge("Its ROW has for each WEEK four numbers: RATE, and THE BANK's GOLD, OUT, HOUSES DOWN behind it.",
                LandTests.ONE_DOWN + """
                house(0, 0) 3
                gold(0, 100) 100
                flow(1) 0
                mind(3, 999, 0) 0
                run(4) 0
                trade(2, 3, 50, 60) 0
                promise(2, 3, 5, 8) 1        # due on day 14
                gold(3, 5) 5
                promise(3, 2, 5, 1) 2        # due on day 7
                give(3, 2, 5) 0
                plan(106631, 3) 2            # 7, 4, 8, 3
                row(0) 7
                row(1) 102                   # day 6 at 7; days 6 to 12
                row(2) 0
                row(3) 2
                row(4) 7
                row(5) 104                   # days 13 to 19
                row(7) 2
                row(8) 7
                row(9) 106
                row(11) 2
                """);
        EdgeTest.edge("Its ROW has for each WEEK four numbers: RATE, and THE BANK's GOLD, OUT, HOUSES DOWN behind it.",
                PaperTests.FOUR + """
                gold(0, 500) 500
                mind(1, 9999, 0) 0
                trade(2, 1, 100, 60) 0
                plan(168069, 3) 0            # 5, 4, 4, 5: each WEEK a bill of 90 is sold for 9 notes
                row(2) 90
                row(6) 180
                row(10) 270
                judge() -1
                set(6, 90) 180
                judge() 6
                """);
    }

    private static void stoppedAheadOfDown() {
        EdgeTest.edge("one that leaves THE BANK not STOPPED comes ahead of others, then one with fewer HOUSES DOWN", """
                6 x house(0, 0) 1..
                gold(0, 1000) 1000
                flow(100) 0
                tell(1, 0, 20) -1
                trade(6, 1, 100, 60) 0
                trade(6, 2, 100, 60) 1
                trade(6, 3, 100, 60) 2
                trade(6, 4, 100, 60) 3
                trade(6, 5, 100, 60) 4
                mind(1, 9999, 0) 0
                mind(2, 9999, 0) 0
                mind(3, 9999, 0) 0
                mind(4, 9999, 0) 0
                mind(5, 9999, 0) 0
                promise(1, 6, 80, 3) 0
                promise(2, 6, 80, 3) 1
                promise(3, 6, 80, 3) 2
                promise(4, 6, 80, 3) 3
                promise(5, 6, 80, 3) 4
                attempt(0, 1, 2) 0           # each BILL is sold for 100; but the ships take all GOLD
                attempt(0, 1, 4) 1
                attempt(20, 1, 2) 5          # each for 58
                attempt(20, 1, 4) 0
                plan(656000, 1) 5            # 0, 20, 0, 20
                row(0) 20
                row(1) 960                   # each got 8 of it
                row(2) 250
                row(3) 5
                """);
    }

    private static void attempts() {
        EdgeTest.edge("OUTCOME (what 0 .. 4) of a TRY: RATES told as digits to the base 32, the first WEEK's the lowest."
                + " BEYOND: what; NO: WEEKS, a RATE, or more digits than RATES; FULL: beyond DAY 700.", """
                attempt(0, 1, 5) -3
                attempt(0, 1, -1) -3
                attempt(0, 1, 2147483647) -3
                attempt(21, 5, 5) -3         # BEYOND is ahead of NO
                attempt(0, 0, 0) -7
                attempt(0, -1, 0) -7
                attempt(0, 5, 0) -7
                attempt(0, 2147483647, 0) -7
                attempt(0, -2147483648, 0) -7
                attempt(-1, 1, 0) -7
                attempt(-2147483648, 4, 0) -7
                attempt(20, 1, 0) 0
                attempt(21, 1, 0) -7
                attempt(31, 1, 0) -7
                attempt(32, 1, 0) -7         # two digits
                attempt(32, 2, 0) 0
                attempt(640, 2, 0) 0
                attempt(672, 2, 0) -7        # 0, 21
                attempt(1024, 2, 0) -7
                attempt(1024, 3, 0) 0
                attempt(20480, 3, 0) 0
                attempt(21504, 3, 0) -7
                attempt(32768, 3, 0) -7
                attempt(32768, 4, 0) 0
                attempt(676500, 4, 0) 0
                attempt(688128, 4, 0) -7     # 0, 0, 0, 21
                attempt(1048576, 4, 0) -7
                attempt(2147483647, 4, 0) -7
                status(-7) 17
                9 x run(70) 0
                run(42) 0
                attempt(0, 4, 0) 0
                run(1) 0
                attempt(0, 4, 0) -8          # day 673
                attempt(0, 3, 0) 0
                run(20) 0
                attempt(0, 1, 0) 0
                attempt(0, 2, 0) -8
                run(1) 0
                attempt(0, 1, 0) -8          # day 694
                attempt(21, 1, 0) -7         # NO is ahead of FULL
                attempt(0, 5, 0) -7
                attempt(0, 1, 5) -3
                run(6) 0
                attempt(0, 1, 0) -8
                status(-8) 4
                """);
    }

    private static void planPromise() {
        EdgeTest.edge("A PLAN: the four RATES told as digits to the base 32, the first the lowest: how many HOUSES would"
                + " be DOWN; its ROW becomes THE ROW. NO, FULL as attempt().", """
                lay(2) 2
                set(1, 5) 0
                plan(21, 1) -7
                plan(672, 1) -7
                plan(21504, 1) -7
                plan(688128, 1) -7           # each of the four, for one week, too
                plan(31, 4) -7
                plan(1048576, 1) -7
                plan(1048576, 4) -7
                plan(-1, 1) -7
                plan(-2147483648, 1) -7
                row(1) 5                     # THE ROW stays
                row(2) 0
                status(-3) 1
                plan(676500, 1) 0
                row(0) 20
                row(1) 0
                plan(3, 1) 0
                row(0) 3
                9 x run(70) 0
                run(42) 0
                plan(3, 4) 0
                run(1) 0
                plan(3, 4) -8
                plan(3, 3) 0
                run(20) 0
                plan(3, 1) 0
                run(1) 0
                lay(1) 1
                plan(3, 1) -8
                plan(21, 1) -7               # NO is ahead of FULL
                row(1) 0
                status(-3) 2
                """);
    }

    private static void judges() {
        StringBuilder sizes = new StringBuilder("judge() -2\n");
        for (int n = 0; n <= 60; n++) {
            sizes.append("lay(").append(n).append(") ").append(n).append("\njudge() ")
                    .append(n == 4 || n == 8 || n == 12 || n == 16 ? -1 : -5).append('\n');
        }
        EdgeTest.edge("MISSING; KIND: its size; FULL.", sizes + """
                9 x run(70) 0
                run(42) 0
                lay(16) 16
                judge() -1
                run(1) 0
                judge() -8                   # day 673
                lay(12) 12
                judge() -1
                run(20) 0
                lay(4) 4
                judge() -1
                lay(8) 8
                judge() -8
                run(1) 0
                lay(4) 4
                judge() -8
                set(0, 21) 0
                judge() -8                   # FULL is ahead of what is wrong
                lay(5) 5
                judge() -5                   # KIND is ahead of FULL
                tear() 1
                judge() -2
                status(-2) 2
                status(-5) 58
                status(-8) 4
                """);
        EdgeTest.edge("Whether THE ROW is the ROW of a TRY from now on (4 numbers for each of 1 .. 4 WEEKS): NONE; else"
                + " the place of the first number that isn't as it comes to be (a RATE: that may not be).", """
                lay(4) 4
                judge() -1
                set(0, 20) 0
                judge() -1
                set(0, 21) 20
                judge() 0
                set(0, -1) 21
                judge() 0
                set(0, 2147483647) -1
                judge() 0
                set(0, 7) 2147483647
                set(3, 1) 0
                judge() 3
                set(2, 1) 0
                judge() 2
                set(1, -1) 0
                judge() 1
                set(0, 21) 7
                judge() 0
                flow(2) 0
                lay(16) 16
                set(0, 6) 0
                set(1, 2) 0
                set(4, 8) 0
                set(5, 8) 0
                set(8, 5) 0
                set(9, 8) 0
                set(12, 20) 0
                set(13, 38) 0
                judge() -1
                set(13, 39) 38
                judge() 13
                set(15, 1) 0
                judge() 13
                set(12, 21) 20
                judge() 12
                set(8, 4) 5
                judge() 9                    # the RATE may be, the GOLD isn't so
                set(8, 21) 4
                judge() 8
                set(7, 1) 0
                judge() 7
                set(4, -2147483648) 8
                judge() 4
                set(1, 3) 2
                judge() 1
                count(0) 0
                look(0, 2) 0
                count(15) 5
                """);
    }

    private static void images() {
        EdgeTest.edge("All is kept (but THE ROW, THE TAPE, status()): the open DAY.", """
                back() -2
                back() -2
                run(3) 0
                image() 3
                status(-2) 2
                lay(3) 3
                set(1, 8) 0
                feed(7, 2) 2
                town() 1
                run(5) 0
                look(9, 9) -3
                back() 3
                count(1) 1
                row(1) 8                     # THE ROW, THE TAPE, status() aren't kept
                row(3) 0
                count(7) 2
                status(-2) 2
                status(-3) 2
                tear() 1
                wipe() 2
                back() 3
                tear() 0
                count(7) 0
                """);
        EdgeTest.edge("All is again as it was kept (which stays): the open DAY then. MISSING.", """
                back() -2
                house(0, 0) 1
                image() 0
                gold(1, 5) 5
                run(70) 0
                back() 0
                look(1, 2) 0
                count(0) 0
                gold(1, 6) 6
                back() 0                     # which stays
                look(1, 2) 0
                run(9) 0
                gold(1, 7) 7
                image() 9                    # another one
                gold(1, 8) 15
                back() 9
                look(1, 2) 7
                back() 9
                look(1, 2) 7
                9 x run(70) 0
                run(61) 0
                image() 700
                run(1) -8
                back() 700
                run(1) -8
                """);
    }

    private static void imagesOfAll() {
        EdgeTest.edge("All is kept", """
                town() 1
                house(0, 1) 1
                house(0, 1) 2
                house(1, 0) 3
                gold(1, 5) 5
                promise(1, 2, 1, 9) 0
                deposit(1, 3, 5) 1
                give(3, 1, 5) 0
                ask(1) 0
                trade(2, 1, 50, 33) 0
                image() 0
                look(1, 1) 1
                down(3, 1) 1
                down(3, 2) 1
                down(3, 3) 2
                run(1) 0
                of(2, 1) 45
                of(2, 2) 2
                of(2, 3) 1
                of(2, 4) 33
                back() 0
                of(2, 4) -3
                look(1, 1) 1
                down(3, 1) 1
                down(3, 2) 1
                down(3, 3) 2
                goesOn(0, 0) 1
                image() 0
                run(1) 0
                of(2, 4) -3
                goesOn(0, 1) 0
                back() 0
                goesOn(0, 1) 0
                run(1) 0
                of(2, 2) 2
                of(2, 3) 1
                of(2, 4) 33
                """);
        EdgeTest.edge("All is again as it was kept", NoteTests.FIVE_NOTES + """
                forge(2, 0) 1
                give(2, 0, 10) 0             # number 0 is in, as its copy 1
                give(1, 0, 20) 0             # 1 and 2; the copy of 0 is found
                burn(1) 1
                image() 0
                2 x give(0, 2, 10) 500       # 0 and 2
                give(1, 0, 10) 0
                burn(3) 2
                forge(1, 3) 1
                present(1, 9) 1
                count(11) 2
                back() 0
                count(8) 20
                count(9) 2
                count(10) 1
                count(11) 1
                copyAt(0, 0) -1
                copyAt(0, 1) 0
                copyAt(3, 1) -3
                found(1, 0) -3
                give(0, 2, 10) 500
                copyAt(0, 1) 2               # as its copy that came in last
                copyAt(0, 0) -1
                """);
        EdgeTest.edge("OUTCOME: 0 THE BANK's GOLD, 1 OUT", NoteTests.FIVE_NOTES + """
                give(1, 0, 20) 0
                attempt(5, 1, 1) 30          # two of the five are in
                plan(168101, 1) 0
                row(2) 30
                judge() -1
                """);
        EdgeTest.edge("All is again as it was kept", """
                image() 0
                tape out -7 if 5 - -9
                text(0, 9) 0
                says(0, -1) -7
                back() 0
                count(6) 0
                tape out 7                   # a shorter one in its place
                text(0, 9) 0
                says(0, -1) 7
                back() 0
                tape out 7 if 3
                text(0, 9) 0
                says(0, -1) 7
                """);
        EdgeTest.edge("All is kept", PaperTests.FOUR + """
                town() 1
                road(0, 1, 9) 1
                gold(0, 500) 500
                give(0, 1, 30) 500
                forge(2, 1) 1
                tape hide 3
                text(0, 99) 0
                tell(0, 3, 30) -1
                flow(4) 0
                trade(1, 2, 50, 60) 0
                bill(1, 2, 40, 30) 0
                mind(2, 5, 3) 0
                bold(2, 3004) 9000
                image() 0
                road(0, 1, 2) 2
                house(0, 1) 5
                gold(2, 9) 9
                give(1, 0, 20) 0
                burn(0) 1
                give(2, 0, 9) 0
                count(11) 1
                tape hide 8
                text(0, 99) 1
                tape hide 9
                text(0, 99) 2
                tell(0, 3, -1) 30
                flow(5) 4
                rate(7) 5
                goesOn(0, 0) 1
                trade(2, 1, 9, 9) 1
                mind(2, 0, 0) 5
                bold(2, 0) 3004
                sell(0) 40
                give(2, 1, 40) 0
                promise(2, 1, 9, 1) 1
                run(9) 1
                sheet(0, 1) 50
                down(2, 1) 1
                back() 0
                count(0) 0
                count(2) 5
                count(3) 1
                count(4) 1
                count(5) 1
                count(6) 1
                count(8) 30
                count(9) 0
                count(10) 0
                count(11) 0
                count(13) 0
                count(15) 5
                far(0, 1) 9
                look(0, 2) 500
                look(2, 5) 5
                look(2, 6) 3
                bold(2, 3004) 3004
                copyAt(0, 0) 1
                copyAt(1, 1) 2
                trail(0, 0, 2) -3
                number(0) 1
                says(4, -1) 3
                why(4, -1) 0
                week(0, 3) 30
                flow(4) 4
                goesOn(0, 1) 1
                of(0, 3) 2
                sheet(0, 1) -3
                down(2, 1) -2
                found(0, 0) -3
                tape hide 7
                text(0, 99) 1
                says(4, -1) 7
                back() 0
                says(4, -1) 3
                """);
    }

    private static void imagesOfPapers() {
        EdgeTest.edge("All is again as it was kept", PaperTests.FOUR + """
                gold(0, 900) 900
                gold(1, 300) 300
                gold(2, 100) 100
                rate(0) 5
                tape lend 50
                text(0, 99) 0
                tape hide 9
                text(0, 99) 1
                trade(1, 2, 40, 2) 0
                run(1) 0
                bill(1, 3, 20, 9) 1
                help(1, 1) 2
                promise(4, 2, 7, 30) 3
                bill(4, 2, 8, 1) 4
                sell(4) 8
                image() 1
                run(3) 1                     # 0 and the pledge are paid, 4 is protested, and paid by its drawer
                promise(3, 2, 99, 5) 0
                deposit(2, 3, 9) 2
                look(4, 4) 0
                bill(2, 1, 9, 9) 5
                help(1, 4) 6
                back() 1
                of(0, 0) 1
                of(0, 1) 40
                of(0, 2) 1
                of(0, 3) 2
                of(0, 4) 2
                of(0, 10) 1
                name(0, 0) 1
                name(0, 1) 2
                of(1, 7) 1
                of(1, 3) 0
                of(2, 0) 3
                of(2, 1) 10
                of(2, 8) 1
                of(2, 4) 2
                of(3, 5) 0
                of(4, 5) 0
                of(4, 9) -1
                of(4, 3) 0
                of(5, 0) -3
                of(6, 0) -3
                count(4) 5
                down(4, 0) -2
                run(2) 1
                image() 3
                of(4, 9) 3
                down(4, 0) 2
                run(4) 0
                sheet(0, 2) 0                # the pledge was paid
                of(4, 9) -1
                back() 3
                of(4, 9) 3
                of(4, 6) 2
                down(4, 1) 4
                down(4, 2) 0
                down(4, 3) 0
                """);
        EdgeTest.edge("All is again as it was kept", PaperTests.FOUR + """
                gold(0, 900) 900
                rate(0) 5
                tape lend 100
                text(0, 99) 0
                tape hide 3
                text(0, 99) 1
                bill(1, 2, 40, 60) 0
                bill(1, 2, 50, 60) 1
                run(2) 0
                help(0, 50) 2                # four days ahead of the sheet
                run(1) 0
                image() 3
                run(1) 0
                help(1, 50) 3
                run(3) 0
                sheet(0, 2) 50
                sheet(0, 3) 40
                back() 3
                help(1, 50) 3                # three days ahead
                run(4) 0
                sheet(0, 2) 50
                sheet(0, 3) 40
                back() 3
                run(4) 0
                sheet(0, 2) 0
                sheet(0, 3) 40
                """);
        EdgeTest.edge("All is again as it was kept", PaperTests.FOUR + """
                gold(0, 900) 900
                rate(0) 5
                tape lend 100
                text(0, 99) 0
                tape hide 2
                text(0, 99) 1
                bill(1, 2, 40, 60) 0
                bill(3, 4, 50, 60) 1
                run(2) 0
                help(0, 2) 2                 # made on day 2, due on day 4
                image() 2
                run(3) 0
                of(0, 7) 0
                of(0, 3) 2
                help(1, 20) 2                # the same number, of another bill
                of(2, 8) 1
                back() 2
                of(0, 7) 1
                of(0, 3) 0
                of(1, 7) 0
                of(1, 3) 4
                of(2, 8) 0
                of(2, 2) 2
                run(3) 0
                of(0, 7) 0
                of(0, 3) 2
                back() 2
                help(1, 20) 3
                run(2) 0
                image() 4
                run(1) 0
                of(2, 0) -3
                help(0, 20) 2                # made on day 5
                run(2) 0
                sheet(0, 2) 40
                sheet(0, 3) 50
                back() 4
                run(1) 0
                bill(4, 3, 60, 60) 2
                of(0, 7) 0
                back() 4
                of(0, 7) 1
                of(2, 8) 0
                """);
        EdgeTest.edge("All is again as it was kept", PaperTests.FOUR + """
                gold(0, 900) 900
                rate(0) 5
                tape lend 100
                text(0, 99) 0
                tape hide 2
                text(0, 99) 1
                bill(1, 2, 40, 60) 0
                bill(3, 4, 50, 60) 1
                bill(1, 2, 30, 1) 2
                gold(1, 30) 30
                run(2) 0
                help(0, 6) 2                 # made on day 2, due on day 8
                image() 2
                run(7) 0
                of(2, 0) -3
                help(1, 9) 2                 # the same number, made on day 9
                back() 2
                run(5) 0
                sheet(0, 2) 0
                sheet(0, 3) 40
                back() 2
                give(2, 1, 30) 30
                promise(2, 1, 41, 1) 3
                run(2) 1                     # the pledge is dead
                of(2, 5) 2
                of(0, 7) 0
                back() 2
                of(2, 5) 0
                of(0, 7) 1
                run(5) 0
                sheet(0, 2) 0
                sheet(0, 3) 40
                """);
    }

    private static void imagesOfNotes() {
        EdgeTest.edge("All is again as it was kept", PaperTests.FOUR + """
                gold(0, 500) 500
                give(0, 1, 30) 500
                forge(2, 0) 1
                give(1, 0, 10) 0             # copy 0 of 0 is in
                image() 0
                give(0, 1, 10) 500
                give(2, 0, 10) 0             # now copy 1 is
                forge(2, 1) 1
                forge(2, 0) 2
                give(0, 4, 20) 500
                copyAt(0, 1) 4
                copyAt(3, 0) 4
                back() 0
                copyAt(0, 0) 0
                copyAt(0, 1) 2
                copyAt(0, 2) -3
                copyAt(1, 1) -3
                copyAt(3, 0) -3
                trail(0, 0, 3) -3
                trail(0, 1, 1) -3
                give(0, 4, 20) 500
                copyAt(0, 0) 4               # copy 0 goes on
                copyAt(0, 1) 2
                trail(0, 0, 3) 4
                copyAt(3, 0) 4
                give(4, 2, 20) 0
                look(2, 3) 3
                give(2, 1, 20) 0
                copyAt(0, 0) 1
                copyAt(0, 1) 1
                copyAt(3, 0) 2
                back() 0
                number(3) 0
                copyAt(2, 0) 1
                look(1, 3) 2
                look(2, 3) 1
                look(4, 3) 0
                """);
    }
}
