/** Promises 46 to 56: tries, plans, images, rows. */
final class TryTests {
    private TryTests() {
    }

    // Rates move the gold: 10 times RATE less 5 in each week; above 5 weekly sales are smaller.
    static final String SHIPS = """
            house(0, 0) 1
            house(0, 0) 2
            gold(0, 100) 100
            flow(10) 0
            """;

    static void all() {
        attempts();
        plans();
        judges();
        images();
        imagesOfNotesAndPledges();
        rows();
    }

    private static void attempts() {
        PromiseTest.promise(46, "attempt", SHIPS + """
                give(0, 1, 40) 100
                attempt(6, 1, 0) 110
                attempt(227, 2, 0) 100       # 3, then 7
                attempt(227, 2, 1) 40
                attempt(0, 1, 4) 0
                attempt(0, 2, 4) 0
                attempt(0, 3, 4) 1
                attempt(0, 3, 0) 0
                attempt(693909, 4, 0) -7
                attempt(20, 1, 0) 250
                attempt(21, 1, 0) -7
                attempt(5, 0, 0) -7
                attempt(5, 5, 0) -7
                attempt(32, 1, 0) -7         # two digits
                attempt(32, 2, 0) 10
                attempt(1024, 2, 0) -7
                attempt(1048576, 4, 0) -7
                attempt(-1, 4, 0) -7
                attempt(5, 0, 5) -3          # BEYOND is ahead of NO
                attempt(5, 1, -1) -3
                count(0) 0
                count(15) 5
                count(14) -1
                look(0, 2) 100
                sheet(0, 0) -3
                run(7) 0
                sheet(0, 0) 100
                """);
        PromiseTest.promise(46, "attempt, the rule is not followed; failures, what is refused", SHIPS + """
                tape rate 9
                text(0, 99) 0
                tape buy price<6
                text(0, 99) 1
                attempt(6, 1, 0) 110
                mind(2, 500, 0) 0
                bill(1, 2, 50, 9) 0
                promise(1, 2, 30, 3) 1
                run(1) 0
                count(12) 0
                of(0, 3) 0
                bill(1, 2, 60, 20) 2
                attempt(6, 1, 3) 7
                attempt(6, 1, 2) 1
                attempt(5, 1, 3) 7            # at 5 too much would be out
                attempt(198, 2, 3) 14
                count(12) 0
                count(13) 0
                look(1, 4) 1
                of(1, 5) 0
                """);
        PromiseTest.promise(46, "attempt, beyond the last day", """
                9 x run(70) 0
                run(63) 0
                attempt(5, 1, 0) 0
                attempt(5, 2, 0) -8
                attempt(99, 1, 0) -7         # NO is ahead of FULL
                run(1) 0
                attempt(5, 1, 0) -8
                attempt(5, 1, 9) -3
                plan(5, 1) -8
                plan(5, 0) -7
                """);
    }

    private static void plans() {
        PromiseTest.promise(47, "plan", SHIPS + """
                plan(135329, 1) 0            # 1, 5, 4, 4: all are alike
                row(0) 1
                row(1) 60
                row(2) 0
                row(3) 0
                row(4) 0
                status(-3) 1
                lay(3) 3
                plan(135328, 3) 0            # 0, 5, 4, 4: three weeks of 0 would stop it
                row(0) 0
                row(1) 50
                row(4) 0
                row(5) 0
                row(8) 5
                row(9) 0
                row(11) 0
                row(12) 0
                status(-3) 2
                judge() -1
                plan(-1, 1) -7
                plan(21, 1) -7
                plan(688128, 1) -7           # the fourth is 21
                plan(1048576, 1) -7          # five digits
                plan(0, 0) -7
                plan(0, 5) -7
                row(8) 5                     # THE ROW stays
                count(0) 0
                count(15) 5
                look(0, 2) 100
                """);
        PromiseTest.promise(47, "plan, fewer refused", SHIPS + """
                mind(1, 40, 0) 0
                bill(2, 1, 50, 30) 0
                promise(1, 2, 50, 9) 1
                tape buy price<4 and week=1 or price=7
                text(0, 99) 0
                plan(230533, 2) 0            # 5, 4, 1, 7
                row(0) 7                     # nothing is refused
                row(1) 120
                row(2) 50
                row(3) 0
                row(4) 5
                judge() -1
                plan(164005, 2) 0            # 5, 5, 0, 5: from day 7 on 0 buys, and none is down
                row(0) 5
                row(4) 0
                plan(164005, 1) 0            # refused by all: the first
                row(0) 5
                """);
        PromiseTest.promise(47, "plan, fewer down ahead of fewer refused", PaperTests.FOUR + """
                gold(0, 500) 500
                gold(1, 60) 60
                tell(0, 0, 0) -1
                trade(1, 2, 100, 3) 0
                mind(3, 50, 0) 0
                bill(4, 3, 30, 30) 0
                tape buy price=5
                text(0, 99) 0
                attempt(5, 1, 2) 1
                attempt(5, 1, 3) 0
                attempt(20, 1, 2) 0
                attempt(20, 1, 3) 7
                plan(169605, 1) 0            # 5, 20, 5, 5
                row(0) 20
                row(3) 0
                """);
        PromiseTest.promise(47, "plan, not stopped ahead of fewer down", PaperTests.FOUR + """
                gold(0, 40) 40
                flow(10) 0
                mind(1, 10, 0) 0
                bill(2, 1, 30, 30) 0
                promise(1, 2, 30, 3) 1
                tape buy price<3
                text(0, 99) 0
                attempt(0, 1, 4) 1
                attempt(0, 1, 2) 0
                attempt(20, 1, 4) 0
                plan(640, 1) 1               # 0, 20, 0, 0
                row(0) 20
                row(3) 1
                """);
        PromiseTest.promise(47, "plan, of four weeks", SHIPS + """
                trade(1, 2, 100, 10) 0
                tell(0, 0, 97) -1
                plan(199973, 4) 1            # 5, 9, 3, 6; the harvest is short by 3
                judge() -1
                row(0) 5
                row(1) 100
                row(12) 5
                row(15) 1
                row(16) 0
                status(-3) 1
                plan(9, 4) 1                 # 9, 0, 0, 0
                row(0) 9
                row(4) 9
                row(8) 9
                row(12) 9
                row(13) 260
                """);
    }

    private static void judges() {
        PromiseTest.promise(48, "judge", SHIPS + """
                judge() -2
                lay(0) 0
                judge() -5
                lay(5) 5
                judge() -5
                lay(20) 20
                judge() -5
                lay(16) 16
                judge() 1                    # 0 leaves 50
                set(1, 50) 0
                judge() -1                   # and then 0 is left
                set(5, 1) 0
                judge() 5
                lay(4) 4
                set(0, 6) 0
                set(1, 110) 0
                judge() -1
                set(2, 10) 0
                judge() 2
                set(2, 0) 10
                set(3, 1) 0
                judge() 3
                set(1, 0) 110
                judge() 1
                set(0, 21) 6
                judge() 0
                set(0, -1) 21
                judge() 0
                lay(8) 8
                set(0, 6) 0
                set(1, 110) 0
                set(4, 21) 0
                judge() 4
                set(1, 111) 110
                judge() 1
                set(1, 110) 111
                set(4, 20) 21
                set(5, 260) 0
                judge() -1
                count(0) 0
                look(0, 2) 100
                """);
        PromiseTest.promise(48, "judge, beyond the last day", """
                9 x run(70) 0
                run(60) 0
                lay(8) 8
                judge() -8
                lay(9) 9
                judge() -5                   # KIND is ahead of FULL
                lay(4) 4
                judge() -1
                tear() 1
                judge() -2
                """);
    }

    private static void images() {
        PromiseTest.promise(49, "image", SHIPS + """
                run(5) 0
                image() 5
                run(5) 0
                image() 10
                run(5) 0
                back() 10
                back() 10
                count(0) 10
                """);
        PromiseTest.promise(50, "back", SHIPS + """
                back() -2
                town() 1
                road(0, 1, 4) 1
                give(0, 1, 50) 100
                give(1, 0, 10) 0
                forge(2, 1) 1
                bill(1, 2, 70, 20) 0
                trade(1, 2, 100, 9) 0
                tape out 500
                text(0, 99) 0
                tape out 5
                lay(4) 4
                image() 0
                town() 2
                road(0, 2, 4) 2
                road(0, 1, 2) 3
                house(1, 2) 3
                give(1, 2, 10) 0
                give(2, 0, 10) 0
                give(0, 2, 20) 100
                forge(2, 2) 1
                mind(1, 50, 0) 0
                bold(1, 999) 9000
                tell(0, 3, 9) -1
                flow(20) 10
                goesOn(0, 0) 1
                text(0, 99) 1
                rate(9) 5
                set(2, 8) 0
                tape rate 6
                present(1, 9) 3
                sell(0) ?
                run(30) ?
                status(-2) 1
                back() 0
                status(-2) 1                 # status() stays
                row(2) 8                     # so does THE ROW
                count(7) 6                   # and THE TAPE
                count(0) 0
                count(1) 2
                count(2) 3
                count(3) 1
                count(4) 1
                count(5) 1
                count(6) 1
                count(8) 40
                count(9) 1
                count(11) 0
                count(12) 0
                count(13) 0
                count(15) 5
                far(0, 1) 4
                far(0, 2) -3
                look(1, 3) 4
                look(2, 3) 1
                look(1, 5) 0
                bold(1, 9000) 9000
                week(0, 3) 100
                flow(10) 10
                goesOn(0, 1) 1
                sheet(0, 0) -3
                copyAt(2, 0) 1
                copyAt(2, 1) -3
                copyAt(0, 0) 0
                trail(1, 0, 1) 1
                trail(1, 0, 2) -3
                found(0, 0) -3
                of(0, 3) 2
                says(0, -1) 500
                why(0, -1) 0
                says(1, -1) 0
                text(0, 99) 1
                says(1, -1) 6
                give(1, 2, 10) 0
                trail(1, 0, 2) 2
                """);
    }

    private static void imagesOfNotesAndPledges() {
        PromiseTest.promise(50, "back, the copy that came in last", NoteTests.FIVE_NOTES + """
                give(1, 0, 10) 0             # number 0 is in, as its copy 0
                forge(2, 0) 1
                image() 0
                give(0, 1, 10) 500
                give(2, 0, 10) 0             # and now as its copy 1
                copyAt(0, 1) 0
                back() 0
                copyAt(0, 1) 2
                give(0, 1, 10) 500
                copyAt(0, 0) 1
                copyAt(0, 1) 2
                """);
        PromiseTest.promise(50, "back, the day of a pledge", PaperTests.FOUR + """
                gold(0, 900) 900
                tape lend 50
                text(0, 99) 0
                tape hide 4
                text(0, 99) 1
                bill(1, 2, 80, 50) 0
                bill(1, 2, 90, 50) 1
                help(0, 10) 2
                image() 0
                run(12) 0
                of(2, 0) -3
                help(1, 30) 2                # the same number, made on day 12
                back() 0
                run(7) 0
                sheet(0, 2) 0
                sheet(0, 3) 40               # made on day 0: hidden no more
                """);
    }

    private static void rows() {
        PromiseTest.promise(51, "lay", """
                lay(-1) -4
                lay(61) -7
                lay(60) 60
                row(59) 0
                set(0, 7) 0
                lay(1) 1
                row(0) 0
                row(1) 0
                status(-3) 1
                lay(0) 0
                row(0) 0
                status(-3) 2
                tear() 1
                """);
        PromiseTest.promise(52, "set", """
                set(0, 5) 0
                status(-2) 1
                lay(2) 2
                set(0, 2147483647) 0
                set(0, -7) 2147483647
                set(0, 1) -7
                status(-7) 0
                set(2, 5) 0
                set(-1, 5) 0
                status(-3) 2
                row(0) 1
                row(1) 0
                """);
        PromiseTest.promise(53, "tear", """
                tear() 0
                lay(3) 3
                tear() 1
                tear() 0
                row(0) 0
                status(-2) 1
                """);
        PromiseTest.promise(54, "row", """
                row(0) 0
                row(99) 0
                status(-2) 2
                lay(2) 2
                set(1, -3) 0
                row(1) -3
                status(-3) 0
                row(2) 0
                row(-1) 0
                status(-3) 2
                """);
        PromiseTest.promise(55, "copy", """
                copy(0, 0, -1) -2            # MISSING is ahead of BELOW
                lay(5) 5
                set(0, 1) 0
                set(1, 2) 0
                set(2, 3) 0
                copy(0, 1, 3) 3              # as they were
                row(0) 1
                row(1) 1
                row(2) 2
                row(3) 3
                row(4) 0
                copy(1, 0, 4) 4
                row(0) 1
                row(1) 2
                row(2) 3
                row(3) 0
                row(4) 0
                copy(0, 0, 5) 5
                copy(5, 5, 0) 0
                copy(6, 0, 0) -6
                copy(0, 6, 0) -6
                copy(1, 0, 5) -6
                copy(0, 1, 5) -6
                copy(-1, 0, 1) -6
                copy(0, -1, 1) -6
                copy(0, 0, 6) -6
                copy(1, 0, 2147483647) -6
                copy(2147483647, 0, 2147483647) -6
                copy(0, 2147483647, 1) -6
                copy(-1, 0, -1) -4           # BELOW is ahead of COPY
                status(-6) 10
                """);
        PromiseTest.promise(56, "status", """
                status(-2) 0
                status(-1) -7
                status(0) -7
                status(-9) -7
                status(5) -7
                status(-2147483648) -7
                status(-7) 5
                status(-7) 5
                back() -2
                row(0) 0
                far(0, 1) -3
                tell(5, 0, 0) 0
                lay(-1) -4
                house(5, 0) -5
                lay(1) 1
                copy(0, 0, 2) -6
                7 x town() ?
                town() -8
                tell(0, 0, 999) 0
                status(-2) 2
                status(-3) 2
                status(-4) 1
                status(-5) 1
                status(-6) 1
                status(-7) 6
                status(-8) 1
                tape out
                text(0, 9) -13               # a fault is no refusal by -2 .. -8
                tape out 1 1
                text(0, 9) -16
                status(-2) 2
                status(-7) 6
                """);
    }
}
