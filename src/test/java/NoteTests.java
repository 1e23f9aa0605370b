/** Promises 11 to 18: notes. */
final class NoteTests {
    private NoteTests() {
    }

    static final String FIVE_NOTES = """
            house(0, 0) 1
            house(0, 0) 2
            gold(0, 500) 500
            give(0, 1, 50) 500
            """;

    static void all() {
        PromiseTest.promise(11, "give", FIVE_NOTES + """
                gold(1, 5) 5
                give(1, 2, 36) -7            # 3 notes, and 6 gold is one too many
                give(1, 2, 35) 0             # 3 notes and 5 gold
                look(1, 3) 2
                look(2, 3) 3
                look(2, 2) 5
                copyAt(0, 0) 2
                copyAt(2, 0) 2
                copyAt(3, 0) 1
                give(1, 2, 9) -7             # no note for less than 10
                give(1, 2, 30) -7
                give(1, 2, 20) 0
                gold(1, 100) 100
                give(1, 2, 100) 0            # without notes all in gold
                look(2, 3) 5
                look(2, 2) 105
                give(2, 1, 0) -7
                give(2, 1, -1) -7
                give(2, 1, 10000) -7
                give(2, 2, 5) -7
                give(0, 0, 5) -7
                give(3, 1, 5) -3
                give(1, -1, 0) -3            # BEYOND is ahead of NO
                give(2, 0, 155) 0
                look(0, 2) 605
                number(4) 2
                count(8) 0
                """);
        PromiseTest.promise(11, "give, to or from one that is down", LandTests.ONE_DOWN + """
                gold(2, 9) 9
                give(2, 1, 5) -7
                give(1, 2, 5) -7
                gold(0, 90) 90
                give(0, 1, 5) -7
                give(0, 2, 5) 85
                """);
        PromiseTest.promise(11, "give, the law out", """
                house(0, 0) 1
                gold(0, 100) 100
                give(0, 1, 110) -7           # OUT would be above the GOLD
                give(0, 1, 100) 100
                give(0, 1, 10) -7
                give(0, 1, 9) 91             # no note: the law isn't asked
                count(8) 100
                give(0, 1, 92) -7
                tape out 150
                text(0, 9) 0
                give(0, 1, 60) -7            # OUT by then is 160
                give(0, 1, 55) 86
                tape lift 1 if day>0
                text(0, 9) 1
                give(0, 1, 200) -7
                run(1) 0
                give(0, 1, 200) 86
                count(8) 350
                """);
        PromiseTest.promise(11, "give, the least numbers", FIVE_NOTES + """
                give(1, 2, 20) 0
                give(1, 0, 20) 0             # 2 and 3 are in
                burn(3) 1
                give(2, 0, 10) 0             # 0 is in
                give(0, 2, 30) 500           # 0, 2, then the new one 5
                number(0) 1
                number(2) 1
                number(3) 3
                number(5) 1
                number(6) 0
                copyAt(0, 0) 2
                copyAt(2, 0) 2
                copyAt(5, 0) 2
                trail(5, 0, 0) 0
                trail(5, 0, 1) 2
                trail(0, 0, 2) 2
                """);
        PromiseTest.promise(11, "give, as the copy that came in last", FIVE_NOTES + """
                forge(2, 0) 1
                give(2, 0, 10) 0             # the forged one is taken: number 0 is out
                number(0) 2
                give(1, 0, 10) 0             # the true one is found, 1 comes in
                found(0, 0) 0
                found(0, 1) 1
                copyAt(0, 0) -1
                number(1) 2
                give(0, 2, 10) 500
                copyAt(0, 1) 2
                trail(0, 1, 0) 2
                trail(0, 1, 1) 0
                trail(0, 1, 2) 2
                trail(0, 1, 3) -3
                """);
        PromiseTest.promise(11, "give, whether it can as if the forged were gone", FIVE_NOTES + """
                forge(2, 0) 1
                forge(2, 0) 2
                forge(2, 1) 1
                give(2, 0, 30) -7            # two are good: 0's first one, and 1's
                count(11) 0
                look(2, 3) 3
                give(2, 1, 30) 0             # a house takes forged ones
                look(1, 3) 8
                gold(1, 3) 3
                give(1, 0, 53) 0             # five are good
                count(11) 3
                found(0, 0) 0
                found(1, 0) 0
                found(2, 0) 1
                found(3, 0) -3
                look(1, 3) 0
                count(9) 5
                """);
        PromiseTest.promise(11, "give, all that are forged are found", FIVE_NOTES + """
                gold(1, 30) 30
                forge(1, 4) 1
                give(1, 0, 5) 25             # not a note goes, but the forged one is found
                count(11) 1
                look(1, 3) 5
                give(1, 0, 59) 16
                count(8) 0
                """);
        PromiseTest.promise(11, "give, no numbers and no room", """
                house(0, 0) 1
                2 x gold(0, 10000) ?
                give(0, 1, 3010) -7
                give(0, 1, 2000) 20000
                200 x forge(1, 5) ?
                forge(1, 5) -8
                forge(0, 5) -5
                give(0, 1, 10) -7            # no room for a new copy
                give(0, 1, 9) 19991
                give(1, 0, 60) 9             # 0 .. 5 are in
                count(11) 200
                found(59, 0) 5
                found(60, 0) -3
                give(0, 1, 70) -7
                give(0, 1, 60) 19991
                """);
        PromiseTest.promise(11, "give, the last number", """
                house(0, 0) 1
                gold(0, 10000) 10000
                give(0, 1, 3005) 9995
                number(299) 1
                give(0, 1, 10) -7
                give(1, 0, 10) 5
                give(0, 1, 10) 9995
                copyAt(0, 0) 1
                copyAt(300, 0) -3
                """);
        PromiseTest.promise(12, "present", FIVE_NOTES + """
                present(1, 2) 2
                look(1, 2) 20
                look(0, 2) 480
                number(0) 2
                number(1) 2
                number(2) 1
                copyAt(0, 0) 0
                trail(0, 0, 2) 0
                present(1, 400) 3
                present(1, 1) 0
                present(1, 0) -7
                present(1, 401) -7
                present(0, 1) -5
                present(0, 0) -5             # KIND is ahead of NO
                present(3, 0) -3
                count(9) 5
                """);
        PromiseTest.promise(12, "present, stopped", FIVE_NOTES + """
                tape out 999
                text(0, 9) 0
                give(0, 2, 475) 495
                present(2, 46) 46
                look(0, 2) 35
                give(0, 2, 8) 27
                give(1, 2, 20) 0
                run(4) 0
                present(1, 9) 2              # 27 gold are two notes
                look(0, 2) 7
                count(14) 4
                look(1, 3) 1
                present(1, 1) -7
                present(2, 1) -7
                gold(0, 100) 107
                present(1, 1) -7             # behind that nothing is ever presented
                count(14) 4
                """);
        PromiseTest.promise(12, "present, down", """
                house(0, 0) 1
                house(0, 0) 2
                gold(0, 9) 9
                promise(1, 2, 50, 1) 0
                run(2) 1
                present(1, 1) -7
                """);
        PromiseTest.promise(12, "present, what is forged", FIVE_NOTES + """
                forge(1, 0) 1
                forge(1, 4) 1
                present(1, 1) 1
                count(11) 2
                look(1, 3) 4
                copyAt(0, 1) -1
                copyAt(0, 0) 0
                forge(2, 0) 2
                present(2, 1) 0              # number 0 isn't out
                count(11) 3
                found(2, 1) 2
                """);
        PromiseTest.promise(13, "burn", FIVE_NOTES + """
                burn(0) -7
                burn(299) -7
                burn(300) -3
                burn(-1) -3
                give(1, 0, 20) 0
                burn(1) 1
                burn(1) -7
                burn(0) 2
                number(1) 3
                count(10) 2
                count(9) 0
                copyAt(1, 0) 0
                give(0, 1, 10) 500
                number(5) 1                  # burnt ones are never issued
                """);
        PromiseTest.promise(14, "forge", FIVE_NOTES + """
                forge(2, 0) 1
                forge(1, 0) 2
                forge(2, 4) 1
                forge(2, 5) -7
                forge(2, 300) -3
                forge(2, -1) -3
                forge(3, 0) -3
                forge(0, 0) -5
                forge(0, 5) -5               # KIND is ahead of NO
                look(2, 3) 2
                look(2, 7) 20
                trail(0, 1, 0) 2
                trail(0, 1, 1) -3
                count(8) 50
                promise(2, 1, 500, 1) 0
                run(2) 1
                forge(2, 0) -7
                give(1, 0, 50) 0
                burn(3) 1
                forge(1, 3) 1                # of one that is burnt, or in
                forge(1, 2) 1
                """);
        PromiseTest.promise(15, "number", FIVE_NOTES + """
                number(0) 1
                number(5) 0
                give(1, 0, 20) 0
                number(0) 2
                burn(0) 1
                number(0) 3
                number(299) 0
                number(300) -3
                number(-1) -3
                """);
        PromiseTest.promise(16, "copyAt", FIVE_NOTES + """
                copyAt(0, 0) 1
                copyAt(0, 1) -3
                copyAt(0, -1) -3
                copyAt(5, 0) -3
                copyAt(300, 0) -3
                copyAt(-1, 0) -3
                forge(2, 3) 1
                forge(1, 3) 2
                copyAt(3, 0) 1
                copyAt(3, 1) 2
                copyAt(3, 2) 1
                copyAt(3, 3) -3
                present(1, 9) 5
                copyAt(3, 0) 0
                copyAt(3, 2) -1
                give(0, 2, 40) ?
                copyAt(3, 0) 2
                status(-3) 6
                """);
        PromiseTest.promise(17, "trail", FIVE_NOTES + """
                trail(0, 0, 0) 0
                trail(0, 0, 1) 1
                trail(0, 0, 2) -3
                trail(0, 0, -1) -3
                trail(0, 1, 0) -3
                trail(300, 0, 0) -3
                give(1, 2, 10) 0
                give(2, 0, 10) 0
                give(0, 2, 10) ?
                give(2, 1, 10) 0
                give(1, 2, 10) 0
                trail(0, 0, 2) 2
                trail(0, 0, 3) 0
                trail(0, 0, 4) 2
                trail(0, 0, 5) 1
                trail(0, 0, 6) 2
                trail(0, 0, 7) -3
                give(2, 1, 10) 0
                trail(0, 0, 7) 1
                give(1, 2, 10) 0
                trail(0, 0, 7) 1             # the first eight of them
                trail(0, 0, 8) -3
                """);
        PromiseTest.promise(18, "found", FIVE_NOTES + """
                forge(2, 4) 1
                forge(2, 1) 1
                forge(2, 1) 2
                give(1, 0, 50) 0
                run(3) 0
                found(0, 0) -3
                gold(2, 9) 9
                give(2, 0, 9) 0
                found(0, 0) 1
                found(1, 0) 1
                found(2, 0) 4
                found(0, 1) 2
                found(0, 2) 3
                found(0, 3) -7
                found(0, -1) -7
                found(3, 0) -3
                found(-1, 9) -3              # BEYOND is ahead of NO
                count(11) 3
                copyAt(4, 1) -1
                """);
    }
}
