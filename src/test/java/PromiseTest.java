import java.util.ArrayList;
import java.util.List;

/** For each promise, by its number, runs with ordinary inputs, the edges, and wrong inputs. */
public final class PromiseTest {
    private static int wrong;
    private static int runs;
    private static final List<String> TOLD = new ArrayList<>();

    static void promise(int number, String what, String lines) {
        TOLD.add(String.valueOf(number));
        wrong += Script.play("promise " + number + " " + what, lines, 512);
        runs++;
    }

    public static void main(String[] args) {
        LandTests.all();
        NoteTests.all();
        PaperTests.all();
        TradeTests.all();
        TextTests.all();
        DayTests.all();
        TryTests.all();
        for (int i = 1; i <= 56; i++) {
            if (!TOLD.contains(String.valueOf(i))) {
                System.out.println("promise " + i + " has no test");
                wrong++;
            }
        }
        System.out.println(runs + " runs, " + wrong + " wrong");
        if (wrong != 0) {
            System.exit(1);
        }
    }
}
