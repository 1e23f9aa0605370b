import java.util.ArrayList;
import java.util.List;

/**
 * A run of calls on a new object, told in lines: "call(1, 2) 3" is a call and the answer that is due
 * ("?" where any is), "5 x call() 3" the same five times ("5 x call() 1.." counts up from 1),
 * "tape TEXT" wipes THE TAPE and feeds TEXT.
 * Each run is played by the program and, so that both are held to it, by the Model.
 */
final class Script {
    private final String name;
    private final Program program = new Program();
    private final ModelCalls model = new ModelCalls();
    private final List<String> wrong = new ArrayList<>();
    private int calls;

    private Script(String name) {
        this.name = name;
    }

    /** How many answers were wrong; each is printed. A run of more calls than told is wrong, too. */
    static int play(String name, String lines, int most) {
        Script s = new Script(name);
        for (String line : lines.split("\n")) {
            s.line(line.split("#")[0].strip());
        }
        if (s.calls > most) {
            s.wrong.add(name + ": " + s.calls + " calls are more than " + most);
        }
        for (String w : s.wrong) {
            System.out.println(w);
        }
        return s.wrong.size();
    }

    private void line(String line) {
        if (line.isEmpty()) {
            return;
        }
        if (line.startsWith("tape")) {
            tape(line.length() > 5 ? line.substring(5) : "");
            return;
        }
        int times = 1;
        int x = line.indexOf(" x ");
        if (x > 0) {
            times = Integer.parseInt(line.substring(0, x).strip());
            line = line.substring(x + 3).strip();
        }
        int open = line.indexOf('(');
        int close = line.indexOf(')');
        String inside = line.substring(open + 1, close).strip();
        String[] parts = inside.isEmpty() ? new String[0] : inside.split(",");
        int[] args = new int[parts.length];
        for (int i = 0; i < parts.length; i++) {
            args[i] = Integer.parseInt(parts[i].strip());
        }
        String due = line.substring(close + 1).strip();
        int counts = due.indexOf("..");
        for (int i = 0; i < times; i++) {
            String next = counts < 0 ? due : String.valueOf(Integer.parseInt(due.substring(0, counts)) + i);
            call(line.substring(0, open), next, args);
        }
    }

    private void tape(String text) {
        call("wipe", "?");
        int had = 0;
        for (int i = 0; i < text.length(); i += had) {
            had = Math.min(4, text.length() - i);
            int bytes = 0;
            for (int k = i; k < i + had; k++) {
                bytes = bytes << 8 | text.charAt(k);
            }
            call("feed", String.valueOf(i + had), bytes, had);
        }
    }

    private void call(String method, String due, int... args) {
        int got = program.call(method, args);
        int model = this.model.call(method, args);
        calls++;
        String told = name + ": call " + calls + " " + Program.told(method, args);
        if (!due.equals("?") && got != Integer.parseInt(due)) {
            wrong.add(told + " answered " + got + ", due is " + due);
        }
        if (model != got) {
            wrong.add(told + " answered " + got + ", the Model " + model);
        }
    }
}
