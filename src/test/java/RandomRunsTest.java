import java.lang.reflect.InvocationTargetException;
import java.lang.reflect.Method;
import java.util.ArrayList;
import java.util.HashMap;
import java.util.List;
import java.util.Map;
import java.util.Random;

/**
 * Random runs of at most 512 calls on fresh objects, each answer compared with that of Model; no exception may come from
 * the machine itself.
 */
public final class RandomRunsTest {
    private static final Map<String, Method> FACE = new HashMap<>();
    private static final String[] QUESTIONS = {"told", "member", "tally", "log", "message", "knows", "stable", "would",
        "primary", "missing", "lost", "fall", "splits", "tells", "next", "held", "agree", "fits", "look", "note", "spelt",
        "lore", "behind", "storm", "span", "status", "count", "fault"};

    private final Random random;
    private final FlushViews object = new FlushViews();
    private final Model model = new Model();
    private final List<String> calls = new ArrayList<>();
    private boolean wrong;

    private RandomRunsTest(long seed) {
        random = new Random(seed);
    }

    public static void main(String[] args) throws Exception {
        int runs = args.length > 0 ? Integer.parseInt(args[0]) : 400;
        for (Method m : FlushViews.class.getMethods()) {
            if (m.getDeclaringClass() == FlushViews.class) {
                FACE.put(m.getName(), m);
            }
        }
        for (int run = 0; run < runs; run++) {
            RandomRunsTest test = new RandomRunsTest(run);
            test.go();
            if (test.wrong) {
                System.out.println("run " + run);
                System.exit(1);
            }
        }
        System.out.println("RandomRunsTest: " + runs + " runs are alike");
    }

    private void go() throws Exception {
        boolean tame = random.nextInt(4) > 0;
        if (random.nextInt(20) > 0) {
            say("group", group(), tame);
        }
        while (calls.size() < 440 && !wrong) {
            change(tame);
            for (int i = 0; i < 12 && !wrong; i++) {
                ask(QUESTIONS[random.nextInt(QUESTIONS.length)]);
            }
        }
    }

    private void change(boolean tame) throws Exception {
        switch (random.nextInt(20)) {
            case 0:
                say("law", sum(3), tame);
                break;
            case 1:
            case 2:
                say("book", book(), tame);
                break;
            case 3:
            case 4:
                call("undo");
                break;
            case 5:
                call("image");
                break;
            case 6:
                call("restore");
                break;
            case 7:
                if (random.nextInt(10) == 0) {
                    say("group", group(), tame);
                }
                break;
            default:
                say("work", work(), tame);
        }
    }

    private void say(String name, String text, boolean tame) throws Exception {
        String said = tame && random.nextInt(10) > 0 ? text : spoil(text);
        byte[] bytes = said.getBytes(java.nio.charset.StandardCharsets.ISO_8859_1);
        java.nio.ByteBuffer padded = java.nio.ByteBuffer.allocate((bytes.length + 19) / 20 * 20);
        padded.put(bytes);
        for (int i = 0; i + 20 <= padded.capacity() && i < 640; i += 20) {
            call("feed", padded.getInt(i), padded.getInt(i + 4), padded.getInt(i + 8), padded.getInt(i + 12), padded.getInt(i + 16));
        }
        int n = random.nextInt(30) > 0 ? bytes.length : random.nextInt(3) == 0 ? extreme() : random.nextInt(200) - 10;
        call(name, n);
        call("fault");
    }

    private String spoil(String text) {
        StringBuilder s = new StringBuilder(text);
        int many = random.nextInt(3);
        for (int i = 0; i < many; i++) {
            String alphabet = "  ;;[](),+-*/%0123456789abmemberlimitsendleastmostA\u00e9\u0000";
            char c = alphabet.charAt(random.nextInt(alphabet.length()));
            int at = random.nextInt(s.length() + 1);
            switch (random.nextInt(3)) {
                case 0:
                    s.insert(at, c);
                    break;
                case 1:
                    if (at < s.length()) {
                        s.deleteCharAt(at);
                    }
                    break;
                default:
                    if (at < s.length()) {
                        s.setCharAt(at, c);
                    }
            }
        }
        return random.nextInt(8) == 0 ? s.substring(0, random.nextInt(s.length() + 1)) : s.toString();
    }

    private String blank() {
        return random.nextInt(12) == 0 ? " " : "";
    }

    private String group() {
        StringBuilder s = new StringBuilder();
        int members = random.nextInt(12) == 0 ? random.nextInt(8) : 2 + random.nextInt(5);
        for (int i = 0; i < members; i++) {
            s.append(blank()).append("member ").append(random.nextInt(4) > 0 ? 1 : 0).append(blank()).append(";");
            if (random.nextInt(12) == 0) {
                s.append("limit ").append(1 + random.nextInt(30)).append(";");
            }
        }
        if (random.nextInt(30) == 0) {
            for (int i = 0; i < 56; i++) {
                s.append("limit").append(i % 30 + 1).append(";");
            }
        }
        return s + blank();
    }

    private String sum(int depth) {
        StringBuilder s = new StringBuilder(product(depth));
        for (int i = random.nextInt(3); i > 0; i--) {
            s.append(blank()).append(random.nextBoolean() ? "+" : "-").append(blank()).append(product(depth));
        }
        return s.toString();
    }

    private String product(int depth) {
        StringBuilder s = new StringBuilder(unit(depth));
        for (int i = random.nextInt(3); i > 0; i--) {
            s.append("*/%".charAt(random.nextInt(3))).append(blank()).append(unit(depth));
        }
        return s.toString();
    }

    private String unit(int depth) {
        int kind = random.nextInt(depth > 0 ? 10 : 7);
        String[] words = {"member", "age", "view", "size"};
        if (kind < 4) {
            return words[kind];
        }
        if (kind < 7) {
            return Integer.toString(random.nextInt(4) == 0 ? random.nextInt(1000) : random.nextInt(6));
        }
        if (kind == 7) {
            return "(" + sum(depth - 1) + blank() + ")";
        }
        return (kind == 8 ? "least" : "most") + blank() + "[" + sum(depth - 1) + "," + sum(depth - 1) + "]";
    }

    private int someMember() {
        int many = model.now.all.size();
        return many == 0 || random.nextInt(60) == 0 ? random.nextInt(7) : random.nextInt(many);
    }

    private String book() {
        StringBuilder s = new StringBuilder();
        for (int m = 0; m < model.now.all.size(); m++) {
            if (random.nextInt(3) == 0) {
                s.append(m).append(" ").append(random.nextInt(2)).append(";");
            }
        }
        if (random.nextInt(8) == 0) {
            s.append(someMember()).append(" ").append(random.nextInt(2)).append(";");
        }
        return s.toString();
    }

    private String work() {
        StringBuilder s = new StringBuilder();
        int most = 20 + random.nextInt(130);
        while (true) {
            String step = step(0);
            if (s.length() + step.length() > most) {
                return s.toString();
            }
            s.append(step);
        }
    }

    private String step(int depth) {
        int m = someMember();
        switch (random.nextInt(16)) {
            case 0:
            case 1:
            case 2:
                return "send " + m + " " + (random.nextInt(80) == 0 ? 1000 : random.nextInt(1000)) + ";";
            case 3:
            case 4:
                return "take " + m + ";";
            case 5:
                return "lose " + m + ";";
            case 6:
            case 7:
                return "tell" + blank() + m + ";";
            case 8:
                return "trim " + m + ";";
            case 9:
                return random.nextInt(2) == 0 ? "crash " + m + ";" : "join " + m + ";";
            case 10:
                return "join " + m + ";";
            case 11:
                return "part " + (random.nextInt(2) == 0 ? 0 : random.nextInt(random.nextInt(40) == 0 ? 70 : 64)) + ";";
            case 12:
                return "hold;";
            case 13:
                return "hold;view;";
            case 14:
                return "view" + blank() + ";";
            default:
                return again(depth);
        }
    }

    private String again(int depth) {
        StringBuilder s = new StringBuilder("again " + random.nextInt(random.nextInt(4) == 0 ? 61 : 6) + blank() + "[");
        for (int i = random.nextInt(4); i > 0 && depth < 7; i--) {
            s.append(step(depth + 1));
        }
        return s.append("];").toString();
    }

    private int extreme() {
        int[] some = {Integer.MIN_VALUE, Integer.MAX_VALUE, -1, 1 << 30, 65536, -65536};
        return random.nextInt(2) == 0 ? random.nextInt() : some[random.nextInt(some.length)];
    }

    private int what(int most) {
        int kind = random.nextInt(50);
        if (kind == 0) {
            return extreme();
        }
        return kind < 3 ? random.nextInt(most + 4) - 2 : random.nextInt(most + 1);
    }

    private void ask(String name) throws Exception {
        int m = random.nextInt(25) == 0 ? random.nextInt(2) == 0 ? extreme() : random.nextInt(10) - 2 : someMember();
        switch (name) {
            case "told": call(name, what(11)); break;
            case "member": call(name, m, what(6)); break;
            case "log": call(name, m, what(random.nextInt(3) == 0 ? 63 : 10)); break;
            case "message": call(name, what(random.nextInt(3) == 0 ? 29 : 5), what(4)); break;
            case "knows": call(name, m, someMember()); break;
            case "would": call(name, what(5), what(9999), what(random.nextInt(2) == 0 ? 9 : 9999), what(6)); break;
            case "held": call(name, m, what(7)); break;
            case "fits":
            case "look":
            case "behind": call(name, what(1)); break;
            case "spelt": call(name, what(16)); break;
            case "storm": call(name, random.nextInt(), 1 + what(95), what(16), what(3)); break;
            case "span": call(name, random.nextInt(), 1 + what(9), 1 + what(95), what(16), what(2), m); break;
            case "status": call(name, what(3)); break;
            case "count": call(name, what(2)); break;
            case "tally":
            case "stable":
            case "missing":
            case "next":
            case "lore": call(name, m); break;
            default: call(name);
        }
    }

    private void call(String name, int... args) throws Exception {
        if (calls.size() >= 512 || wrong) {
            return;
        }
        String got = answerOfObject(name, args);
        String due = answerOfModel(name, args);
        calls.add(name + java.util.Arrays.toString(args) + " -> " + got);
        if (!got.equals(due)) {
            wrong = true;
            calls.forEach(System.out::println);
            System.out.println("due is " + due);
        }
    }

    private String answerOfObject(String name, int[] args) throws Exception {
        Object[] boxed = new Object[args.length];
        for (int i = 0; i < args.length; i++) {
            boxed[i] = args[i];
        }
        try {
            Object got = FACE.get(name).invoke(object, boxed);
            return got instanceof Boolean b ? (b ? "1" : "0") : got.toString();
        } catch (InvocationTargetException e) {
            return thrower(e.getCause()) + e.getCause().getClass().getSimpleName();
        }
    }

    /** The class may throw by its own need.. methods alone; the machine leaves another method, or none, on top. */
    private static String thrower(Throwable thrown) {
        StackTraceElement[] trace = thrown.getStackTrace();
        boolean own = trace.length > 0 && trace[0].getClassName().equals("FlushViews") && trace[0].getMethodName().startsWith("need");
        return own ? "throws." : "the machine throws.";
    }

    private String answerOfModel(String name, int[] args) {
        try {
            return Long.toString(model.call(name, args));
        } catch (java.util.NoSuchElementException | IllegalArgumentException | NullPointerException | IndexOutOfBoundsException e) {
            return "throws." + e.getClass().getSimpleName();
        }
    }
}
