import java.lang.reflect.InvocationTargetException;
import java.lang.reflect.Method;
import java.nio.ByteBuffer;
import java.nio.charset.StandardCharsets;
import java.util.regex.Matcher;
import java.util.regex.Pattern;

/** A run of calls, told as texts, on a fresh object; prints each answer that is not the one due. */
final class Run {
    static final String NSE = "NoSuchElementException";
    static final String IAE = "IllegalArgumentException";
    static final String NPE = "NullPointerException";
    static final String IOB = "IndexOutOfBoundsException";
    static int wrong;

    /** What an object answers behind its 512th call is free: such a run would test nothing. */
    private static final int MOST_CALLS = 512;
    private static final Pattern NUMBER = Pattern.compile("-?\\d+");
    private final String name;
    private final FlushViews object = new FlushViews();
    private int calls;

    Run(String name) {
        this.name = name;
    }

    /** Each row: a call, and its answer or the exception's name. */
    Run due(Object... rows) {
        for (int i = 0; i < rows.length; i += 2) {
            check(rows[i].toString(), rows[i + 1].toString(), answer(rows[i].toString()));
        }
        return this;
    }

    /** A text is fed and read by group, law, work or book; its fault is none. */
    Run says(String reader, String text, int answer) {
        return fails(reader, text, answer, -1);
    }

    Run fails(String reader, String text, int answer, int place) {
        byte[] bytes = text.getBytes(StandardCharsets.ISO_8859_1);
        feed(bytes);
        check(reader + " '" + text + "'", "" + answer, answer(reader + "(" + bytes.length + ")"));
        check("fault() of '" + text + "'", "" + place, answer("fault()"));
        check("count(1) behind '" + text + "'", "0", answer("count(1)"));
        return this;
    }

    Run feed(byte[] bytes) {
        ByteBuffer b = ByteBuffer.allocate((bytes.length + 19) / 20 * 20).put(bytes).rewind();
        while (b.hasRemaining()) {
            countCall();
            object.feed(b.getInt(), b.getInt(), b.getInt(), b.getInt(), b.getInt());
        }
        return this;
    }

    /** A text is fed, but not read yet. */
    Run feed(String text) {
        return feed(text.getBytes(StandardCharsets.ISO_8859_1));
    }

    Run group(String text) {
        return says("group", text, text.split("member", -1).length - 1);
    }

    /** A WORK of which so many STEPS are done, and so many REFUSED. */
    Run work(String text, int done, int refused) {
        return says("work", text, done).due("told(10)", refused);
    }

    /** A WORK all of whose STEPS are done. */
    Run work(String text, int done) {
        return work(text, done, 0);
    }

    /** A STEP that is REFUSED, and changes nothing. */
    Run refuses(String step) {
        String before = state();
        work(step, 0, 1);
        check("all that is told behind '" + step + "'", before, state());
        return this;
    }

    /** Texts that have this FAULT at this place, and change nothing. */
    Run faults(String reader, int answer, Object... textsAndPlaces) {
        String before = state();
        for (int i = 0; i < textsAndPlaces.length; i += 2) {
            fails(reader, (String) textsAndPlaces[i], answer, (Integer) textsAndPlaces[i + 1]);
        }
        check("all that is told behind faults", before, state());
        return this;
    }

    /** These calls change nothing that is told. */
    Run changesNothing(Object... rows) {
        String before = state();
        due(rows);
        check("all that is told", before, state());
        return this;
    }

    /** A WORK behind which all is as it was ahead of it, once it is undone; and so once more, by an IMAGE. */
    Run isUndone(String work) {
        String before = state();
        due("image()", 1).feed(work).answer("work(" + work.length() + ")");
        String between = state();
        answer("undo()");
        check("all that is told behind undo() of '" + work + "'", before, state());
        feed(work).answer("work(" + work.length() + ")");
        check("all that is told behind '" + work + "' once more", between, state());
        due("restore()", 0);
        check("all that is told behind restore() of what was ahead of '" + work + "'", before, state());
        return this;
    }

    /** What is told of all that WORK changes, and of the GROUP and the BOOK, as one text. */
    private String state() {
        StringBuilder s = new StringBuilder();
        int members = number("told(0)");
        int messages = number("told(7)");
        for (int what : new int[] {0, 1, 2, 3, 4, 5, 6, 7, 8, 9, 11}) {
            tell(s, "told(" + what + ")");
        }
        for (int k = 0; k < messages; k++) {
            for (int what = 0; what < 5; what++) {
                tell(s, "message(" + k + "," + what + ")");
            }
        }
        for (int m = 0; m < members; m++) {
            tellMember(s, m, members);
        }
        return s.toString();
    }

    private void tellMember(StringBuilder s, int m, int members) {
        for (int what = 0; what < 7; what++) {
            tell(s, "member(" + m + "," + what + ")");
        }
        tell(s, "tally(" + m + ")");
        for (int other = 0; other < members; other++) {
            tell(s, "knows(" + m + "," + other + ")");
        }
        int sends = number("member(" + m + ",4)");
        for (int i = 0; i < sends; i++) {
            tell(s, "held(" + m + "," + i + ")");
        }
        int entries = number("member(" + m + ",6)");
        for (int i = 0; i < entries; i++) {
            tell(s, "log(" + m + "," + i + ")");
        }
    }

    private int number(String call) {
        return Integer.parseInt(answer(call));
    }

    private void tell(StringBuilder s, String call) {
        s.append(call).append(' ').append(answer(call)).append("; ");
    }

    Run note(String due) {
        StringBuilder s = new StringBuilder();
        int signs = number("note()");
        for (int i = 0; i < signs; i++) {
            s.append((char) number("spelt(" + i + ")"));
        }
        check("note", due, s.toString());
        return this;
    }

    private void check(String call, String due, String got) {
        if (!got.equals(due)) {
            wrong++;
            System.out.println(name + ": " + call + " answered " + got + ", due is " + due);
        }
    }

    private void countCall() {
        calls++;
        if (calls == MOST_CALLS + 1) {
            wrong++;
            System.out.println(name + ": the run has more than " + MOST_CALLS + " calls");
        }
    }

    /** Ends a test: exit code 1, if any answer was not the one due. */
    static void end(String test) {
        System.out.println(test + ": " + (wrong == 0 ? "all as due" : wrong + " wrong"));
        System.exit(wrong == 0 ? 0 : 1);
    }

    private String answer(String call) {
        countCall();
        String method = call.substring(0, call.indexOf('('));
        Matcher numbers = NUMBER.matcher(call.substring(call.indexOf('(')));
        Object[] args = numbers.results().map(r -> (Object) Integer.valueOf(r.group())).toArray();
        for (Method m : FlushViews.class.getMethods()) {
            if (m.getName().equals(method) && m.getParameterCount() == args.length) {
                return invoke(m, args);
            }
        }
        return "no such method";
    }

    private String invoke(Method m, Object[] args) {
        try {
            return m.invoke(object, args).toString();
        } catch (InvocationTargetException e) {
            return e.getCause().getClass().getSimpleName();
        } catch (IllegalAccessException e) {
            return "not public";
        }
    }
}
