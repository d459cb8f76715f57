import java.lang.reflect.InvocationTargetException;
import java.lang.reflect.Method;
import java.nio.ByteBuffer;
import java.nio.charset.StandardCharsets;
import java.util.regex.Matcher;
import java.util.regex.Pattern;

/** A run of calls, told as texts, on a fresh object; prints each answer that is not the one due. */
final class Run {
    static int wrong;

    private static final Pattern NUMBER = Pattern.compile("-?\\d+");
    private final String name;
    private final FlushViews object = new FlushViews();

    Run(String name) {
        this.name = name;
    }

    /** Each row: a call, and its answer or the exception's name. */
    Run due(Object... rows) {
        for (int i = 0; i < rows.length; i += 2) {
            check(rows[i].toString(), rows[i + 1].toString(), answer(rows[i].toString()));
        }
        return this;
    }

    /** A text is fed and read by group, law, work or book; its fault is none. */
    Run says(String reader, String text, int answer) {
        return fails(reader, text, answer, -1);
    }

    Run fails(String reader, String text, int answer, int place) {
        byte[] bytes = text.getBytes(StandardCharsets.ISO_8859_1);
        feed(bytes);
        check(reader + " '" + text + "'", "" + answer, answer(reader + "(" + bytes.length + ")"));
        check("fault() of '" + text + "'", "" + place, answer("fault()"));
        check("count(1) behind '" + text + "'", "0", answer("count(1)"));
        return this;
    }

    Run feed(byte[] bytes) {
        ByteBuffer b = ByteBuffer.allocate((bytes.length + 19) / 20 * 20).put(bytes).rewind();
        while (b.hasRemaining()) {
            object.feed(b.getInt(), b.getInt(), b.getInt(), b.getInt(), b.getInt());
        }
        return this;
    }

    Run note(String due) {
        StringBuilder s = new StringBuilder();
        for (int i = 0; i < object.note(); i++) {
            s.append((char) object.spelt(i));
        }
        check("note", due, s.toString());
        return this;
    }

    private void check(String call, String due, String got) {
        if (!got.equals(due)) {
            wrong++;
            System.out.println(name + ": " + call + " answered " + got + ", due is " + due);
        }
    }

    private String answer(String call) {
        String method = call.substring(0, call.indexOf('('));
        Matcher numbers = NUMBER.matcher(call.substring(call.indexOf('(')));
        Object[] args = numbers.results().map(r -> (Object) Integer.valueOf(r.group())).toArray();
        for (Method m : FlushViews.class.getMethods()) {
            if (m.getName().equals(method) && m.getParameterCount() == args.length) {
                return invoke(m, args);
            }
        }
        return "no such method";
    }

    private String invoke(Method m, Object[] args) {
        try {
            return m.invoke(object, args).toString();
        } catch (InvocationTargetException e) {
            return e.getCause().getClass().getSimpleName();
        } catch (IllegalAccessException e) {
            return "not public";
        }
    }
}
