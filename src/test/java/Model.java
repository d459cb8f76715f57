import java.util.ArrayList;
import java.util.Arrays;
import java.util.List;
import java.util.NoSuchElementException;
import java.util.TreeMap;
import java.util.TreeSet;

/**
 * The document once more, in its plainest form: sets and lists, texts cut into tokens first, questions answered by
 * trying everything on copies. Slow; random runs are compared with it.
 */
final class Model {
    static final class Member {
        boolean up = true;
        boolean in;
        boolean blocked;
        boolean wants;
        int age;
        long sum;
        TreeSet<Integer> got = new TreeSet<>();
        TreeSet<Integer> keeps = new TreeSet<>();
        TreeMap<Integer, TreeSet<Integer>> knows = new TreeMap<>();
        List<Integer> held = new ArrayList<>();
        List<Long> log = new ArrayList<>();

        Member copy() {
            Member m = new Member();
            m.up = up;
            m.in = in;
            m.blocked = blocked;
            m.wants = wants;
            m.age = age;
            m.sum = sum;
            m.got.addAll(got);
            m.keeps.addAll(keeps);
            knows.forEach((k, v) -> m.knows.put(k, new TreeSet<>(v)));
            m.held.addAll(held);
            m.log.addAll(log);
            return m;
        }

        TreeSet<Integer> of(int other) {
            return knows.computeIfAbsent(other, k -> new TreeSet<>());
        }
    }

    static final class Message {
        final int sender;
        final int value;
        final TreeSet<Integer> way = new TreeSet<>();

        Message(int sender, int value) {
            this.sender = sender;
            this.value = value;
        }
    }

    final class World {
        int number = 1;
        int parting;
        TreeSet<Integer> view = new TreeSet<>();
        List<Member> all = new ArrayList<>();
        List<Message> messages = new ArrayList<>();

        World copy() {
            World w = new World();
            w.number = number;
            w.parting = parting;
            w.view.addAll(view);
            for (Member m : all) {
                w.all.add(m.copy());
            }
            for (Message k : messages) {
                Message c = new Message(k.sender, k.value);
                c.way.addAll(k.way);
                w.messages.add(c);
            }
            return w;
        }

        boolean works(int m) {
            return all.get(m).up && all.get(m).in;
        }

        boolean reach(int a, int b) {
            return (parting >> a & 1) == (parting >> b & 1);
        }

        int weight(int m) {
            return weightBy(m, all.get(m).age, number, view.size());
        }

        /** null: there is none. */
        TreeSet<Integer> primary() {
            int sum = 0;
            for (int m : view) {
                sum += weight(m);
            }
            for (int side = 0; side < 2; side++) {
                int part = 0;
                TreeSet<Integer> who = new TreeSet<>();
                for (int m = 0; m < all.size(); m++) {
                    if ((parting >> m & 1) != side) {
                        continue;
                    }
                    if (works(m)) {
                        part += weight(m);
                    }
                    if (works(m) || all.get(m).up && all.get(m).wants) {
                        who.add(m);
                    }
                }
                if (part > sum - part) {
                    return who;
                }
            }
            return null;
        }

        TreeSet<Integer> survivors() {
            TreeSet<Integer> s = new TreeSet<>();
            if (primary() != null) {
                for (int m : primary()) {
                    if (all.get(m).in) {
                        s.add(m);
                    }
                }
            }
            return s;
        }

        void deliver(int m, int k) {
            Member x = all.get(m);
            x.got.add(k);
            x.keeps.add(k);
            x.of(m).add(k);
            x.sum += (long) (messages.get(k).value + 1) * (messages.get(k).sender + 1);
            if (x.log.size() < 64) {
                x.log.add(x.sum);
            }
        }

        boolean send(int m, int v) {
            if (!works(m)) {
                return false;
            }
            if (all.get(m).blocked) {
                return all.get(m).held.size() < 8 && all.get(m).held.add(v);
            }
            if (messages.size() >= limit) {
                return false;
            }
            Message k = new Message(m, v);
            messages.add(k);
            for (int x = 0; x < all.size(); x++) {
                if (x != m && works(x)) {
                    k.way.add(x);
                }
            }
            deliver(m, messages.size() - 1);
            return true;
        }

        int first(int m, boolean any) {
            for (int k = 0; k < messages.size(); k++) {
                if (works(m) && messages.get(k).way.contains(m) && (any || reach(m, messages.get(k).sender))) {
                    return k;
                }
            }
            return -1;
        }

        boolean takeOrLose(int m, boolean lose) {
            int k = first(m, lose);
            if (k < 0) {
                return false;
            }
            messages.get(k).way.remove(m);
            if (!lose) {
                deliver(m, k);
            }
            return true;
        }

        boolean tell(int m) {
            if (!works(m)) {
                return false;
            }
            for (int x = 0; x < all.size(); x++) {
                if (works(x) && reach(x, m)) {
                    all.get(x).of(m).addAll(all.get(m).got);
                }
            }
            return true;
        }

        TreeSet<Integer> stable(int m) {
            TreeSet<Integer> s = new TreeSet<>();
            for (int k = 0; k < messages.size(); k++) {
                boolean yes = true;
                for (int x : view) {
                    yes &= all.get(m).of(x).contains(k);
                }
                if (yes) {
                    s.add(k);
                }
            }
            return s;
        }

        boolean crash(int m) {
            Member old = all.get(m);
            if (!old.up) {
                return false;
            }
            Member x = new Member();
            x.up = false;
            x.age = old.age;
            x.sum = old.sum;
            x.log = old.log;
            all.set(m, x);
            for (Message k : messages) {
                k.way.remove(m);
            }
            return true;
        }

        boolean join(int m) {
            if (works(m) || all.get(m).wants) {
                return false;
            }
            all.get(m).up = true;
            all.get(m).wants = true;
            return true;
        }

        boolean hold() {
            boolean news = false;
            for (int m : survivors()) {
                news |= !all.get(m).blocked;
                all.get(m).blocked = true;
            }
            return news;
        }

        void flush() {
            TreeSet<Integer> s = survivors();
            TreeSet<Integer> kept = new TreeSet<>();
            for (int m : s) {
                kept.addAll(all.get(m).keeps);
            }
            for (int m : s) {
                for (int k : kept) {
                    if (!all.get(m).got.contains(k)) {
                        deliver(m, k);
                    }
                }
            }
        }

        boolean view() {
            TreeSet<Integer> p = primary();
            if (p == null) {
                return false;
            }
            TreeSet<Integer> s = survivors();
            boolean wanted = false;
            for (int m : p) {
                if (all.get(m).in && !all.get(m).blocked) {
                    return false;
                }
                wanted |= all.get(m).wants;
            }
            if (p.equals(view) && !wanted) {
                return false;
            }
            flush();
            for (int m = 0; m < all.size(); m++) {
                Member x = all.get(m);
                if (p.contains(m) && !s.contains(m)) {
                    x.sum = all.get(s.first()).sum;
                    x.log = new ArrayList<>(List.of(x.sum));
                    x.wants = false;
                }
                if (x.in && !s.contains(m)) {
                    x.held.clear();
                }
                x.in = p.contains(m);
                x.age += x.in ? 1 : 0;
                x.blocked = false;
                x.got.clear();
                x.keeps.clear();
                x.knows.clear();
            }
            view = p;
            number++;
            messages.clear();
            for (int m = 0; m < all.size(); m++) {
                List<Integer> held = all.get(m).held;
                all.get(m).held = new ArrayList<>();
                for (int v : held) {
                    send(m, v);
                }
            }
            return true;
        }

        boolean agree() {
            World w = copy();
            w.flush();
            TreeSet<Long> sums = new TreeSet<>();
            for (int m : survivors()) {
                sums.add(w.all.get(m).sum);
            }
            return sums.size() <= 1;
        }

        boolean allKnow() {
            for (int a = 0; a < all.size(); a++) {
                for (int b = 0; b < all.size(); b++) {
                    if (works(a) && works(b) && reach(a, b) && !all.get(a).of(b).containsAll(all.get(b).got)) {
                        return false;
                    }
                }
            }
            return true;
        }
    }

    static final class Fault extends Exception {
        final int kind;
        final int place;

        Fault(int kind, int place) {
            this.kind = kind;
            this.place = place;
        }
    }

    record Token(char sort, String text, int place) { }

    /** Cuts a text into tokens, the last of which is the end. */
    static List<Token> cut(byte[] text) {
        List<Token> tokens = new ArrayList<>();
        String s = new String(text, java.nio.charset.StandardCharsets.ISO_8859_1);
        int i = 0;
        while (i < s.length()) {
            int from = i;
            if (s.charAt(i) == ' ') {
                i++;
            } else if (s.substring(i, i + 1).matches("[0-9]")) {
                while (i < s.length() && s.substring(i, i + 1).matches("[0-9]")) {
                    i++;
                }
                tokens.add(new Token('9', s.substring(from, i), from));
            } else if (s.substring(i, i + 1).matches("[a-z]")) {
                while (i < s.length() && s.substring(i, i + 1).matches("[a-z]")) {
                    i++;
                }
                tokens.add(new Token('a', s.substring(from, i), from));
            } else {
                i++;
                tokens.add(new Token('.', s.substring(from, i), from));
            }
        }
        tokens.add(new Token('$', "", s.length()));
        return tokens;
    }

    static final class Reader {
        final List<Token> tokens;
        int at;

        Reader(byte[] text) {
            tokens = cut(text);
        }

        Token now() {
            return tokens.get(at);
        }

        boolean is(String text) {
            return now().text.equals(text) && now().sort != '$';
        }

        Fault wrong(int kind) {
            return new Fault(kind, now().place);
        }

        void sign(String text) throws Fault {
            if (!is(text)) {
                throw wrong(1);
            }
            at++;
        }

        int number(int least, int most) throws Fault {
            if (now().sort != '9') {
                throw wrong(1);
            }
            java.math.BigInteger n = new java.math.BigInteger(now().text);
            if (n.compareTo(java.math.BigInteger.valueOf(least)) < 0 || n.compareTo(java.math.BigInteger.valueOf(most)) > 0) {
                throw wrong(2);
            }
            at++;
            return n.intValue();
        }
    }

    interface Term {
        int of(int member, int age, int view, int size);
    }

    static Term sum(Reader r, int open) throws Fault {
        Term left = product(r, open);
        while (r.is("+") || r.is("-")) {
            boolean plus = r.is("+");
            r.at++;
            Term a = left;
            Term b = product(r, open);
            left = plus ? (m, g, v, s) -> a.of(m, g, v, s) + b.of(m, g, v, s) : (m, g, v, s) -> a.of(m, g, v, s) - b.of(m, g, v, s);
        }
        return left;
    }

    static Term product(Reader r, int open) throws Fault {
        Term left = unit(r, open);
        while (r.is("*") || r.is("/") || r.is("%")) {
            String sign = r.now().text;
            r.at++;
            Term a = left;
            Term b = unit(r, open);
            left = (m, g, v, s) -> {
                long x = a.of(m, g, v, s);
                long y = b.of(m, g, v, s);
                if (sign.equals("*")) {
                    return (int) (x * y);
                }
                return y == 0 ? 0 : (int) (sign.equals("/") ? x / y : x % y);
            };
        }
        return left;
    }

    static Term unit(Reader r, int open) throws Fault {
        if (r.now().sort == '9') {
            int n = r.number(0, 999);
            return (m, g, v, s) -> n;
        }
        String t = r.now().text;
        boolean opens = r.is("(") || r.is("least") || r.is("most");
        if (opens && open == 6) {
            throw r.wrong(3);
        }
        if (r.is("(")) {
            r.at++;
            Term inner = sum(r, open + 1);
            r.sign(")");
            return inner;
        }
        if (opens) {
            r.at++;
            r.sign("[");
            Term a = sum(r, open + 1);
            r.sign(",");
            Term b = sum(r, open + 1);
            r.sign("]");
            return t.equals("least") ? (m, g, v, s) -> Math.min(a.of(m, g, v, s), b.of(m, g, v, s))
                    : (m, g, v, s) -> Math.max(a.of(m, g, v, s), b.of(m, g, v, s));
        }
        if (!r.is("member") && !r.is("age") && !r.is("view") && !r.is("size")) {
            throw r.wrong(1);
        }
        r.at++;
        return (m, g, v, s) -> t.equals("member") ? m : t.equals("age") ? g : t.equals("view") ? v : s;
    }

    record Step(String word, int a, int b, List<Step> body) { }

    List<Step> steps(Reader r, int open) throws Fault {
        List<Step> list = new ArrayList<>();
        while (open == 0 ? r.now().sort != '$' : !r.is("]")) {
            list.add(step(r, open));
            r.sign(";");
        }
        return list;
    }

    Step step(Reader r, int open) throws Fault {
        String t = r.now().text;
        if (r.now().sort != 'a' || !Arrays.asList("send", "take", "lose", "tell", "trim", "crash", "join", "part", "hold",
                "view", "again").contains(t)) {
            throw r.wrong(1);
        }
        if (t.equals("again") && open == 6) {
            throw r.wrong(3);
        }
        r.at++;
        switch (t) {
            case "hold":
            case "view":
                return new Step(t, 0, 0, null);
            case "part":
                return new Step(t, r.number(0, 63), 0, null);
            case "again":
                int n = r.number(0, 60);
                r.sign("[");
                List<Step> body = steps(r, open + 1);
                r.sign("]");
                return new Step(t, n, 0, body);
            default:
                int m = r.number(0, now.all.size() - 1);
                return new Step(t, m, t.equals("send") ? r.number(0, 999) : 0, null);
        }
    }

    // What the object holds.
    World now = new World();
    int limit = 30;
    Term law;
    TreeMap<Integer, Integer> book = new TreeMap<>();
    byte[] tape = new byte[0];
    int fault = -1;
    int refused;
    List<World> past = new ArrayList<>();
    List<World> images = new ArrayList<>();
    List<List<World>> imagesPast = new ArrayList<>();
    int[] status = new int[4];
    int begun;
    int done;
    int no;

    int weightBy(int m, int age, int view, int size) {
        int w = law == null ? 1 : law.of(m, age, view, size);
        return w < 0 ? 0 : w > 99 ? 99 : w;
    }

    boolean perform(World w, Step s) {
        switch (s.word) {
            case "send": return w.send(s.a, s.b);
            case "take": return w.takeOrLose(s.a, false);
            case "lose": return w.takeOrLose(s.a, true);
            case "tell": return w.tell(s.a);
            case "trim": return w.works(s.a) && w.all.get(s.a).keeps.removeAll(w.stable(s.a));
            case "crash": return w.crash(s.a);
            case "join": return w.join(s.a);
            case "hold": return w.hold();
            case "view": return w.view();
            default:
                boolean other = w.parting != s.a;
                w.parting = s.a;
                return other;
        }
    }

    void perform(List<Step> list) {
        for (Step s : list) {
            if (begun == 200) {
                return;
            }
            begun++;
            if (s.word.equals("again")) {
                for (int i = 0; i < s.a; i++) {
                    perform(s.body);
                }
            } else if (perform(now, s)) {
                done++;
            } else {
                no++;
            }
        }
    }

    void need(boolean b, int reason) {
        if (!b) {
            status[reason]++;
            switch (reason) {
                case 0: throw new NoSuchElementException();
                case 1: throw new IllegalArgumentException();
                case 2: throw new NullPointerException();
                default: throw new IndexOutOfBoundsException();
            }
        }
    }

    boolean isMember(int m) {
        return 0 <= m && m < now.all.size();
    }

    static int bits(Iterable<Integer> set) {
        int b = 0;
        for (int i : set) {
            b |= 1 << i;
        }
        return b;
    }

    byte[] text(int n, int most) {
        need(n >= 0 && n <= tape.length && n <= most, 1);
        byte[] t = Arrays.copyOf(tape, n);
        tape = new byte[0];
        fault = -1;
        return t;
    }

    interface Reading {
        int from(Reader r) throws Fault;
    }

    int read(byte[] t, Reading reading) {
        try {
            return reading.from(new Reader(t));
        } catch (Fault f) {
            fault = f.place;
            return f.kind - 10;
        }
    }

    int group(Reader r) throws Fault {
        World w = new World();
        int clauses = 0;
        int most = 30;
        while (r.now().sort != '$') {
            boolean member = r.is("member");
            if (!member && !r.is("limit")) {
                throw r.wrong(1);
            }
            if (clauses == 60 || member && w.all.size() == 6) {
                throw r.wrong(3);
            }
            clauses++;
            r.at++;
            if (member) {
                Member m = new Member();
                m.in = r.number(0, 1) == 1;
                m.age = m.in ? 1 : 0;
                if (m.in) {
                    w.view.add(w.all.size());
                }
                w.all.add(m);
            } else {
                most = r.number(1, 30);
            }
            r.sign(";");
        }
        now = w;
        limit = most;
        law = null;
        book.clear();
        past.clear();
        images.clear();
        imagesPast.clear();
        refused = 0;
        return w.all.size();
    }

    int law(Reader r) throws Fault {
        Term t = sum(r, 0);
        if (r.now().sort != '$') {
            throw r.wrong(1);
        }
        law = t;
        return 1;
    }

    int book(Reader r) throws Fault {
        TreeMap<Integer, Integer> b = new TreeMap<>();
        while (r.now().sort != '$') {
            int place = r.now().place;
            int m = r.number(0, now.all.size() - 1);
            if (b.containsKey(m)) {
                throw new Fault(2, place);
            }
            b.put(m, r.number(0, 1));
            r.sign(";");
        }
        book = b;
        return b.size();
    }

    int work(Reader r) throws Fault {
        List<Step> list = steps(r, 0);
        past.add(now.copy());
        begun = 0;
        done = 0;
        no = 0;
        perform(list);
        refused = no;
        return done;
    }

    /** Of each set P of MEMBERS, who would be in the next VIEW; null where there is no PRIMARY PART. */
    List<TreeSet<Integer>> partings() {
        List<TreeSet<Integer>> list = new ArrayList<>();
        for (int p = 0; p < 1 << now.all.size(); p++) {
            World w = now.copy();
            w.parting = p;
            list.add(w.primary());
        }
        return list;
    }

    List<Integer> fits(TreeMap<Integer, Integer> lines) {
        List<Integer> fit = new ArrayList<>();
        List<TreeSet<Integer>> parts = partings();
        for (int p = 0; p < parts.size(); p++) {
            boolean right = true;
            for (int m : lines.keySet()) {
                boolean would = parts.get(p) != null && parts.get(p).contains(m);
                right &= would == (lines.get(m) == 1);
            }
            if (right) {
                fit.add(p);
            }
        }
        return fit;
    }

    int look(int what) {
        int best = -1;
        int left = -1;
        for (int m = 0; m < now.all.size(); m++) {
            if (book.containsKey(m)) {
                continue;
            }
            int worst = 0;
            for (int v = 0; v < 2; v++) {
                TreeMap<Integer, Integer> more = new TreeMap<>(book);
                more.put(m, v);
                worst = Math.max(worst, fits(more).size());
            }
            if (best < 0 || worst < left) {
                best = m;
                left = worst;
            }
        }
        return what == 0 ? best : left;
    }

    int fall() {
        if (now.primary() == null) {
            return 0;
        }
        int fewest = 99;
        for (int set = 0; set < 1 << now.all.size(); set++) {
            World w = now.copy();
            boolean may = true;
            for (int m = 0; m < now.all.size(); m++) {
                if ((set >> m & 1) == 1) {
                    may &= now.works(m);
                    w.crash(m);
                }
            }
            if (may && w.primary() == null) {
                fewest = Math.min(fewest, Integer.bitCount(set));
            }
        }
        return fewest;
    }

    int tells() {
        int fewest = 99;
        for (int set = 0; set < 1 << now.all.size(); set++) {
            World w = now.copy();
            for (int m = 0; m < now.all.size(); m++) {
                if ((set >> m & 1) == 1) {
                    w.tell(m);
                }
            }
            if (w.allKnow()) {
                fewest = Math.min(fewest, Integer.bitCount(set));
            }
        }
        return fewest;
    }

    String note() {
        StringBuilder s = new StringBuilder("v" + now.number + ":");
        String comma = "";
        for (int m : now.view) {
            s.append(comma).append(m).append(now.all.get(m).blocked ? "!" : "").append(now.all.get(m).up ? "" : "?");
            comma = ",";
        }
        return s + ";" + now.messages.size();
    }

    long seed;

    int draw(int by) {
        seed = (seed * 1103515245L + 12345L) & 0xffffffffL;
        return (int) ((seed / 65536) % 32768 % by);
    }

    World storm(int first, int many, int q) {
        World w = now.copy();
        seed = first & 0xffffffffL;
        for (int i = 0; i < many && !w.all.isEmpty(); i++) {
            int m = draw(w.all.size());
            int k = draw(8);
            if (k < 2) {
                w.send(m, draw(100));
            } else if (k < 4) {
                w.takeOrLose(m, false);
            } else if (k == 4) {
                w.takeOrLose(m, true);
            } else if (k == 5) {
                w.tell(m);
            } else if (k == 7) {
                w.hold();
                w.view();
            } else if (draw(16) < q) {
                w.crash(m);
            } else {
                w.join(m);
            }
        }
        return w;
    }

    int behind(int what) {
        int best = -1;
        for (int m = 0; m < now.all.size(); m++) {
            if (now.all.get(m).in && (best < 0 || now.all.get(m).got.size() < now.all.get(best).got.size())) {
                best = m;
            }
        }
        return what == 0 || best < 0 ? best : now.all.get(best).got.size();
    }

    int told(int what) {
        TreeSet<Integer> set = new TreeSet<>();
        int ways = 0;
        for (int m = 0; m < now.all.size(); m++) {
            Member x = now.all.get(m);
            if (what == 3 && x.up || what == 4 && x.blocked || what == 5 && x.wants) {
                set.add(m);
            }
        }
        for (Message k : now.messages) {
            ways += k.way.size();
        }
        int[] answers = {now.all.size(), now.number, bits(now.view), bits(set), bits(set), bits(set), now.parting,
            now.messages.size(), ways, book.size(), refused, limit};
        return answers[what];
    }

    int member(int m, int what) {
        Member x = now.all.get(m);
        int[] answers = {x.in ? 1 : 0, x.age, x.got.size(), x.keeps.size(), x.held.size(), now.weight(m), x.log.size()};
        return answers[what];
    }

    int message(int k, int what) {
        Message x = now.messages.get(k);
        TreeSet<Integer> set = new TreeSet<>();
        for (int m = 0; m < now.all.size(); m++) {
            if ((what == 2 ? now.all.get(m).got : now.all.get(m).keeps).contains(k)) {
                set.add(m);
            }
        }
        int[] answers = {x.sender, x.value, bits(set), bits(set), bits(x.way)};
        return answers[what];
    }

    int missing(int m) {
        World w = now.copy();
        w.flush();
        TreeSet<Integer> more = new TreeSet<>(w.all.get(m).got);
        more.removeAll(now.all.get(m).got);
        return bits(more);
    }

    int lost() {
        if (now.primary() == null) {
            return 0;
        }
        TreeSet<Integer> set = new TreeSet<>();
        for (int k = 0; k < now.messages.size(); k++) {
            set.add(k);
        }
        for (int m : now.primary()) {
            set.removeAll(now.all.get(m).got);
        }
        return bits(set);
    }

    static boolean within(int x, int a, int b) {
        return a <= x && x <= b;
    }

    long call(String name, int[] a) {
        switch (name) {
            case "feed":
                if (tape.length > 580) {
                    return -1;
                }
                java.nio.ByteBuffer b = java.nio.ByteBuffer.allocate(tape.length + 20).put(tape);
                for (int x : a) {
                    b.putInt(x);
                }
                tape = b.array();
                return tape.length;
            case "group":
                return read(text(a[0], 600), this::group);
            case "law":
                return read(text(a[0], 150), this::law);
            case "book":
                return read(text(a[0], 60), this::book);
            case "work":
                byte[] t = text(a[0], 150);
                return past.size() == 16 ? -20 : read(t, this::work);
            case "fault":
                return fault;
            case "undo":
                if (past.isEmpty()) {
                    return -1;
                }
                now = past.remove(past.size() - 1);
                refused = 0;
                return past.size();
            case "image":
                if (images.size() == 3) {
                    return -1;
                }
                images.add(now.copy());
                imagesPast.add(new ArrayList<>());
                for (World w : past) {
                    imagesPast.get(images.size() - 1).add(w.copy());
                }
                return images.size();
            case "restore":
                if (images.isEmpty()) {
                    return -1;
                }
                now = images.remove(images.size() - 1);
                past = imagesPast.remove(images.size());
                refused = 0;
                return images.size();
            case "status":
                return within(a[0], 0, 3) ? status[a[0]] : -1;
            case "count":
                return a[0] == 0 ? images.size() : a[0] == 1 ? tape.length : a[0] == 2 ? past.size() : -1;
            default:
                return ask(name, a);
        }
    }

    long ask(String name, int[] a) {
        switch (name) {
            case "told":
                need(within(a[0], 0, 11), 1);
                return told(a[0]);
            case "member":
                need(isMember(a[0]), 0);
                need(within(a[1], 0, 6), 1);
                return member(a[0], a[1]);
            case "tally":
                need(isMember(a[0]), 0);
                return now.all.get(a[0]).sum;
            case "log":
                need(isMember(a[0]), 0);
                need(now.all.get(a[0]).age > 0, 2);
                need(within(a[1], 0, 63) && a[1] < now.all.get(a[0]).log.size(), 3);
                return now.all.get(a[0]).log.get(a[1]);
            case "message":
                need(within(a[1], 0, 4), 1);
                need(within(a[0], 0, 29), 3);
                need(a[0] < now.messages.size(), 2);
                return message(a[0], a[1]);
            case "knows":
                need(isMember(a[0]) && isMember(a[1]), 0);
                return bits(now.all.get(a[0]).of(a[1]));
            case "stable":
                need(isMember(a[0]), 0);
                return bits(now.stable(a[0]));
            case "would":
                need(within(a[0], 0, 5) && within(a[1], 0, 9999) && within(a[2], 0, 9999) && within(a[3], 0, 6), 1);
                return weightBy(a[0], a[1], a[2], a[3]);
            case "primary":
                return now.primary() == null ? -1 : bits(now.primary());
            case "missing":
                need(isMember(a[0]), 0);
                return missing(a[0]);
            case "lost":
                return lost();
            case "fall":
                return fall();
            case "splits":
                return partings().stream().filter(p -> p == null).count();
            case "tells":
                return tells();
            case "next":
                need(isMember(a[0]), 0);
                return now.first(a[0], false);
            case "held":
                need(isMember(a[0]), 0);
                need(a[1] >= 0, 1);
                return a[1] < now.all.get(a[0]).held.size() ? now.all.get(a[0]).held.get(a[1]) : -1;
            case "agree":
                return now.agree() ? 1 : 0;
            case "fits":
                need(within(a[0], 0, 1), 1);
                return a[0] == 0 ? fits(book).size() : fits(book).isEmpty() ? -1 : fits(book).get(0);
            case "look":
                need(within(a[0], 0, 1), 1);
                return look(a[0]);
            case "note":
                return note().length();
            case "spelt":
                need(a[0] >= 0, 1);
                return a[0] < note().length() ? note().charAt(a[0]) : -1;
            case "lore":
                need(isMember(a[0]), 0);
                return now.view.stream().mapToInt(x -> now.all.get(a[0]).of(x).size()).sum();
            case "behind":
                need(within(a[0], 0, 1), 1);
                return behind(a[0]);
            case "storm":
                need(within(a[1], 1, 96) && within(a[2], 0, 16) && within(a[3], 0, 3), 1);
                World w = storm(a[0], a[1], a[2]);
                return new int[] {w.number, bits(w.view), w.messages.size(), w.agree() ? 1 : 0}[a[3]];
            case "span":
                need(isMember(a[5]), 0);
                need(within(a[1], 1, 10) && within(a[2], 1, 96) && within(a[3], 0, 16) && within(a[4], 0, 2), 1);
                return span(a);
            default:
                throw new IllegalStateException(name);
        }
    }

    int span(int[] a) {
        TreeSet<Integer> numbers = new TreeSet<>();
        int in = 0;
        for (int i = 0; i < a[1]; i++) {
            World w = storm(a[0] + i, a[2], a[3]);
            numbers.add(w.number);
            in += w.all.get(a[5]).in ? 1 : 0;
        }
        return a[4] == 0 ? numbers.first() : a[4] == 1 ? numbers.last() : in;
    }
}
