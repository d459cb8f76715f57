/**
 * What is asked (part 3 of the document's Terms), and the calls that ask, undo and keep (promises 1 and 8 to 37): each
 * sentence that names a boundary case has a run of its own, which bears the sentence's words.
 */
public final class BoundsOfCallsTest {
    private static final String NSE = Run.NSE;
    private static final String IAE = Run.IAE;
    private static final String NPE = Run.NPE;
    private static final String IOB = Run.IOB;
    private static final String TWO = "member 1;member 1;";
    private static final String THREE = "member 1;" + TWO;
    private static final String FOUR = THREE + "member 1;";
    private static final String SIX = THREE + THREE;
    private static final String ONE_OUTSIDE = THREE + "member 0;";
    private static final String NOBODY_IN = "member 0;member 0;";
    // A LAW by which MEMBER 0 alone is always more than half, so that others may come and go.
    private static final String FIRST_RULES = "1-member";
    private static final String NEW_VIEW = "crash 1;join 1;hold;view;";

    private BoundsOfCallsTest() { }

    public static void main(String[] args) {
        newObject();
        noSuchMember();
        noSuchWhat();
        asked();
        undo();
        told();
        member();
        tallyAndLog();
        message();
        knowsStableLore();
        would();
        primaryMissingLost();
        fall();
        splits();
        tells();
        nextAndHeld();
        agree();
        fits();
        look();
        note();
        spelt();
        behind();
        storm();
        drawn();
        span();
        image();
        restore();
        status();
        count();
        Run.end("BoundsOfCallsTest");
    }

    private static Run three(String name) {
        return new Run(name).group(THREE);
    }

    private static void newObject() {
        new Run("1 A GROUP without CLAUSES").changesNothing("told(0)", 0, "told(1)", 1, "told(2)", 0, "told(3)", 0, "told(11)", 30,
                "primary()", -1, "lost()", 0, "fall()", 0, "splits()", 1, "tells()", 0, "agree()", true, "fits(0)", 1, "fits(1)", 0,
                "look(0)", -1, "look(1)", -1, "behind(0)", -1, "behind(1)", -1, "storm(7,96,8,0)", 1, "storm(7,96,8,2)", 0,
                "fault()", -1, "count(0)", 0, "count(1)", 0, "count(2)", 0, "status(0)", 0).note("v1:;0");
    }

    private static void noSuchMember() {
        String[] calls = {"member(%d,0)", "tally(%d)", "log(%d,0)", "knows(%d,0)", "knows(0,%d)", "stable(%d)", "missing(%d)",
                "next(%d)", "held(%d,0)", "lore(%d)", "span(1,1,1,0,0,%d)", "span(1,1,1,0,1,%d)", "span(1,1,1,0,2,%d)"};
        for (String call : calls) {
            three("NoSuchElementException: no such MEMBER: " + call).work("send 0 1;take 1;take 2;", 3)
                .changesNothing(String.format(call, -1), NSE, String.format(call, 3), NSE, String.format(call, Integer.MAX_VALUE), NSE,
                    String.format(call, Integer.MIN_VALUE), NSE, "status(0)", 4, "status(1)", 0);
            new Run("NoSuchElementException: there are no MEMBERS: " + call).due(String.format(call, 0), NSE, "status(0)", 1);
        }
        three("NoSuchElementException (so below, ahead of others)")
            .due("member(3,7)", NSE, "member(-1,-1)", NSE, "log(3,-1)", NSE, "log(3,64)", NSE, "held(3,-1)", NSE, "knows(3,3)", NSE,
                "span(1,0,0,17,3,3)", NSE, "status(0)", 7, "status(1)", 0, "status(2)", 0, "status(3)", 0);
    }

    private static void noSuchWhat() {
        String[] calls = {"told(%d)", "member(0,%d)", "message(0,%d)", "fits(%d)", "look(%d)", "behind(%d)", "storm(1,1,0,%d)",
                "span(1,1,1,0,%d,0)"};
        int[] most = {11, 6, 4, 1, 1, 1, 3, 2};
        int[] first = {3, 1, 0, 8, 0, 1, 1, 1};
        int[] last = {30, 1, 6, 0, 6, 0, 1, 1};
        for (int i = 0; i < calls.length; i++) {
            Run run = three("IllegalArgumentException: another what (so below): " + calls[i]).work("send 0 1;", 1);
            for (int what : new int[] {-1, most[i] + 1, Integer.MAX_VALUE, Integer.MIN_VALUE}) {
                run.due(String.format(calls[i], what), IAE);
            }
            run.due("status(1)", 4, String.format(calls[i], 0), first[i], String.format(calls[i], most[i]), last[i], "status(1)", 4);
        }
    }

    private static void asked() {
        three("Asked, nothing stays changed").work("send 0 1;take 1;hold;send 1 5;", 4)
            .changesNothing("primary()", 7, "missing(2)", 1, "lost()", 0, "fall()", 2, "splits()", 0, "tells()", 2, "next(2)", 0,
                "agree()", true, "fits(0)", 8, "fits(1)", 0, "look(0)", 0, "look(1)", 6, "note()", 13, "spelt(0)", 118, "lore(0)", 1,
                "behind(0)", 2, "behind(1)", 0, "would(0,0,0,0)", 1, "stable(0)", 0, "fault()", -1, "status(0)", 0, "count(2)", 1,
                "told(10)", 0);
    }

    private static void undo() {
        three("8 -1: there is none").changesNothing("undo()", -1).work("part 1;", 1).due("undo()", 0).changesNothing("undo()", -1)
            .due("told(6)", 0, "status(0)", 0, "status(1)", 0);
        three("8 The latest WORK that was done (of no STEPS, too)").work("part 1;", 1).work("", 0).work("join 0;", 0, 1)
            .due("count(2)", 3, "undo()", 2, "told(6)", 1, "undo()", 1, "told(6)", 1, "undo()", 0, "told(6)", 0);
        three("8 The latest WORK that was done: one with a FAULT was not").work("part 1;", 1).fails("work", "part 2;foo", -9, 7)
            .due("count(2)", 1, "undo()", 0, "told(6)", 0);
        Run deep = three("8 how many are left: of 16");
        for (int i = 1; i <= 16; i++) {
            deep.work("part " + i + ";", 1);
        }
        for (int i = 15; i >= 0; i--) {
            deep.due("undo()", i, "told(6)", i);
        }
        deep.due("undo()", -1);
        new Run("8 is undone: all that it did").group(ONE_OUTSIDE).says("law", FIRST_RULES, 1)
            .work("send 0 1;take 1;tell 1;send 1 4;hold;send 0 2;send 0 3;", 7)
            .work("part 8;crash 2;join 3;part 0;view;send 3 7;take 0;tell 0;", 8)
            .due("told(1)", 2, "undo()", 1, "told(1)", 1, "told(2)", 7, "told(3)", 15, "told(4)", 7, "told(5)", 0, "told(6)", 0,
                "told(7)", 2, "told(8)", 3, "member(0,1)", 1, "member(3,1)", 0, "member(0,4)", 2, "held(0,0)", 2, "held(0,1)", 3,
                "tally(0)", 2, "tally(1)", 12, "tally(3)", 0, "member(0,6)", 1, "log(1,1)", 12, "log(3,0)", NPE, "knows(0,1)", 1,
                "knows(2,1)", 1, "message(1,1)", 4, "message(0,3)", 3, "message(1,4)", 5, "next(2)", 0);
        // What is written behind it stands in the same places: another send HELD, another sender, another LOG.
        three("8 is undone: what is HELD").work("hold;send 0 2;send 0 3;", 3).isUndone("crash 2;view;hold;send 0 8;send 0 9;");
        three("8 is undone: MESSAGES").work("send 2 5;take 1;tell 1;", 3).isUndone("crash 2;hold;view;send 1 6;take 0;tell 0;");
        three("8 is undone: LOGS").work("send 2 5;", 1).isUndone("crash 2;join 2;hold;view;send 0 7;");
        three("8 LAW and BOOK are no WORK").work("part 1;", 1).says("law", "7", 1).says("book", "0 1;", 1)
            .due("undo()", 0, "member(0,5)", 7, "told(9)", 1);
    }

    private static void told() {
        new Run("9 2 MEMBERS of the VIEW, 3 those that are UP, 4 BLOCKED, 5 that WANT to join (bits)").group(SIX)
            .work("hold;crash 5;crash 0;join 5;", 4).due("told(2)", 63, "told(3)", 62, "told(4)", 30, "told(5)", 32);
        new Run("9 8 how many are ON THE WAY (one as often as to how many MEMBERS)").group(SIX).due("told(8)", 0)
            .work("again 30 [send 5 0;];", 30).due("told(8)", 150, "told(7)", 30).work("take 0;lose 1;", 2).due("told(8)", 148)
            .work("crash 4;", 1).due("told(8)", 118);
        three("9 10 STEPS REFUSED by the latest WORK (0 ahead of any").due("told(10)", 0).work("join 0;join 1;part 1;", 1, 2)
            .work("part 0;", 1, 0).work("again 3 [join 0;];", 0, 3).fails("work", "join 0;foo", -9, 7)
            .due("told(10)", 3, "work(99)", IAE, "told(10)", 3, "image()", 1, "told(10)", 3).group(THREE).due("told(10)", 0);
        three("9 10: 0 .. behind undo(), restore()").work("join 0;", 0, 1).due("image()", 1).work("join 0;join 1;", 0, 2)
            .due("undo()", 1, "told(10)", 0).work("join 0;join 1;", 0, 2).due("restore()", 0, "told(10)", 0).work("join 0;", 0, 1)
            .due("undo()", 1, "told(10)", 0);
        three("9 9 lines of the BOOK").due("told(9)", 0).says("book", "0 1;1 1;2 1;", 3).due("told(9)", 3).says("book", "", 0)
            .due("told(9)", 0);
    }

    private static void member() {
        three("10 2 how many MESSAGES it has GOT, 3 how many it KEEPS: 30").due("member(0,2)", 0, "member(0,3)", 0)
            .work("again 30 [send 0 0;];", 30).due("member(0,2)", 30, "member(0,3)", 30, "member(1,2)", 0)
            .work("again 30 [take 1;];", 30).due("member(1,2)", 30, "member(1,3)", 30);
        three("10 4 how many sends are HELD of it: 8").due("member(0,4)", 0).work("hold;again 9 [send 0 1;];", 9, 1)
            .due("member(0,4)", 8, "member(1,4)", 0);
        new Run("10 of one outside").group(ONE_OUTSIDE)
            .due("member(3,0)", 0, "member(3,1)", 0, "member(3,2)", 0, "member(3,3)", 0, "member(3,4)", 0, "member(3,5)", 1,
                "member(3,6)", 0, "tally(3)", 0);
    }

    private static void tallyAndLog() {
        Run run = new Run("12 of at most 64 (what would be the 65th and more is left out)").group(TWO).says("law", FIRST_RULES, 1)
            .work("again 30 [send 0 0;];" + NEW_VIEW, 34).work("again 30 [send 0 0;];" + NEW_VIEW, 34).work("again 3 [send 0 0;];", 3)
            .due("member(0,6)", 63, "log(0,62)", 63, "log(0,63)", IOB).work("send 0 0;", 1).due("member(0,6)", 64, "log(0,63)", 64)
            .work("send 0 0;", 1).due("member(0,6)", 64, "log(0,63)", 64, "log(0,64)", IOB, "tally(0)", 65, "log(0,0)", 1);
        // Who joins has the whole SUM, and a LOG of one entry.
        run.work(NEW_VIEW, 4).due("tally(1)", 65, "member(1,6)", 1, "log(1,0)", 65, "member(0,6)", 64).work("send 1 0;take 0;", 2)
            .due("tally(0)", 67, "member(1,6)", 2, "log(1,1)", 67, "log(0,63)", 64);
        new Run("12 NullPointerException: it never was IN").group(ONE_OUTSIDE).due("log(3,0)", NPE, "log(3,63)", NPE, "status(2)", 2)
            .work("join 3;", 1).due("log(3,0)", NPE).work("hold;view;", 2).due("log(3,0)", 0, "log(3,1)", IOB).work("crash 3;", 1)
            .due("log(3,0)", 0, "status(2)", 3).group(ONE_OUTSIDE).due("log(3,0)", NPE);
        new Run("12 NullPointerException: it never was IN, whatever i is").group(ONE_OUTSIDE)
            .due("log(3,64)", NPE, "log(3,-1)", NPE, "status(2)", 2, "status(3)", 0);
        three("12 IndexOutOfBoundsException: i is not 0 to 63, or there is no such entry").due("log(0,0)", IOB).work("send 0 6;", 1)
            .due("log(0,0)", 7, "log(0,1)", IOB, "log(0,63)", IOB, "log(0,64)", IOB, "log(0,-1)", IOB, "log(0,2147483647)", IOB,
                "log(0,-2147483648)", IOB, "log(1,0)", IOB, "status(3)", 8, "status(2)", 0);
    }

    private static void message() {
        three("13 IndexOutOfBoundsException: k is not 0 to 29")
            .due("message(-1,0)", IOB, "message(30,0)", IOB, "message(2147483647,4)", IOB, "message(-2147483648,4)", IOB,
                "status(3)", 4).work("again 30 [send 2 8;];", 30)
            .due("message(29,0)", 2, "message(29,4)", 3, "message(30,0)", IOB, "message(-1,0)", IOB, "status(3)", 6, "status(2)", 0);
        three("13 NullPointerException: there is no such one").due("message(0,0)", NPE, "message(29,0)", NPE).work("send 2 8;", 1)
            .due("message(0,0)", 2, "message(1,0)", NPE, "message(29,4)", NPE, "status(2)", 4, "status(3)", 0);
        three("13 (IllegalArgumentException ahead of the others.)")
            .due("message(-1,5)", IAE, "message(30,-1)", IAE, "message(0,5)", IAE, "message(29,-1)", IAE, "status(1)", 4,
                "status(2)", 0, "status(3)", 0);
        new Run("13 2 who has GOT it, 3 who KEEPS it, 4 to whom it is ON THE WAY (bits)").group(SIX).work("send 5 9;take 0;lose 1;", 3)
            .due("message(0,2)", 33, "message(0,3)", 33, "message(0,4)", 28);
    }

    private static void knowsStableLore() {
        three("14 another one (or itself)").due("knows(0,0)", 0).work("again 30 [send 2 0;];", 30)
            .due("knows(2,2)", 1073741823, "knows(0,2)", 0).work("tell 2;", 1).due("knows(0,2)", 1073741823, "knows(2,0)", 0);
        new Run("15 MESSAGES (bits) that are STABLE by a MEMBER: none").group(ONE_OUTSIDE).due("stable(0)", 0, "stable(3)", 0)
            .work("send 0 1;", 1).due("stable(0)", 0, "stable(1)", 0, "stable(3)", 0);
        new Run("15 of a VIEW of nobody").group(NOBODY_IN).due("stable(0)", 0, "stable(1)", 0, "lore(0)", 0);
        new Run("30 of all MEMBERS of the VIEW together (one as often as of how many of these)").group(THREE).due("lore(0)", 0)
            .work("send 0 1;", 1).due("lore(0)", 1, "lore(1)", 0).work("take 1;take 2;tell 1;tell 2;tell 0;", 5)
            .due("lore(0)", 3, "lore(1)", 3).work("crash 2;", 1).due("lore(0)", 3, "lore(2)", 0);
    }

    private static void would() {
        Run run = new Run("16 for such member (0 to 5), age, view (0 to 9,999 both), size (0 to 6)")
            .says("law", "member+age/333+view/999+size*2", 1)
            .due("would(0,0,0,0)", 0, "would(5,9999,9999,6)", 57, "would(5,0,0,0)", 5, "would(0,9999,0,0)", 30,
                "would(0,0,9999,0)", 10, "would(0,0,0,6)", 12);
        run.due("would(-1,0,0,0)", IAE, "would(6,0,0,0)", IAE, "would(0,-1,0,0)", IAE, "would(0,10000,0,0)", IAE,
                "would(0,0,-1,0)", IAE, "would(0,0,10000,0)", IAE, "would(0,0,0,-1)", IAE, "would(0,0,0,7)", IAE, "status(1)", 8,
                "would(2147483647,0,0,0)", IAE, "would(0,-2147483648,0,0)", IAE, "would(0,0,2147483647,0)", IAE,
                "would(0,0,0,-2147483648)", IAE, "status(1)", 12, "status(0)", 0);
        three("16 WEIGHT by the LAW: 0 at least, 99 at most; also of no MEMBER told").says("law", "view-50", 1)
            .due("would(5,0,49,0)", 0, "would(5,0,50,0)", 0, "would(5,0,51,0)", 1, "would(5,0,149,0)", 99, "would(5,0,150,0)", 99,
                "would(5,0,0,0)", 0);
    }

    private static void primaryMissingLost() {
        new Run("17 NONE: there is none").due("primary()", -1).group(TWO).due("primary()", 3).work("part 1;", 1).due("primary()", -1)
            .work("part 3;", 1).due("primary()", 3);
        new Run("18 0: it is no SURVIVOR").group(FOUR + "member 0;member 1;").work("send 0 1;crash 1;part 4;join 4;crash 5;join 5;", 6)
            .due("primary()", -1, "missing(3)", 0).work("part 0;", 1)
            .due("primary()", 61, "missing(0)", 0, "missing(1)", 0, "missing(2)", 1, "missing(3)", 1, "missing(4)", 0, "missing(5)", 0);
        three("18 0: it is no SURVIVOR, being out of reach").work("send 0 1;send 2 1;part 4;", 3)
            .due("missing(0)", 0, "missing(1)", 1, "missing(2)", 0);
        three("18 MESSAGES that it would DELIVER by a FLUSH now: 30").work("again 30 [send 0 0;];", 30)
            .due("missing(0)", 0, "missing(1)", 1073741823, "missing(2)", 1073741823).work("take 1;", 1).due("missing(1)", 1073741822);
        three("18 what it has GOT, but does not KEEP any more").work("send 0 3;take 1;take 2;tell 1;tell 2;trim 0;", 6)
            .due("missing(0)", 0, "message(0,3)", 6);
        three("19 0: there is no PRIMARY PART").work("send 2 1;part 4;", 2).due("lost()", 1).work("crash 1;", 1)
            .due("primary()", -1, "lost()", 0);
        new Run("19 LOST: nobody of the PRIMARY PART has GOT").group(ONE_OUTSIDE).due("lost()", 0)
            .work("send 2 1;send 0 1;send 2 1;take 0;crash 2;join 2;join 3;", 7).due("primary()", 15, "lost()", 4).work("take 1;", 1)
            .due("lost()", 4).work("take 0;", 1).due("lost()", 0);
        three("19 LOST: 30").work("again 30 [send 2 0;];part 4;", 31).due("lost()", 1073741823);
        three("19 LOST: what was GOT and is not KEPT is not")
            .work("send 0 3;take 1;take 2;tell 0;tell 1;tell 2;trim 0;trim 1;trim 2;", 9).due("lost()", 0, "message(0,3)", 0);
    }

    private static void fall() {
        new Run("20 0: there is no PRIMARY PART now").due("fall()", 0).group(TWO).work("part 1;", 1).due("fall()", 0).group(NOBODY_IN)
            .due("fall()", 0);
        new Run("20 the fewest MEMBERS: of one").group("member 1;").due("fall()", 1);
        new Run("20 the fewest MEMBERS: of two, where half is not enough").group(TWO).due("fall()", 1);
        new Run("20 the fewest MEMBERS: of six").group(SIX).due("fall()", 3).says("law", "1+(5-member)/5*9", 1).due("fall()", 1)
            .says("law", "1+member/5*2", 1).due("fall()", 2);
        new Run("20 the fewest MEMBERS: all that have WEIGHT").group(TWO).says("law", FIRST_RULES, 1).due("fall()", 1)
            .says("law", "member", 1).due("fall()", 1);
        new Run("20 (and nothing else): those out of it need not fall").group(SIX).work("part 1;", 1).due("primary()", 62, "fall()", 2)
            .work("part 3;", 1).due("primary()", 60, "fall()", 1);
        new Run("20 (WEIGHTS of the VIEW stay, who crashes is one of it still.)").group(SIX).work("crash 0;", 1).due("fall()", 2)
            .work("crash 1;", 1).due("fall()", 1).work("crash 2;", 1).due("fall()", 0).work("join 2;", 1).due("fall()", 0);
        new Run("20 (WEIGHTS of the VIEW stay): by its size").group(THREE).says("law", "size*10", 1).due("fall()", 2)
            .work("crash 2;", 1).due("fall()", 1, "member(0,5)", 30);
        new Run("20 UP and IN: who WANTS to join has no WEIGHT").group(ONE_OUTSIDE).says("law", "1+member", 1).work("join 3;", 1)
            .due("fall()", 1);
    }

    private static void splits() {
        new Run("21 sets P of MEMBERS (of all there are, also none and all): of none").due("splits()", 1);
        new Run("21 sets P of MEMBERS: of one").group("member 1;").due("splits()", 0).work("crash 0;", 1).due("splits()", 2)
            .group("member 0;").due("splits()", 2);
        new Run("21 sets P of MEMBERS: of two").group(TWO).due("splits()", 2).work("part 1;", 1).due("splits()", 2).work("crash 1;", 1)
            .due("splits()", 4);
        new Run("21 sets P of MEMBERS: of six").group(SIX).due("splits()", 20).says("law", "0", 1).due("splits()", 64)
            .says("law", "1+member/5*9", 1).due("splits()", 0);
        new Run("21 sets P of MEMBERS: also of those outside").group(TWO + "member 0;member 0;").due("splits()", 8).work("join 2;", 1)
            .due("splits()", 8);
    }

    private static void tells() {
        new Run("22 TELLS: of nobody").due("tells()", 0).group(NOBODY_IN).due("tells()", 0);
        new Run("22 TELLS: of one alone").group("member 1;").work("send 0 1;", 1).due("tells()", 0);
        new Run("22 TELLS: of all six").group(SIX).due("tells()", 0).work("send 0 1;send 1 1;send 2 1;send 3 1;send 4 1;", 5)
            .due("tells()", 5).work("send 5 1;", 1).due("tells()", 6).work("tell 0;", 1).due("tells()", 5).work("take 0;", 1)
            .due("tells()", 6).work("crash 5;", 1).due("tells()", 5).work("part 1;", 1).due("tells()", 4);
        for (int deaf = 0; deaf < 3; deaf++) {
            int teller = (deaf + 1) % 3;
            three("22 TELLS: " + deaf + " alone does not KNOW it")
                .work("part " + (1 << deaf) + ";send " + teller + " 1;tell " + teller + ";", 3).due("tells()", 0).work("part 0;", 1)
                .due("tells()", 1).work("tell " + teller + ";", 1).due("tells()", 0);
        }
        three("22 everybody who is UP and IN, and whom it reaches").work("send 0 1;part 1;", 2).due("tells()", 0).work("part 4;", 1)
            .due("tells()", 1).work("tell 0;", 1).due("tells()", 0).work("part 0;", 1).due("tells()", 1).work("crash 2;", 1)
            .due("tells()", 0);
    }

    private static void nextAndHeld() {
        new Run("23 NONE: that would be REFUSED").group(ONE_OUTSIDE).due("next(0)", -1, "next(3)", -1)
            .work("send 0 1;crash 2;join 2;join 3;", 4).due("next(0)", -1, "next(1)", 0, "next(2)", -1, "next(3)", -1)
            .work("part 1;", 1).due("next(1)", -1).work("part 3;", 1).due("next(1)", 0).work("take 1;", 1).due("next(1)", -1);
        three("23 the number of the MESSAGE: the last of 30").work("again 30 [send 0 1;];again 29 [take 1;lose 2;];", 88)
            .due("next(1)", 29, "next(2)", 29);
        three("24 NONE: there are not so many").due("held(0,0)", -1, "held(0,2147483647)", -1)
            .work("hold;again 7 [send 0 0;];send 0 999;", 9)
            .due("held(0,6)", 0, "held(0,7)", 999, "held(0,8)", -1, "held(0,2147483647)", -1, "held(1,0)", -1);
        three("24 IllegalArgumentException: i below 0").due("held(0,-1)", IAE, "held(0,-2147483648)", IAE, "status(1)", 2);
    }

    private static void agree() {
        new Run("25 (true without a PRIMARY PART)").due("agree()", true).group(TWO).work("send 0 1;part 1;", 2).due("agree()", true);
        three("25 all SURVIVORS would have one SUM behind a FLUSH now").work("send 0 1;send 1 2;send 2 3;take 0;lose 1;tell 2;", 6)
            .changesNothing("agree()", true);
        three("25 a SUM apart of one that is no SURVIVOR").work("send 2 3;part 4;", 2).due("agree()", true).work("part 0;crash 2;", 2)
            .due("agree()", true);
    }

    private static void fits() {
        new Run("26 FITS: of no MEMBERS").due("fits(0)", 1, "fits(1)", 0);
        new Run("26 FITS: sets P of MEMBERS (likewise)").group(SIX).due("fits(0)", 64, "fits(1)", 0).says("book", "0 1;", 1)
            .due("fits(0)", 32, "fits(1)", 0).says("book", "0 0;1 0;2 0;3 0;4 0;5 0;", 6).due("fits(0)", 20, "fits(1)", 7)
            .says("book", "0 1;1 1;2 1;3 1;4 1;5 1;", 6).due("fits(0)", 2, "fits(1)", 0);
        three("26 1 the first (NONE)").says("book", "0 0;1 0;", 2).due("fits(0)", 0, "fits(1)", -1);
        new Run("26 (without one nobody would be in the next VIEW)").group(TWO).says("book", "0 0;", 1).due("fits(0)", 2, "fits(1)", 1)
            .says("book", "0 0;1 1;", 2).due("fits(0)", 0, "fits(1)", -1).work("crash 0;", 1).says("book", "0 0;1 0;", 2)
            .due("fits(0)", 4, "fits(1)", 0);
        new Run("26 were the net parted so now: of who WANTS to join").group(ONE_OUTSIDE).says("book", "3 1;", 1).due("fits(0)", 0)
            .work("join 3;part 8;", 2).due("fits(0)", 8, "fits(1)", 0).says("book", "3 0;", 1).due("fits(0)", 8, "fits(1)", 3);
    }

    private static void look() {
        new Run("27 NONE both: all are in lines, or there are none").due("look(0)", -1, "look(1)", -1).group(TWO)
            .says("book", "0 1;1 1;", 2).due("look(0)", -1, "look(1)", -1).says("book", "0 0;1 1;", 2)
            .due("fits(0)", 0, "look(0)", -1, "look(1)", -1);
        three("27 (0, if nothing FITS)").says("book", "0 0;1 0;", 2).due("fits(0)", 0, "look(0)", 2, "look(1)", 0).group(ONE_OUTSIDE)
            .says("book", "3 1;", 1).due("look(0)", 0, "look(1)", 0);
        three("27 of these the first").due("look(0)", 0, "look(1)", 6).says("book", "0 1;", 1).due("look(0)", 1, "look(1)", 4);
        // Of the eight sets by which 3 would come, 0, 1 and 2 each would by six; of 2's lines the last one alone is open.
        new Run("27 fewest of FITS are left at the worst").group(ONE_OUTSIDE).work("join 3;", 1).due("look(0)", 3, "look(1)", 8)
            .says("book", "3 1;", 1).due("fits(0)", 8, "look(0)", 0, "look(1)", 6).says("book", "3 1;0 0;", 2)
            .due("fits(0)", 2, "look(0)", 1, "look(1)", 2);
        new Run("27 at the worst: whether it would be or not").group(TWO + "member 0;").work("crash 0;", 1)
            .due("fits(0)", 8, "look(0)", 0, "look(1)", 8).says("law", "member", 1).due("look(0)", 0, "look(1)", 8).work("join 0;", 1)
            .due("look(0)", 0, "look(1)", 4);
    }

    private static void note() {
        new Run("28 NOTE: of nobody").note("v1:;0").group(NOBODY_IN).note("v1:;0").due("note()", 5);
        new Run("28 NOTE: one alone").group("member 0;member 1;").note("v1:1;0");
        new Run("28 \",\" between them, \"!\" behind each that is BLOCKED, \"?\" behind each that is not UP").group(SIX)
            .work("crash 0;crash 3;hold;join 3;", 4).note("v1:0?,1!,2!,3,4!,5!;0").due("note()", 21);
        new Run("28 NOTE: who is outside is not there").group(ONE_OUTSIDE).work("join 3;hold;", 2).note("v1:0!,1!,2!;0")
            .work("crash 3;", 1).note("v1:0!,1!,2!;0");
        new Run("28 how many MESSAGES there are: 9, 10, 30").group("member 1;").work("again 9 [send 0 1;];", 9).note("v1:0;9")
            .work("send 0 1;", 1).note("v1:0;10").work("again 20 [send 0 1;];", 20).note("v1:0;30");
        Run views = new Run("28 its number: 9, 10, 99, 100").group(TWO).says("law", FIRST_RULES, 1)
            .work("again 8 [" + NEW_VIEW + "];", 32).note("v9:0,1;0").work(NEW_VIEW, 4).note("v10:0,1;0").due("note()", 9);
        views.work("again 45 [" + NEW_VIEW + "];", 180).work("again 44 [" + NEW_VIEW + "];", 176).note("v99:0,1;0").work(NEW_VIEW, 4)
            .note("v100:0,1;0").due("note()", 10, "member(0,1)", 100, "member(1,1)", 100);
    }

    private static void spelt() {
        three("29 NONE: there are not so many").due("note()", 10, "spelt(0)", 118, "spelt(9)", 48, "spelt(10)", -1, "spelt(11)", -1,
                "spelt(64)", -1, "spelt(2147483647)", -1, "status(1)", 0);
        three("29 of NOTE as it is now").due("spelt(0)", 118, "spelt(3)", 48).work("hold;", 1).due("spelt(4)", 33).work("crash 0;", 1)
            .due("spelt(4)", 63).due("undo()", 1, "spelt(4)", 33);
        three("29 IllegalArgumentException: i below 0").due("spelt(-1)", IAE, "spelt(-2147483648)", IAE, "status(1)", 2);
    }

    private static void behind() {
        new Run("31 NONE both: nobody is IN").due("behind(0)", -1, "behind(1)", -1).group(NOBODY_IN)
            .due("behind(0)", -1, "behind(1)", -1).work("join 0;", 1).due("behind(0)", -1, "behind(1)", -1).group(TWO)
            .work("crash 0;crash 1;", 2).due("behind(0)", -1, "behind(1)", -1);
        three("31 of alike ones the first").due("behind(0)", 0, "behind(1)", 0).work("send 0 1;", 1).due("behind(0)", 1, "behind(1)", 0)
            .work("take 1;", 1).due("behind(0)", 2, "behind(1)", 0).work("take 2;", 1).due("behind(0)", 0, "behind(1)", 1);
        new Run("31 The MEMBER IN the VIEW").group("member 0;" + THREE).due("behind(0)", 1).work("send 1 1;crash 2;join 2;", 3)
            .due("behind(0)", 3, "behind(1)", 0);
        new Run("31 how many: 30").group("member 1;").work("again 30 [send 0 1;];", 30).due("behind(0)", 0, "behind(1)", 30);
    }

    private static void storm() {
        three("32 A STORM of so many times (1 to 96)").due("storm(500,0,8,0)", IAE, "storm(500,-1,8,0)", IAE, "storm(500,97,8,0)", IAE,
                "storm(500,2147483647,8,0)", IAE, "storm(500,-2147483648,8,0)", IAE, "status(1)", 5, "storm(500,95,8,0)", 3,
                "storm(500,96,8,0)", 4, "storm(500,96,8,1)", 5, "storm(500,96,8,2)", 6, "storm(500,96,8,3)", 1, "storm(500,1,8,0)", 1,
                "status(1)", 5);
        three("32 Q (0 to 16)").due("storm(1,1,-1,0)", IAE, "storm(1,1,17,0)", IAE, "storm(1,1,2147483647,0)", IAE,
                "storm(1,1,-2147483648,0)", IAE, "status(1)", 4, "storm(1,1,0,0)", 1, "storm(1,1,16,0)", 1, "status(1)", 4);
        three("32 3 1 .. (or there is no PRIMARY PART)").due("storm(44,1,16,3)", 1).work("send 0 1;part 4;crash 1;", 3)
            .due("primary()", -1, "storm(1,1,0,3)", 1, "storm(1,96,16,3)", 1);
        new Run("A STORM: are there MEMBERS").due("storm(1,96,16,0)", 1, "storm(1,96,16,1)", 0, "storm(1,96,16,2)", 0,
                "storm(1,96,16,3)", 1);
        // crash 2, take 1, tell 0, send 0 43, which is HELD, and a VIEW, in which both that are HELD are sent.
        // By -1 are drawn 15929, 4409 (1 by 8), 9862.
        new Run("A STORM: of one MEMBER").group("member 1;")
            .due("storm(-1,1,0,2)", 1, "storm(-1,1,0,1)", 1, "span(-1,1,1,0,2,0)", 1, "span(44,1,1,1,2,0)", 0);
        three("Asked, nothing stays changed: storm, span").work("send 0 1;hold;send 0 2;part 4;", 4)
            .changesNothing("storm(1,8,2,0)", 2, "storm(1,8,2,1)", 3, "storm(1,8,2,2)", 2, "storm(1,7,2,2)", 1, "span(1,1,8,2,1,0)", 2,
                "span(1,1,8,2,2,2)", 0, "told(10)", 0);
    }

    /**
     * By SEED 1 are drawn 16838, 5758, 10113, 17515, 31051, 5627, 23010, 7419, 16212, 4086, 2749, 12767, 9084, 12060, 32225,
     * 17543, 25089, 21183.
     */
    private static void drawn() {
        three("is DRAWN by 16 below Q: crash M, else join M: 1")
            .due("span(1,1,1,1,2,2)", 1, "span(1,1,1,2,2,2)", 0, "span(1,1,1,2,2,0)", 1);
        // By 44 are drawn 19989, 18382, 15520 (0 by 16), by 87 23140, 31006, 20927 (15 by 16).
        three("is DRAWN by 16 below Q: 0").due("span(44,1,1,0,2,0)", 1, "span(44,1,1,1,2,0)", 0);
        three("is DRAWN by 16 below Q: 15").due("span(87,1,1,15,2,1)", 1, "span(87,1,1,16,2,1)", 0);
        three("else join M").work("crash 2;", 1).due("storm(1,1,1,1)", 7).work("crash 1;", 1).due("storm(1,8,2,0)", 1);
        // crash or join 2, take 1, take 2, lose 0, tell 0, lose 2, send 0 43, then hold and view.
        three("0, 1: send M of DRAWN by 100").due("storm(1,6,2,2)", 0, "storm(1,7,2,2)", 1, "storm(1,7,2,0)", 1);
        three("7: hold, then view (each, if it can be done)")
            .due("storm(1,8,2,0)", 2, "storm(1,8,2,1)", 3, "storm(1,8,2,2)", 0, "storm(1,8,1,0)", 1, "storm(1,8,1,1)", 7,
                "storm(1,8,1,2)", 1, "span(1,1,8,2,2,2)", 0, "span(1,1,8,2,2,1)", 1);
        // By -1: send 2, send 0, hold, crash or join 1 (13 by 16), take 1, tell 1, hold and view.
        three("the SEED (32 bits) becomes itself times 1,103,515,245, and 12,345 (it wraps)")
            .due("storm(-1,1,14,2)", 1, "storm(-1,2,14,2)", 2, "storm(-1,6,14,0)", 1, "storm(-1,7,14,0)", 2, "storm(-1,7,14,1)", 5,
                "storm(-1,7,14,2)", 0, "storm(-1,7,13,0)", 1, "storm(-1,7,13,2)", 2);
        three("its bits 16 to 30").due("storm(2147483647,1,14,2)", 1, "storm(2147483647,7,14,1)", 5, "storm(-2147483648,1,14,2)", 0,
                "storm(0,1,14,2)", 0, "storm(-2147483648,7,14,0)", 1);
    }

    private static void span() {
        three("33 Of so many SEEDS (1 to 10; seed, seed and 1, ..)")
            .due("span(14,0,96,8,1,0)", IAE, "span(14,11,96,8,1,0)", IAE, "span(14,-1,96,8,1,0)", IAE,
                "span(14,2147483647,96,8,1,0)", IAE, "span(14,-2147483648,96,8,1,0)", IAE, "status(1)", 5, "span(14,1,96,8,1,0)", 3,
                "span(14,9,96,8,1,0)", 3, "span(14,10,96,8,1,0)", 4, "status(1)", 5);
        three("33 so many times (1 to 96), Q (0 to 16)")
            .due("span(1,1,0,8,0,0)", IAE, "span(1,1,97,8,0,0)", IAE, "span(1,1,1,-1,0,0)", IAE, "span(1,1,1,17,0,0)", IAE,
                "status(1)", 4, "span(500,1,96,8,0,0)", 4, "span(500,1,95,8,0,0)", 3, "span(1,1,1,0,0,0)", 1, "span(1,1,1,16,0,0)", 1);
        three("33 0 the least number of the VIEW then, 1 the greatest")
            .due("span(6,1,96,8,0,0)", 3, "span(6,4,96,8,0,0)", 2, "span(6,5,96,8,0,0)", 1, "span(6,5,96,8,1,0)", 3);
        three("33 seed, seed and 1: it wraps").due("span(2147483647,1,7,14,0,0)", 2, "span(2147483647,2,7,14,0,0)", 1,
                "span(2147483647,2,7,14,1,0)", 2, "span(2147483647,1,7,14,2,1)", 0, "span(2147483647,2,7,14,2,1)", 1,
                "span(2147483647,2,7,14,2,0)", 2, "span(-1,2,7,14,2,1)", 1);
        new Run("33 2 by how many a MEMBER is IN then").group("member 0;member 1;")
            .due("span(7,10,1,0,2,0)", 0, "span(7,10,1,0,2,1)", 10).work("crash 1;", 1).due("span(7,10,1,0,2,1)", 0);
        three("33 (NoSuchElementException: also for 0, 1.)")
            .due("span(1,1,1,0,0,3)", NSE, "span(1,1,1,0,1,-1)", NSE, "span(1,1,1,0,2,3)", NSE, "span(1,11,97,17,3,3)", NSE,
                "status(0)", 4, "status(1)", 0);
    }

    private static void image() {
        three("34 -1: there are 3").due("image()", 1, "image()", 2, "image()", 3, "image()", -1, "count(0)", 3, "image()", -1,
                "restore()", 2, "image()", 3, "image()", -1);
        three("34 -1: there are 3: they stay").work("part 1;", 1).due("image()", 1).work("part 2;", 1).due("image()", 2)
            .work("part 3;", 1).due("image()", 3).work("part 4;", 1)
            .due("image()", -1, "restore()", 2, "told(6)", 3, "restore()", 1, "told(6)", 2, "restore()", 0, "told(6)", 1,
                "count(2)", 1);
        Run full = three("34 and of WORKS that can be undone: 16");
        for (int i = 1; i <= 16; i++) {
            full.work("part " + i + ";", 1);
        }
        full.due("image()", 1);
        for (int i = 15; i >= 0; i--) {
            full.due("undo()", i);
        }
        full.work("part 63;", 1).due("restore()", 0, "count(2)", 16, "told(6)", 16, "work(0)", -20);
        for (int i = 15; i >= 0; i--) {
            full.due("undo()", i, "told(6)", i);
        }
    }

    private static void restore() {
        three("35 -1: there is none").work("part 1;join 0;", 1, 1).changesNothing("restore()", -1)
            .due("told(10)", 1, "image()", 1, "restore()", 0).changesNothing("restore()", -1);
        three("35 All that is as in the latest IMAGE, which is gone").work("part 1;", 1).due("image()", 1).work("part 2;", 1)
            .due("image()", 2, "undo()", 1, "undo()", 0, "restore()", 1, "told(6)", 2, "count(2)", 2, "undo()", 1, "told(6)", 1,
                "restore()", 0, "told(6)", 1, "count(2)", 1, "undo()", 0, "told(6)", 0, "restore()", -1);
        new Run("35 All that is as in the latest IMAGE").group(ONE_OUTSIDE).work("send 0 1;take 1;tell 1;send 1 4;hold;send 0 2;", 6)
            .due("image()", 1).work("crash 2;join 3;part 1;part 0;view;", 5).due("told(1)", 2)
            .due("restore()", 0, "told(1)", 1, "told(2)", 7, "told(3)", 15, "told(4)", 7, "told(5)", 0, "told(6)", 0, "told(7)", 2,
                "told(8)", 3, "member(0,1)", 1, "held(0,0)", 2, "tally(1)", 12, "log(1,1)", 12, "log(3,0)", NPE, "knows(0,1)", 1,
                "message(1,1)", 4, "count(2)", 1);
        three("35 no LAW, BOOK, TAPE, FAULT").due("image()", 1).says("law", "7", 1).says("book", "0 1;", 1).fails("book", "x", -9, 0)
            .feed("member").due("restore()", 0, "member(0,5)", 7, "told(9)", 1, "fault()", 0, "count(1)", 20);
        three("35 WORKS of an IMAGE are its own").work("part 1;", 1).work("part 2;", 1).due("image()", 1, "undo()", 1, "undo()", 0)
            .work("part 9;", 1).work("part 10;", 1).work("part 11;", 1)
            .due("restore()", 0, "told(6)", 2, "undo()", 1, "told(6)", 1, "undo()", 0, "told(6)", 0);
    }

    private static void status() {
        new Run("36 NONE for others").due("status(-1)", -1, "status(4)", -1, "status(2147483647)", -1, "status(-2147483648)", -1,
                "status(0)", 0, "status(1)", 0, "status(2)", 0, "status(3)", 0);
        three("36 How many calls were refused").due("tally(9)", NSE, "told(12)", IAE, "told(12)", IAE, "message(0,0)", NPE,
                "message(1,0)", NPE, "message(2,0)", NPE, "log(0,0)", IOB, "log(0,0)", IOB, "log(0,0)", IOB, "log(0,0)", IOB,
                "status(0)", 1, "status(1)", 2, "status(2)", 3, "status(3)", 4);
        three("36 what answers by a number is not refused")
            .due("undo()", -1, "restore()", -1, "status(9)", -1, "count(9)", -1, "held(0,9)", -1, "spelt(99)", -1)
            .fails("law", "x", -9, 0).work("join 0;", 0, 1).due("status(0)", 0, "status(1)", 0, "status(2)", 0, "status(3)", 0);
        three("36 (No IMAGE keeps it.)").due("tally(9)", NSE, "image()", 1, "told(12)", IAE, "message(0,0)", NPE, "log(0,0)", IOB,
                "restore()", 0, "status(0)", 1, "status(1)", 1, "status(2)", 1, "status(3)", 1).work("", 0)
            .due("tally(9)", NSE, "undo()", 0, "status(0)", 2).group(THREE).due("status(0)", 2, "status(1)", 1);
    }

    private static void count() {
        new Run("37 NONE for others").due("count(-1)", -1, "count(3)", -1, "count(2147483647)", -1, "count(-2147483648)", -1,
                "status(1)", 0);
        three("37 0 IMAGES, 1 bytes of the TAPE, 2 WORKS that can be undone")
            .due("count(0)", 0, "count(1)", 0, "count(2)", 0, "image()", 1, "count(0)", 1, "feed(0,0,0,0,0)", 20, "count(1)", 20,
                "work(0)", 0, "count(1)", 0, "count(2)", 1, "undo()", 0, "count(2)", 0, "work(0)", 0, "restore()", 0, "count(0)", 0,
                "count(2)", 0);
    }
}
