/**
 * The first VIEW, the STEPS and the PRIMARY PART (part 2 of the document's Terms): each sentence that names a boundary
 * case has a run of its own, which bears the sentence's words.
 */
public final class BoundsOfStepsTest {
    private static final String TWO = "member 1;member 1;";
    private static final String THREE = "member 1;" + TWO;
    private static final String FOUR = THREE + "member 1;";
    private static final String SIX = THREE + THREE;
    private static final String ONE_OUTSIDE = THREE + "member 0;";

    private BoundsOfStepsTest() { }

    public static void main(String[] args) {
        firstView();
        reaching();
        delivering();
        mostSteps();
        send();
        sendHeld();
        take();
        lose();
        tell();
        trim();
        crash();
        join();
        part();
        hold();
        viewRefused();
        viewFlush();
        viewMembers();
        viewLeavesNothing();
        viewSendsHeld();
        primaryPart();
        Run.end("BoundsOfStepsTest");
    }

    private static Run three(String name) {
        return new Run(name).group(THREE);
    }

    private static void firstView() {
        new Run("The first VIEW has number 1").due("told(1)", 1).group(THREE).due("told(1)", 1).work("crash 2;hold;view;", 3)
            .due("told(1)", 2).group(THREE).due("told(1)", 1);
        new Run("who is told to be in it is IN it, of age 1").group("member 0;member 1;")
            .due("told(2)", 2, "member(0,0)", 0, "member(0,1)", 0, "member(1,0)", 1, "member(1,1)", 1);
        new Run("all MEMBERS are UP at first").group("member 0;member 1;").due("told(3)", 3).group("member 0;member 0;member 0;")
            .due("told(3)", 7, "told(2)", 0).work("crash 0;", 1).due("told(3)", 6).group("member 0;").due("told(3)", 1);
        three("nobody is BLOCKED or WANTS to join").due("told(4)", 0, "told(5)", 0).work("hold;crash 2;join 2;", 3)
            .due("told(4)", 3, "told(5)", 4).group(THREE).due("told(4)", 0, "told(5)", 0);
        three("the net is not parted (P is 0)").due("told(6)", 0).work("part 63;", 1).group(THREE).due("told(6)", 0);
        three("there are no MESSAGES, HELD sends; SUMS are 0")
            .due("told(7)", 0, "told(8)", 0, "member(0,4)", 0, "tally(0)", 0, "member(0,6)", 0)
            .work("send 0 1;take 1;tell 0;hold;send 1 1;", 5).due("told(7)", 1, "told(8)", 1, "member(1,4)", 1, "tally(1)", 2)
            .group(THREE).due("told(7)", 0, "told(8)", 0, "member(1,4)", 0, "tally(1)", 0, "member(1,2)", 0, "member(1,3)", 0,
                "member(1,6)", 0, "knows(0,0)", 0, "knows(1,0)", 0);
    }

    private static void reaching() {
        new Run("those in P reach each other, those not in P likewise; nobody reaches the other ones").group(FOUR)
            .work("send 0 1;send 3 1;part 3;", 3).due("next(1)", 0, "next(2)", 1, "next(0)", -1, "next(3)", -1)
            .work("take 1;take 1;take 2;take 2;take 0;take 3;", 2, 4).work("part 9;", 1)
            .due("next(0)", 1, "next(3)", 0, "next(1)", -1, "next(2)", -1);
        new Run("(P 0, or all: all reach each other): 0").group(FOUR).work("part 3;part 0;send 0 1;take 1;take 2;take 3;", 6)
            .due("primary()", 15);
        new Run("(P 0, or all: all reach each other): all").group(FOUR).work("part 15;send 0 1;take 1;take 2;take 3;", 5)
            .due("primary()", 15);
        new Run("(P 0, or all: all reach each other): all, and more").group(FOUR).work("part 63;send 0 1;take 1;take 2;take 3;", 5)
            .due("primary()", 15).work("part 48;send 3 1;take 0;take 1;take 2;", 5).due("primary()", 15);
    }

    private static void delivering() {
        three("MESSAGES are of the VIEW, numbered from 0 on, as they are sent").work("send 2 5;send 0 6;send 2 7;", 3)
            .due("message(0,0)", 2, "message(0,1)", 5, "message(1,0)", 0, "message(1,1)", 6, "message(2,0)", 2, "message(2,1)", 7)
            .work("crash 2;hold;view;send 1 8;", 4).due("message(0,0)", 1, "message(0,1)", 8, "told(7)", 1);
        new Run("its SUM is more by (value and 1) times (number of the sender and 1)").group(SIX).work("send 0 0;", 1)
            .due("tally(0)", 1).work("send 5 999;", 1).due("tally(5)", 6000).work("take 0;", 1).due("tally(0)", 6001)
            .work("send 0 999;", 1).due("tally(0)", 7001).work("send 5 0;", 1).due("tally(5)", 6006, "tally(1)", 0);
        three("its LOG has that SUM as one entry more").due("member(0,6)", 0).work("send 0 4;", 1).due("member(0,6)", 1, "log(0,0)", 5)
            .work("send 1 0;take 0;", 2).due("member(0,6)", 2, "log(0,0)", 5, "log(0,1)", 7, "member(1,6)", 1, "log(1,0)", 2);
        three("it has GOT it, KEEPS it, KNOWS that it has it itself").work("send 0 4;take 1;", 2)
            .due("message(0,2)", 3, "message(0,3)", 3, "knows(0,0)", 1, "knows(1,1)", 1, "knows(0,1)", 0, "knows(1,0)", 0,
                "knows(2,2)", 0);
    }

    private static void mostSteps() {
        three("200 STEPS at most are begun by one WORK").work("again 60 [tell 0;tell 0;tell 0;];again 17 [tell 0;];part 5;part 6;", 198)
            .due("told(6)", 5);
        three("200 STEPS at most: in the midst of a loop").work("again 60 [tell 0;tell 0;part 1;part 0;];", 199).due("told(6)", 1);
        three("200 STEPS at most: each WORK anew").work("again 60 [part 1;part 2;tell 0;tell 0;];", 199).work("part 3;", 1)
            .due("told(6)", 3);
        three("an again, too, each time it is come to")
            .work("again 60 [again 0 [];again 0 [];again 0 [];];again 17 [hold;];part 5;part 6;", 2, 16).due("told(6)", 5);
        three("an again, too: the last one that is begun")
            .work("again 60 [tell 0;tell 0;tell 0;];again 17 [tell 0;];again 1 [part 5;];part 6;", 197).due("told(6)", 0);
        three("REFUSED ones, too").work("again 60 [join 0;join 0;join 0;];again 17 [join 0;];part 5;part 6;", 1, 197).due("told(6)", 5);
        // One again, one again and 120 STEPS, one again and 77 STEPS.
        three("what would come behind is left out").work("again 60 [again 60 [part 5;part 6;];];", 197).due("told(6)", 5)
            .work("again 60 [join 0;join 0;join 0;join 0;];part 1;", 0, 199).due("told(6)", 5);
    }

    private static void send() {
        new Run("send (REFUSED, if M is not UP and IN)").group(ONE_OUTSIDE).work("send 0 1;crash 2;", 2).refuses("send 2 1;")
            .refuses("send 3 1;");
        new Run("send (REFUSED, if M is not UP and IN): who WANTS to be").group(ONE_OUTSIDE).work("crash 2;join 2;join 3;", 3)
            .refuses("send 2 1;").refuses("send 3 1;");
        three("send (REFUSED, if M is not UP and IN): who was left behind").work("part 1;hold;view;", 3).due("told(3)", 7)
            .refuses("send 0 1;");
        new Run("send (REFUSED, if M is not UP and IN): nobody is").group("member 0;").refuses("send 0 1;");
        new Run("send (REFUSED, if there are as many as N of limit): 1").group(TWO + "limit 1;").work("send 1 7;", 1)
            .refuses("send 1 8;").refuses("send 0 8;").work("take 0;", 1).refuses("send 0 9;");
        new Run("send (REFUSED, if there are as many as N of limit): 30").group("member 1;limit 30;").work("again 29 [send 0 7;];", 29)
            .work("send 0 8;", 1).due("told(7)", 30).refuses("send 0 9;").due("message(29,1)", 8, "tally(0)", 29 * 8 + 9);
        new Run("send (REFUSED, if there are as many as N of limit): 30 without").group("member 1;")
            .work("again 31 [send 0 7;];", 30, 1).due("told(7)", 30);
        new Run("it is ON THE WAY to each other MEMBER that is UP and IN").group(THREE + "member 0;member 1;member 0;")
            .work("crash 2;join 2;join 5;part 1;send 1 7;", 5).due("message(0,4)", 17, "told(8)", 2).work("send 0 7;", 1)
            .due("message(1,4)", 18, "told(8)", 4);
        new Run("it is ON THE WAY to each other MEMBER: there is none").group("member 1;").work("send 0 7;", 1)
            .due("message(0,4)", 0, "told(8)", 0);
    }

    private static void sendHeld() {
        three("V is HELD behind what is HELD of it").work("hold;send 1 0;send 1 999;send 0 5;", 4)
            .due("held(1,0)", 0, "held(1,1)", 999, "held(0,0)", 5, "told(7)", 0, "tally(1)", 0);
        three("(REFUSED, if 8 are)").work("hold;again 7 [send 1 3;];", 8).work("send 1 4;", 1)
            .due("member(1,4)", 8, "held(1,7)", 4, "held(1,6)", 3).refuses("send 1 5;").work("again 8 [send 2 6;];", 8)
            .due("member(2,4)", 8, "held(2,7)", 6, "held(1,7)", 4);
        new Run("is M BLOCKED, V is HELD: also with as many MESSAGES as N of limit").group(TWO + "limit 1;")
            .work("send 0 1;hold;send 0 2;send 1 3;", 4).due("told(7)", 1, "held(0,0)", 2, "held(1,0)", 3);
        three("is M BLOCKED: another one is not").work("part 4;hold;send 2 5;send 0 6;", 4)
            .due("told(7)", 1, "message(0,0)", 2, "message(0,4)", 3, "held(0,0)", 6);
    }

    private static void take() {
        three("take (REFUSED, if there is none)").refuses("take 0;").work("send 0 1;", 1).refuses("take 0;").work("take 1;", 1)
            .refuses("take 1;");
        new Run("take (REFUSED, if M is not UP and IN)").group(ONE_OUTSIDE).work("send 0 1;crash 1;", 2).refuses("take 1;")
            .refuses("take 3;").work("join 1;", 1).refuses("take 1;");
        new Run("take: of senders that it reaches, the least number").group(FOUR).work("send 0 1;send 3 2;send 3 3;part 12;", 4)
            .due("next(2)", 1).work("take 2;", 1).due("tally(2)", 12, "message(1,4)", 3, "message(0,4)", 14).work("take 2;", 1)
            .refuses("take 2;").work("part 8;", 1).due("next(2)", 0).work("take 2;", 1).due("tally(2)", 30);
        three("take: of senders that it reaches (by P alone, UP or not)").work("send 0 1;crash 0;take 1;", 3).due("tally(1)", 2)
            .work("part 1;", 1).refuses("take 2;").work("part 5;take 2;", 2).due("tally(2)", 2);
        three("M DELIVERS it; it is not ON THE WAY to M any more").work("send 0 1;take 1;", 2)
            .due("message(0,2)", 3, "message(0,3)", 3, "message(0,4)", 4, "told(8)", 1, "knows(1,1)", 1, "log(1,0)", 2);
        three("take: BLOCKED ones, too").work("send 0 1;hold;take 1;take 2;", 4).due("tally(1)", 2, "tally(2)", 2);
    }

    private static void lose() {
        three("lose: likewise (REFUSED, if there is none)").refuses("lose 0;").work("send 0 1;", 1).refuses("lose 0;")
            .work("lose 1;", 1).refuses("lose 1;").refuses("take 1;");
        new Run("lose: likewise (REFUSED, if M is not UP and IN)").group(ONE_OUTSIDE).work("send 0 1;crash 1;", 2).refuses("lose 1;")
            .refuses("lose 3;").work("join 1;", 1).refuses("lose 1;");
        three("lose: of whatever sender").work("send 0 1;send 2 2;part 1;", 3).due("next(1)", 1).work("lose 1;", 1)
            .due("message(0,4)", 4, "message(1,4)", 3).work("take 1;", 1).due("tally(1)", 9).work("send 0 3;crash 0;lose 1;", 3)
            .due("message(2,4)", 4);
        three("lose: it is only not ON THE WAY any more").work("send 0 1;lose 1;", 2)
            .due("message(0,2)", 1, "message(0,3)", 1, "message(0,4)", 4, "told(8)", 1, "tally(1)", 0, "member(1,6)", 0,
                "knows(1,1)", 0);
    }

    private static void tell() {
        new Run("tell (REFUSED, if M is not UP and IN)").group(ONE_OUTSIDE).work("send 0 1;crash 2;", 2).refuses("tell 2;")
            .refuses("tell 3;");
        new Run("tell (REFUSED, if M is not UP and IN): who WANTS to be").group(ONE_OUTSIDE).work("crash 2;join 2;join 3;", 3)
            .refuses("tell 2;").refuses("tell 3;");
        three("tell: also of nothing, and of what is known").work("tell 0;tell 0;send 0 1;tell 0;tell 0;", 5)
            .due("knows(1,0)", 1, "knows(2,0)", 1, "knows(0,0)", 1);
        new Run("tell: each MEMBER that is UP, IN and that M reaches").group(FOUR + "member 0;")
            .work("send 0 1;crash 3;join 4;part 4;tell 0;", 5)
            .due("knows(1,0)", 1, "knows(2,0)", 0, "knows(3,0)", 0, "knows(4,0)", 0, "knows(0,0)", 1, "knows(0,1)", 0);
        three("tell: that M has GOT what it has GOT").work("send 0 1;take 1;send 1 1;tell 1;send 1 2;", 5)
            .due("knows(0,1)", 3, "knows(2,1)", 3, "knows(1,1)", 7, "knows(0,0)", 1, "knows(2,0)", 0);
        three("tell: nobody is reached but M").work("send 0 1;part 1;tell 0;", 3)
            .due("knows(1,0)", 0, "knows(2,0)", 0, "knows(0,0)", 1);
    }

    private static void trim() {
        three("trim (REFUSED, if it changes nothing)").refuses("trim 0;").work("send 0 1;take 1;take 2;tell 1;tell 2;", 5)
            .refuses("trim 1;").work("trim 0;", 1).refuses("trim 0;");
        new Run("trim (REFUSED, if it changes nothing): M is not UP and IN").group(ONE_OUTSIDE).work("send 0 1;crash 2;", 2)
            .refuses("trim 2;").refuses("trim 3;");
        three("does not KEEP any more what is STABLE by it").work("send 0 1;take 1;take 2;send 0 2;tell 1;tell 2;trim 0;", 7)
            .due("member(0,2)", 2, "member(0,3)", 1, "message(0,3)", 6, "message(0,2)", 7, "message(1,3)", 1, "stable(0)", 1,
                "tally(0)", 5);
        three("of which it KNOWS that each MEMBER of the VIEW, UP or not, has GOT it: it has not")
            .work("crash 2;send 0 1;take 1;tell 0;tell 1;", 5).due("stable(0)", 0).refuses("trim 0;");
        three("of which it KNOWS that each MEMBER of the VIEW, UP or not, has GOT it: it had")
            .work("send 0 1;take 1;take 2;tell 1;tell 2;crash 2;", 6).due("stable(0)", 1).work("trim 0;", 1).due("message(0,3)", 2);
        new Run("each MEMBER of the VIEW: not one outside").group(ONE_OUTSIDE).work("send 0 1;take 1;take 2;tell 1;tell 2;trim 0;", 6)
            .due("stable(0)", 1);
        new Run("each MEMBER of the VIEW: there is one alone").group("member 1;").work("send 0 1;", 1).due("stable(0)", 1)
            .work("trim 0;", 1).due("member(0,3)", 0, "member(0,2)", 1).refuses("trim 0;");
        new Run("each MEMBER of the VIEW: 30 MESSAGES").group("member 1;").work("again 30 [send 0 0;];", 30)
            .due("stable(0)", 1073741823).work("trim 0;", 1).due("member(0,3)", 0, "member(0,2)", 30);
    }

    private static void crash() {
        new Run("crash (REFUSED, if it is not UP)").group(ONE_OUTSIDE).work("crash 0;crash 3;", 2).due("told(3)", 6).refuses("crash 0;")
            .refuses("crash 3;");
        three("crash: M is not UP, not IN any more (but still one of the VIEW)").work("crash 1;", 1)
            .due("told(3)", 5, "member(1,0)", 0, "told(2)", 7, "member(1,1)", 1, "told(0)", 3).note("v1:0,1?,2;0");
        new Run("crash: not BLOCKED, WANTS nothing, has nothing HELD").group(ONE_OUTSIDE)
            .work("hold;send 1 5;send 1 6;join 3;crash 1;crash 3;", 6)
            .due("told(4)", 5, "told(5)", 0, "member(1,4)", 0, "held(1,0)", -1, "told(3)", 5);
        three("crash: it has GOT, KEEPS, KNOWS nothing").work("send 0 1;take 1;tell 0;send 1 2;crash 1;", 5)
            .due("member(1,2)", 0, "member(1,3)", 0, "knows(1,0)", 0, "knows(1,1)", 0, "message(0,2)", 1, "message(0,3)", 1,
                "message(1,2)", 0, "lore(1)", 0, "tally(1)", 8, "member(1,6)", 2);
        three("crash: (what others KNOW of it stays, what it sent stays ON THE WAY to them)").work("send 1 2;tell 1;crash 1;", 3)
            .due("knows(0,1)", 1, "knows(2,1)", 1, "message(0,4)", 5, "told(8)", 2).work("take 0;", 1).due("tally(0)", 6);
        three("crash: nothing is ON THE WAY to it").work("send 0 1;send 2 2;crash 1;", 3)
            .due("message(0,4)", 4, "message(1,4)", 1, "told(8)", 2).work("join 1;", 1).due("next(1)", -1);
        three("crash: all of them").work("crash 0;crash 1;crash 2;", 3)
            .due("told(3)", 0, "told(2)", 7, "primary()", -1, "behind(0)", -1).note("v1:0?,1?,2?;0");
    }

    private static void join() {
        three("join (REFUSED, if it is UP and IN, or WANTS to)").refuses("join 0;").work("crash 0;join 0;", 2).refuses("join 0;");
        new Run("join (REFUSED, if it is UP and IN, or WANTS to): one outside").group(ONE_OUTSIDE).work("join 3;", 1)
            .due("told(5)", 8, "told(3)", 15).refuses("join 3;").work("hold;view;", 2).refuses("join 3;");
        new Run("join: M is UP, and WANTS to join").group(ONE_OUTSIDE).work("crash 3;crash 0;", 2).due("told(3)", 6)
            .work("join 3;join 0;", 2).due("told(3)", 15, "told(5)", 9, "member(0,0)", 0, "member(3,0)", 0, "told(2)", 7);
        three("join: one that was left behind").work("part 1;hold;view;join 0;", 4).due("told(5)", 1, "member(0,0)", 0)
            .refuses("join 0;");
    }

    private static void part() {
        three("part: the net is parted by P (REFUSED, if it is)").refuses("part 0;").work("part 1;", 1).refuses("part 1;")
            .work("part 0;", 1).refuses("part 0;").due("told(6)", 0);
        three("part: 63").work("part 63;", 1).due("told(6)", 63).refuses("part 63;");
        new Run("part: of no MEMBERS").refuses("part 0;").work("part 63;", 1).due("told(6)", 63).refuses("part 63;")
            .due("primary()", -1);
    }

    private static void hold() {
        new Run("hold (REFUSED, if there is none, ..)").group(TWO).work("part 1;", 1).refuses("hold;");
        three("hold (REFUSED, if .. all are)").work("hold;", 1).due("told(4)", 7).refuses("hold;");
        three("hold: one that is not BLOCKED is enough").work("part 4;hold;", 2).due("told(4)", 3).refuses("hold;")
            .work("part 0;hold;", 2).due("told(4)", 7);
        new Run("hold: the MEMBERS of the PRIMARY PART that are IN").group(ONE_OUTSIDE).work("join 3;part 4;hold;", 3)
            .due("told(4)", 3, "primary()", 11, "told(5)", 8);
        new Run("hold: nobody is IN").group("member 0;").work("join 0;", 1).refuses("hold;");
        new Run("hold: no MEMBERS").refuses("hold;").refuses("view;");
    }

    private static void viewRefused() {
        new Run("view (REFUSED, if there is no PRIMARY PART").group(TWO).work("hold;part 1;", 2).due("primary()", -1, "told(4)", 3)
            .refuses("view;");
        three("any of it that is IN is not BLOCKED").work("crash 2;", 1).refuses("view;").work("hold;view;", 2).due("told(2)", 3);
        three("any of it that is IN is not BLOCKED: one of two").work("part 4;hold;part 2;", 3).due("primary()", 5, "told(4)", 3)
            .refuses("view;").work("hold;view;", 2).due("told(2)", 5);
        new Run("any of it that is IN is not BLOCKED: of who WANTS to join it is not asked").group(ONE_OUTSIDE)
            .work("join 3;hold;view;", 3).due("told(2)", 15);
        three("or the PRIMARY PART is just the MEMBERS of the VIEW, and nobody in it WANTS to join").work("hold;", 1).refuses("view;")
            .due("told(1)", 1, "told(4)", 7);
        new Run("nobody in it WANTS to join: one out of it does").group(ONE_OUTSIDE).work("hold;join 3;part 8;", 3).refuses("view;")
            .work("part 0;view;", 2).due("told(1)", 2, "told(2)", 15);
        three("nobody in it WANTS to join: one of the VIEW does").work("crash 2;join 2;hold;", 3).due("primary()", 7, "told(2)", 7)
            .work("view;", 1).due("told(1)", 2, "told(2)", 7, "member(2,1)", 2);
        three("behind a new VIEW nobody is BLOCKED").work("crash 2;hold;view;", 3).refuses("view;").work("hold;", 1).refuses("view;");
    }

    private static void viewFlush() {
        // Of 2 a message worth 12, of 0 one worth 2, of 1 one worth 6; 0 has the first one, too.
        three("the FLUSH: each SURVIVOR DELIVERS, by number, each MESSAGE that any SURVIVOR KEEPS and that it has not GOT")
            .work("send 2 3;send 0 1;send 1 2;take 0;crash 2;", 5).due("missing(0)", 4, "missing(1)", 3).work("hold;view;", 2)
            .due("log(0,0)", 2, "log(0,1)", 14, "log(0,2)", 20, "member(0,6)", 3, "log(1,0)", 6, "log(1,1)", 18, "log(1,2)", 20,
                "member(1,6)", 3, "tally(0)", 20, "tally(1)", 20, "tally(2)", 12);
        three("the FLUSH: what nobody of it has GOT is not handed round").work("send 2 3;crash 2;hold;view;", 4)
            .due("tally(0)", 0, "tally(1)", 0, "member(0,6)", 0, "tally(2)", 12);
        three("the FLUSH: what one out of it KEEPS is not handed round").work("send 2 3;part 4;hold;view;", 4)
            .due("tally(0)", 0, "tally(1)", 0, "tally(2)", 12);
        three("the FLUSH: what was lost on the way is handed round").work("send 0 3;lose 1;lose 2;part 4;hold;view;", 6)
            .due("tally(0)", 4, "tally(1)", 4, "tally(2)", 0);
        three("the FLUSH: what one does not KEEP any more, but another one does")
            .work("send 0 3;take 1;take 2;tell 1;tell 2;trim 0;crash 2;hold;view;", 9)
            .due("tally(0)", 4, "tally(1)", 4, "member(0,6)", 1);
        new Run("the FLUSH: of 30").group(THREE).work("again 30 [send 0 0;];crash 2;hold;view;", 33)
            .due("tally(1)", 30, "member(1,6)", 30, "log(1,29)", 30);
    }

    private static void viewMembers() {
        new Run("then the VIEW is one more, of SURVIVORS and of those of the PRIMARY PART that WANT to join")
            .group(THREE + "member 0;member 0;member 0;").work("join 3;join 4;crash 2;part 16;hold;view;", 6)
            // 4 WANTS to join, but is out of reach; 5 does not WANT to.
            .due("told(1)", 2, "told(2)", 11, "told(5)", 16, "member(4,0)", 0, "member(5,0)", 0);
        new Run("these are IN, of age one more, WANT nothing").group(ONE_OUTSIDE).work("join 3;hold;view;", 3)
            .due("member(3,0)", 1, "member(3,1)", 1, "told(5)", 0, "member(0,1)", 2).work("crash 3;join 3;hold;view;", 4)
            .due("member(3,1)", 2, "told(5)", 0, "told(1)", 3);
        new Run("their SUM is that of the least SURVIVOR, their LOG has that one entry alone").group(ONE_OUTSIDE)
            .work("send 2 9;send 1 4;take 2;crash 2;join 2;join 3;hold;view;", 8)
            // What 2 sent was not GOT by 0 and 1; what 1 sent is worth 10.
            .due("tally(0)", 10, "tally(2)", 10, "tally(3)", 10, "member(2,6)", 1, "member(3,6)", 1, "log(2,0)", 10, "log(3,0)", 10,
                "log(2,1)", Run.IOB, "log(0,0)", 10);
        new Run("their SUM is that of the least SURVIVOR: of nothing sent").group(ONE_OUTSIDE).work("join 3;hold;view;", 3)
            .due("tally(3)", 0, "member(3,6)", 1, "log(3,0)", 0, "member(0,6)", 0);
        three("who was IN and is not a SURVIVOR is not IN any more, not BLOCKED, has nothing HELD")
            .work("hold;send 2 5;part 4;view;", 4).due("told(3)", 7, "told(2)", 3, "member(2,0)", 0, "told(4)", 0, "member(2,4)", 0,
                "member(2,1)", 1);
        three("(SUM and LOG stay, until it joins)").work("send 2 5;part 4;hold;view;", 4)
            .due("tally(2)", 18, "member(2,6)", 1, "log(2,0)", 18).work("join 2;", 1).due("tally(2)", 18, "log(2,0)", 18)
            .work("part 0;hold;view;", 3).due("tally(2)", 0, "member(2,6)", 1, "log(2,0)", 0);
        three("SURVIVORS are of age one more, and not BLOCKED any more").work("crash 2;hold;view;", 3)
            .due("member(0,1)", 2, "member(1,1)", 2, "member(2,1)", 1, "told(4)", 0);
    }

    private static void viewLeavesNothing() {
        three("there are no MESSAGES, nothing is GOT, KEPT, KNOWN, ON THE WAY")
            .work("send 0 1;send 1 1;take 1;take 0;tell 0;tell 1;part 4;hold;view;", 9)
            .due("told(7)", 0, "told(8)", 0, "message(0,0)", Run.NPE, "next(0)", -1, "next(2)", -1)
            .due("member(0,2)", 0, "member(0,3)", 0, "knows(0,0)", 0, "knows(0,1)", 0, "knows(1,0)", 0, "member(2,2)", 0,
                "member(2,3)", 0, "knows(2,0)", 0, "knows(2,2)", 0, "lore(0)", 0, "stable(0)", 0).work("send 0 1;", 1)
            .due("message(0,2)", 1, "message(0,3)", 1, "message(0,4)", 2, "knows(0,1)", 0, "stable(0)", 0);
        three("there are no MESSAGES: of one that was left behind").work("send 2 1;send 2 1;part 4;hold;view;", 5)
            .due("member(2,2)", 0, "member(2,3)", 0, "knows(2,2)", 0, "behind(0)", 0, "behind(1)", 0);
    }

    private static void viewSendsHeld() {
        new Run("then, by MEMBERS, what is HELD of each is sent, in its order, as by send").group(ONE_OUTSIDE)
            .work("hold;send 2 5;send 0 6;send 2 7;send 1 8;join 3;view;", 7)
            .due("told(7)", 4, "message(0,0)", 0, "message(0,1)", 6, "message(1,0)", 1, "message(1,1)", 8, "message(2,0)", 2,
                "message(2,1)", 5, "message(3,0)", 2, "message(3,1)", 7)
            .due("message(0,4)", 14, "message(3,4)", 11, "member(2,4)", 0, "held(2,0)", -1, "tally(2)", 42, "log(2,0)", 18,
                "log(2,1)", 42, "told(8)", 12, "knows(2,2)", 12);
        new Run("(what is REFUSED is gone)").group(THREE + "limit 3;").work("hold;send 1 1;send 1 2;send 1 3;send 0 4;crash 2;view;", 7)
            .due("told(10)", 0, "told(7)", 3, "message(0,1)", 4, "message(1,1)", 1, "message(2,1)", 2, "member(1,4)", 0,
                "held(1,0)", -1, "tally(1)", 10).work("crash 1;join 1;", 2).refuses("view;");
        new Run("(what is REFUSED is gone): all but the first of sixteen").group(THREE + "limit 1;")
            .work("hold;again 8 [send 0 1;send 1 2;];crash 2;view;", 19)
            .due("told(7)", 1, "message(0,0)", 0, "member(0,4)", 0, "member(1,4)", 0);
        three("what is HELD of who crashes is gone").work("hold;send 0 1;send 1 2;crash 0;view;", 5)
            .due("told(7)", 1, "message(0,0)", 1);
    }

    private static void primaryPart() {
        new Run("more than half: half is not").group(TWO).due("primary()", 3).work("part 1;", 1).due("primary()", -1)
            .work("part 0;crash 0;", 2).due("primary()", -1);
        new Run("more than half: two of four, three of four").group(FOUR).work("part 3;", 1).due("primary()", -1).work("part 1;", 1)
            .due("primary()", 14).work("part 7;", 1).due("primary()", 7).work("crash 0;", 1).due("primary()", -1).work("part 0;", 1)
            .due("primary()", 14).work("crash 3;", 1).due("primary()", -1);
        new Run("more than half of WEIGHTS").group(TWO).work("part 1;", 1).says("law", "50-member", 1).due("primary()", 1)
            .says("law", "50+member", 1).due("primary()", 2).says("law", "100+member", 1).due("primary()", -1);
        three("of WEIGHTS of all MEMBERS of the VIEW: of none").says("law", "0", 1).due("primary()", -1).refuses("hold;")
            .says("law", "0-member", 1).due("primary()", -1);
        three("WEIGHTS of those that are UP and IN").says("law", "1+member*member", 1).work("crash 2;", 1).due("primary()", -1)
            .work("join 2;", 1).due("primary()", -1).says("law", "5-member", 1).due("primary()", 7);
        new Run("WEIGHTS of those that are UP and IN: not of who WANTS to join").group(ONE_OUTSIDE).says("law", "1+member/3*90", 1)
            .work("join 3;part 9;", 2).due("primary()", 6).work("part 8;", 1).due("primary()", 7);
        new Run("those in it that are UP and IN, or UP and WANT to join").group(THREE + "member 0;member 0;")
            .work("crash 0;crash 4;join 3;", 3).due("primary()", 14).work("part 8;", 1).due("primary()", 6)
            .work("part 30;join 4;join 0;", 3).due("primary()", 30).work("part 17;", 1).due("primary()", 14);
        new Run("There is none, if no part has more than half: nobody is IN").due("primary()", -1).group("member 0;")
            .due("primary()", -1).work("join 0;", 1).due("primary()", -1);
    }
}
