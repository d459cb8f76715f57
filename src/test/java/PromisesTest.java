/** Each promise of the document by hand: ordinary inputs, the edges that it names, wrong inputs. */
public final class PromisesTest {
    private static final String NSE = Run.NSE;
    private static final String IAE = Run.IAE;
    private static final String NPE = Run.NPE;
    private static final String IOB = Run.IOB;
    private static final String THREE = "member 1;member 1;member 1;";
    private static final String FOUR = THREE + "member 0;";

    private PromisesTest() { }

    public static void main(String[] args) {
        newObject();
        feed();
        group();
        groupFaults();
        law();
        lawFaults();
        work();
        workFaults();
        steps();
        views();
        book();
        fault();
        undo();
        told();
        member();
        tallyAndLog();
        message();
        knowsStableLore();
        would();
        primary();
        missingLostAgree();
        fallAndSplits();
        tells();
        next();
        held();
        fitsAndLook();
        noteAndSpelt();
        behind();
        stormAndSpan();
        imageAndRestore();
        statusAndCount();
        Run.end("PromisesTest");
    }

    private static Run three(String name) {
        return new Run(name).says("group", THREE, 3);
    }

    private static String times(int n, String s) {
        return s.repeat(n);
    }

    private static void newObject() {
        new Run("1 new object").due("told(0)", 0, "told(1)", 1, "told(2)", 0, "told(3)", 0, "told(4)", 0, "told(5)", 0,
            "told(6)", 0, "told(7)", 0, "told(8)", 0, "told(9)", 0, "told(10)", 0, "told(11)", 30, "fault()", -1,
            "primary()", -1, "undo()", -1, "restore()", -1, "count(0)", 0, "count(1)", 0, "count(2)", 0,
            "fits(0)", 1, "fits(1)", 0, "look(0)", -1, "look(1)", -1, "splits()", 1, "behind(0)", -1, "behind(1)", -1,
            "agree()", true, "storm(1,96,8,0)", 1, "storm(1,96,8,1)", 0, "storm(1,96,8,2)", 0, "storm(1,96,8,3)", 1).note("v1:;0");
    }

    private static void feed() {
        Run r = new Run("2 feed");
        for (int i = 1; i <= 30; i++) {
            r.due("feed(1,2,3,4,5)", 20 * i);
        }
        r.due("feed(1,2,3,4,5)", -1, "count(1)", 600, "group(600)", -9, "fault()", 0, "count(1)", 0);
        // 'limi' 't 7;' of each number the highest byte first.
        r.due("feed(1818848617,1948268347,0,0,0)", 20, "group(8)", 0, "told(11)", 7);
        r.due("feed(-1,-1,-1,-1,-1)", 20, "group(1)", -9, "fault()", 0);
    }

    private static void group() {
        new Run("3 group").says("group", times(6, "member 1;"), 6).due("told(2)", 63, "told(3)", 63)
            .says("group", "", 0).due("told(0)", 0, "told(2)", 0)
            .says("group", "   ", 0)
            .says("group", "limit 30;limit 1;", 0).due("told(11)", 1)
            .says("group", " member1 ; member  000 ;limit0009; ", 2).due("told(2)", 1, "told(3)", 3, "told(11)", 9)
            .says("group", times(60, "limit 5;"), 0).due("told(11)", 5)
            .says("group", FOUR, 4)
            .due("group(-1)", IAE, "group(1)", IAE, "feed(0,0,0,0,0)", 20, "group(21)", IAE, "count(1)", 20, "told(0)", 4,
                "group(2147483647)", IAE, "group(-2147483648)", IAE, "group(0)", 0, "count(1)", 0);
        new Run("3 group forgets").says("group", FOUR, 4).says("law", "7", 1).says("book", "0 1;", 1)
            .says("work", "send 0 1;send 3 1;part 2;", 2).due("image()", 1, "told(10)", 1, "member(0,5)", 7)
            .says("group", FOUR, 4)
            .due("member(0,5)", 1, "told(9)", 0, "count(0)", 0, "count(2)", 0, "undo()", -1, "restore()", -1, "told(6)", 0,
                "told(7)", 0, "told(10)", 0, "tally(0)", 0, "member(0,6)", 0);
    }

    private static void groupFaults() {
        new Run("3 group's faults").says("group", FOUR, 4).says("law", "7", 1).says("work", "send 0 1;", 1)
            .fails("group", "member 2;", -8, 7)
            .fails("group", "limit 0;", -8, 6).fails("group", "limit 31;", -8, 6)
            .fails("group", "limit 99999999999999999999;", -8, 6)
            .fails("group", "limit 4294967297;", -8, 6)
            .fails("group", "member", -9, 6).fails("group", "member  ", -9, 8).fails("group", "member 1", -9, 8)
            .fails("group", "member 1  ", -9, 10).fails("group", "members 1;", -9, 0).fails("group", " Member 1;", -9, 1)
            .fails("group", "memb", -9, 0).fails("group", ";", -9, 0).fails("group", "7;", -9, 0)
            .fails("group", "member;", -9, 6).fails("group", "member 1 1;", -9, 9).fails("group", "member -1;", -9, 7)
            .fails("group", "member 1;x", -9, 9).fails("group", "limit 1;\u00e9", -9, 8).fails("group", "limit\t1;", -9, 5)
            .fails("group", times(6, "member 0;") + "member 7;", -7, 54)
            .fails("group", times(6, "member 0;") + " member", -7, 55)
            .fails("group", times(60, "limit 5;") + " limit 5;", -7, 481)
            .fails("group", times(60, "limit 5;") + "limits 5;", -9, 480)
            .fails("group", times(60, "limit 5;") + "5;", -9, 480)
            .fails("group", times(595, " ") + "limit", -9, 600).fails("group", times(599, " ") + "l", -9, 599)
            // Bytes on the tape behind the first n are no part of the text.
            .feed("limit 25;".getBytes()).due("group(7)", -9, "fault()", 7)
            .feed("limited".getBytes()).due("group(5)", -9, "fault()", 5)
            .due("told(0)", 4, "told(7)", 1, "member(0,5)", 7, "count(2)", 1);
    }

    private static void law() {
        three("4 law").says("law", "0", 1).due("member(0,5)", 0, "would(5,1,1,1)", 0)
            .says("law", "100", 1).due("member(1,5)", 99)
            .says("law", "1-2", 1).due("member(1,5)", 0)
            .says("law", "member", 1).due("member(0,5)", 0, "member(2,5)", 2)
            .says("law", " 2 + 3 * 4 - 10 / 3 % 2 ", 1).due("member(0,5)", 13)
            .says("law", "20-5-4", 1).due("member(0,5)", 11)
            .says("law", "20-(5-4)", 1).due("member(0,5)", 19)
            .says("law", "90/2/5*3", 1).due("member(0,5)", 27)
            .says("law", "age*10+view*20+size", 1).due("member(0,5)", 33, "would(0,2,3,6)", 86)
            .says("law", "least[7,3]+most[7,3]*10", 1).due("member(0,5)", 73)
            .says("law", "9+5/0+5%0", 1).due("member(0,5)", 9)
            .says("law", "50+(0-7)/2", 1).due("member(0,5)", 47)
            .says("law", "50+(0-7)%4", 1).due("member(0,5)", 47)
            .says("law", "50+7%(0-4)", 1).due("member(0,5)", 53)
            // 999*999*999 is 997,002,999; times 5 it wraps to 690,047,699; 690,047,699 % 97 is 5.
            .says("law", "999*999*999*5%97", 1).due("member(0,5)", 997002999 * 5 % 97)
            .says("law", "(0-512*512*512*16)/(0-1)+1", 1).due("member(0,5)", 0)
            .says("law", "7+(0-512*512*512*16)%(0-1)", 1).due("member(0,5)", 7)
            .says("law", "((((((8))))))+((((((9))))))", 1).due("member(0,5)", 17)
            .says("law", "least[1,least[2,most[3,(4)]]]", 1).due("member(0,5)", 1)
            .says("law", times(6, "least[") + "12" + times(6, ",50]"), 1).due("member(0,5)", 12)
            .says("law", times(6, "most[5,") + "12" + times(6, "]"), 1).due("member(0,5)", 12)
            .feed("4*5".getBytes()).due("law(1)", 1, "member(0,5)", 4)
            .says("law", "000000000000999", 1).due("member(0,5)", 99)
            .says("law", times(74, "0+") + "42", 1).due("member(0,5)", 42)
            .due("law(-1)", IAE, "law(1)", IAE)
            .feed(new byte[160]).due("law(151)", IAE, "count(1)", 160, "law(150)", -9, "fault()", 0, "count(1)", 0, "member(0,5)", 42);
    }

    private static void lawFaults() {
        three("4 law's faults").says("law", "5", 1)
            .fails("law", "", -9, 0).fails("law", "  ", -9, 2).fails("law", "1000", -8, 0).fails("law", "1+", -9, 2)
            .fails("law", "1+ 99999999999", -8, 3).fails("law", "-1", -9, 0).fails("law", "1 2", -9, 2)
            .fails("law", "1)", -9, 1).fails("law", "(1", -9, 2).fails("law", "(1]", -9, 2).fails("law", "()", -9, 1)
            .fails("law", "members", -9, 0).fails("law", "1+least", -9, 7).fails("law", "least(1,2)", -9, 5)
            .fails("law", "least[1]", -9, 7).fails("law", "least[1,2,3]", -9, 9).fails("law", "most[1,2", -9, 8)
            .fails("law", "2*/3", -9, 2).fails("law", "age size", -9, 4).fails("law", "1;", -9, 1).fails("law", "1a", -9, 1)
            .fails("law", "(((((((1)))))))", -7, 6).fails("law", "((((((least[1,2]))))))", -7, 6)
            .fails("law", "((((((foo))))))", -9, 6).fails("law", "((((((1(", -9, 7)
            .fails("law", "least[1,((((( most ", -7, 14).fails("law", times(7, "least["), -7, 36).fails("law", times(7, "most[1,"), -7, 42)
            .fails("law", times(6, "least[") + "(", -7, 36).fails("law", "(1)+" + times(6, "(") + "most", -7, 10)
            .due("member(0,5)", 5);
    }

    private static void work() {
        Run r = three("5 work");
        for (int i = 0; i < 15; i++) {
            r.says("work", "", 0);
        }
        r.says("work", "send 0 1;send 1 1;", 2).due("count(2)", 16);
        r.says("work", "send 0 1;", -20).says("work", "bad", -20).due("told(7)", 2, "work(1)", IAE, "count(2)", 16);
        r.due("undo()", 15).fails("work", "bad", -9, 0).says("work", "send 0 1;", 1).says("work", "", -20).due("fault()", -1);
        three("5 work's n").due("work(-1)", IAE, "work(1)", IAE).feed(new byte[160])
            .due("work(151)", IAE, "count(1)", 160, "work(150)", -9, "count(1)", 0, "count(2)", 0);
        three("5 agains").says("work", "again 3 [send 0 1;again 2 [take 1;];];", 6).due("told(10)", 3, "tally(1)", 6)
            .says("work", "again 0 [send 0 1;];again 60 [];", 0).due("told(10)", 0, "told(7)", 3)
            .says("work", "again 60 [again 60 [];];", 0).due("told(10)", 0)
            .says("work", "again 20 [again 20 [crash 0;];];", 1).due("told(10)", 188);
        // One again and 199 steps; the 200th and what comes behind is left out.
        three("5 200 steps").says("work", "again 60 [tell 0;tell 0;tell 0;];again 18 [tell 0;];part 5;", 198)
            .due("told(6)", 0, "told(10)", 0);
        three("5 199 steps").says("work", "again 60 [tell 0;tell 0;tell 0;];again 17 [tell 0;];part 5;part 6;", 198)
            .due("told(6)", 5, "told(10)", 0);
    }

    private static void workFaults() {
        three("5 work's faults")
            .fails("work", "send 3 0;", -8, 5).fails("work", "send 0 1000;", -8, 7).fails("work", "send 0;", -9, 6)
            .fails("work", "take;", -9, 4).fails("work", "take 3;", -8, 5).fails("work", "lose 3;", -8, 5)
            .fails("work", "tell 3;", -8, 5).fails("work", "trim 3;", -8, 5).fails("work", "crash 3;", -8, 6)
            .fails("work", "join 3;", -8, 5).fails("work", "part 64;", -8, 5).fails("work", "part;", -9, 4)
            .fails("work", "hold 1;", -9, 5).fails("work", "view", -9, 4).fails("work", "views;", -9, 0)
            .fails("work", "hold;;", -9, 5).fails("work", "hold;]", -9, 5).fails("work", "again 61 [];", -8, 6)
            .fails("work", "again [];", -9, 6).fails("work", "again 1 hold;", -9, 8).fails("work", "again 1 [hold];", -9, 13)
            .fails("work", "again 1 [hold;", -9, 14).fails("work", "again 1 [hold;]", -9, 15)
            .fails("work", times(6, "again1[") + "again", -7, 42).fails("work", times(6, "again1[") + "agains", -9, 42)
            .fails("work", "send 0 1;send 0 1;send 9 1;", -8, 23)
            .due("told(7)", 0, "count(2)", 0, "told(10)", 0)
            .says("work", times(6, "again1[") + "tell 0;" + times(6, "];"), 1).due("told(10)", 0)
            .says("work", "send0 5;send1 007 ; take  2 ;", 3).due("message(1,1)", 7, "message(0,1)", 5, "message(0,2)", 5);
        new Run("5 nobody is told").fails("work", "tell 0;", -8, 5).says("work", "part 0;part 63;hold;view;", 1)
            .due("told(10)", 3, "told(6)", 63);
    }

    private static void steps() {
        new Run("5 send and take").says("group", FOUR + "limit 3;", 4)
            .says("work", "send 3 1;send 0 5;send 1 0;part 1;take 1;take 2;take 0;lose 0;take 0;", 5)
            .due("told(10)", 4, "message(0,4)", 6, "message(1,4)", 0, "message(1,2)", 6, "tally(0)", 6, "tally(1)", 2,
                "tally(2)", 2, "tally(3)", 0)
            .says("work", "send 2 9;send 2 9;crash 0;part 0;take 2;take 1;", 5)
            // The sender of the first message is not UP, but by P it is reached.
            .due("told(10)", 1, "tally(2)", 38, "tally(1)", 8, "told(7)", 3, "told(3)", 14, "told(2)", 7);
        new Run("5 a sender out of reach").says("group", THREE, 3)
            .says("work", "send 0 0;send 2 0;part 1;take 1;take 1;lose 1;lose 1;", 5)
            .due("told(10)", 2, "tally(1)", 3, "message(0,4)", 4, "message(1,4)", 1);
        new Run("5 tell and trim").says("group", THREE, 3)
            .says("work", "send 0 1;take 1;take 2;trim 0;tell 1;part 4;tell 2;tell 0;trim 0;trim 1;part 0;tell 2;trim 0;trim 0;trim 1;trim 2;", 11)
            .due("told(10)", 5, "message(0,3)", 4, "message(0,2)", 7, "member(0,2)", 1, "member(0,3)", 0, "knows(2,0)", 0, "knows(1,0)", 1);
        new Run("5 crash and join").says("group", FOUR, 4)
            .says("work", "send 0 1;take 1;tell 1;send 1 4;crash 1;crash 1;tell 1;trim 1;take 1;lose 1;send 1 1;take 2;take 2;join 1;join 1;join 0;join 3;", 9)
            .due("told(10)", 8, "told(2)", 7, "told(3)", 15, "told(5)", 10, "member(1,0)", 0, "member(1,2)", 0, "member(1,3)", 0,
                "knows(0,1)", 1, "knows(1,1)", 0, "knows(1,0)", 0, "tally(1)", 12, "tally(2)", 12, "message(1,4)", 1, "message(0,2)", 5,
                "member(1,1)", 1, "member(1,6)", 2, "told(8)", 1);
        new Run("5 crash of one outside").says("group", FOUR, 4).says("work", "crash 3;crash 3;join 3;crash 3;", 3)
            .due("told(5)", 0, "told(3)", 7);
        new Run("5 part").says("group", THREE, 3).says("work", "part 0;part 7;part 7;part 63;part 0;", 3)
            .due("told(10)", 2, "told(6)", 0);
        new Run("5 hold").says("group", THREE, 3).says("work", "part 4;hold;hold;part 0;hold;", 4).due("told(10)", 1, "told(4)", 7)
            .says("work", "crash 0;crash 1;hold;", 2).due("told(4)", 4, "told(10)", 1);
        new Run("5 hold leaves others").says("group", times(5, "member 1;"), 5).says("work", "part 1;hold;part 2;", 3).due("told(4)", 30)
            .says("work", "hold;", 1).due("told(4)", 31);
        new Run("5 held are refused").says("group", "member 1;member 1;", 2)
            .says("work", "hold;again 9 [send 0 3;];send 1 5;crash 0;", 11).due("told(10)", 1, "member(0,4)", 0, "member(1,4)", 1, "told(4)", 2);
    }

    private static void views() {
        new Run("5 view is refused").says("group", FOUR, 4).says("work", "view;hold;view;part 4;part 0;view;", 3).due("told(10)", 3, "told(1)", 1);
        new Run("5 view of none").says("group", "member 1;member 1;", 2).says("work", "part 1;hold;view;", 1).due("told(10)", 2);
        new Run("5 view not all blocked").says("group", THREE, 3).says("work", "part 4;hold;part 2;view;hold;view;", 5)
            .due("told(10)", 1, "told(1)", 2, "told(2)", 5);
        three("5 view by the law of now").says("work", "hold;crash 2;", 2).says("law", "member*50", 1).says("work", "view;", 0)
            .says("law", "2-member", 1).says("work", "view;", 1).due("told(2)", 3);
        // 2 sends out of sight and is not a survivor; what 0 keeps is handed round, what only 2 has got is lost.
        new Run("5 flush").says("group", FOUR, 4)
            .says("work", "send 0 1;send 2 8;send 1 2;lose 1;part 4;join 3;hold;send 1 50;send 0 60;send 0 61;part 12;send 2 7;", 12)
            .due("lost()", 10, "missing(0)", 4, "missing(1)", 1, "missing(2)", 0, "missing(3)", 0, "agree()", true)
            .says("work", "hold;part 4;view;", 2)
            .due("told(10)", 1, "told(1)", 2, "told(2)", 11, "told(3)", 15, "told(4)", 0, "told(5)", 0, "told(7)", 3,
                "message(0,0)", 0, "message(0,1)", 60, "message(1,1)", 61, "message(2,0)", 1, "message(2,1)", 50, "message(0,4)", 10,
                "message(2,4)", 9, "tally(0)", 8 + 61 + 62, "tally(1)", 8 + 102, "tally(3)", 8, "tally(2)", 27 + 24, "member(3,6)", 1,
                "log(3,0)", 8, "log(1,0)", 6, "log(1,1)", 8, "log(1,2)", 110, "member(0,1)", 2, "member(1,1)", 2, "member(2,1)", 1,
                "member(3,1)", 1, "member(2,0)", 0, "member(3,0)", 1, "member(2,6)", 2, "knows(0,0)", 3, "knows(0,1)", 0, "member(3,2)", 0)
            .note("v2:0,1,3;3")
            // Who was left behind joins again: one entry, one age more.
            .says("work", "join 2;part 0;hold;view;", 4)
            .due("told(2)", 15, "member(2,1)", 2, "member(2,6)", 1, "tally(2)", 8 + 61 + 62 + 102, "tally(0)", 233, "log(2,0)", 233,
                "log(2,1)", IOB, "told(7)", 0);
        new Run("5 a blocked one left behind").says("group", THREE, 3)
            .says("work", "hold;send 2 5;send 0 1;part 4;view;", 5)
            .due("member(2,4)", 0, "told(4)", 0, "told(7)", 1, "member(2,0)", 0, "tally(2)", 0, "member(2,6)", 0, "told(2)", 3)
            .says("work", "send 2 1;take 2;tell 2;join 2;", 1).due("told(5)", 4);
        new Run("5 held beyond the limit").says("group", THREE + "limit 2;", 3)
            .says("work", "hold;send 1 1;send 1 2;send 0 3;crash 2;view;", 6)
            .due("told(10)", 0, "told(7)", 2, "message(0,0)", 0, "message(0,1)", 3, "message(1,1)", 1, "member(1,4)", 0, "tally(1)", 4);
        new Run("5 crashed and back again").says("group", THREE, 3)
            .says("work", "send 1 9;crash 1;join 1;hold;view;", 5)
            // Nobody who is left has got it, but 0 and 2 had it only on the way.
            .due("told(1)", 2, "told(2)", 7, "tally(1)", 0, "member(1,6)", 1, "log(1,0)", 0, "member(1,1)", 2);
    }

    private static void book() {
        three("6 book").says("book", "", 0).says("book", " 0 1 ; 2 0 ; ", 2).due("told(9)", 2)
            .says("book", "2 1;1 1;0 1;", 3).due("told(9)", 3)
            .fails("book", "3 0;", -8, 0).fails("book", "0 2;", -8, 2).fails("book", "0 1;0 1;", -8, 4).fails("book", "0 1;1", -9, 5)
            .fails("book", "0 1", -9, 3).fails("book", "00;", -9, 2).fails("book", "a 1;", -9, 0).fails("book", "0,1;", -9, 1)
            .fails("book", "0 1;1 1;2 1;0 1;", -8, 12).due("told(9)", 3)
            .due("book(-1)", IAE, "book(1)", IAE).feed(new byte[80])
            .due("book(61)", IAE, "count(1)", 80, "book(60)", -9, "fault()", 0, "count(1)", 0, "told(9)", 3)
            .says("work", "crash 0;", 1).due("told(9)", 3, "undo()", 0, "told(9)", 3);
        new Run("6 all are told").says("group", times(6, "member 1;"), 6).says("book", "5 1;4 0;3 1;2 0;1 1;0 0;", 6)
            .fails("book", "5 1;4 0;3 1;2 0;1 1;0 0;5 1;", -8, 24).fails("book", "5 1;4 0;3 1;2 0;1 1;0 0;6 1;", -8, 24)
            .fails("book", "5 1;4 0;3 1;2 0;1 1;0 0; ;", -9, 25).due("told(9)", 6);
        new Run("6 nobody is told").fails("book", "0 1;", -8, 0).says("book", " ", 0);
    }

    private static void fault() {
        three("7 fault").due("fault()", -1).fails("law", "1++", -9, 2).due("fault()", 2, "law(9)", IAE, "fault()", 2, "told(99)", IAE, "fault()", 2)
            .says("law", "1", 1).fails("book", "x", -9, 0).says("work", "", 0);
    }

    private static void undo() {
        three("8 undo").due("undo()", -1).says("law", "9", 1).says("work", "send 0 1;part 2;", 2).says("book", "0 0;", 1)
            .says("work", "crash 0;crash 0;hold;", 1).due("told(10)", 2, "undo()", 1, "told(10)", 0, "told(3)", 7, "told(6)", 2, "told(9)", 1,
                "member(0,5)", 9, "message(0,4)", 6, "undo()", 0, "told(7)", 0, "told(6)", 0, "undo()", -1)
            .says("work", "", 0).due("count(2)", 1, "undo()", 0);
        three("8 undo a view").says("work", "send 0 1;take 1;tell 1;hold;send 0 2;", 5).says("work", "crash 2;view;", 2)
            .due("told(1)", 2, "undo()", 1, "told(1)", 1, "told(2)", 7, "told(4)", 7, "held(0,0)", 2, "knows(2,1)", 1, "member(0,1)", 1, "tally(0)", 2,
                "member(0,6)", 1, "message(0,4)", 4);
    }

    private static void told() {
        new Run("9 told").says("group", FOUR + "limit 12;", 4).says("work", "send 0 1;send 1 1;take 2;join 3;crash 2;part 9;hold;part 8;hold;hold;", 8)
            .due("told(0)", 4, "told(1)", 1, "told(2)", 7, "told(3)", 11, "told(4)", 3, "told(5)", 8, "told(6)", 8, "told(7)", 2, "told(8)", 2,
                "told(9)", 0, "told(10)", 2, "told(11)", 12, "told(12)", IAE, "told(-1)", IAE, "told(2147483647)", IAE, "status(1)", 3);
        three("9 refused stays").says("work", "join 0;", 0).due("told(10)", 1).fails("work", "x", -9, 0).due("told(10)", 1, "restore()", -1, "told(10)", 1);
    }

    private static void member() {
        new Run("10 member").says("group", FOUR, 4).says("law", "member*10+age", 1).says("work", "send 0 1;send 0 1;take 1;tell 0;tell 1;hold;send 2 7;", 7)
            .due("member(0,0)", 1, "member(3,0)", 0, "member(0,1)", 1, "member(3,1)", 0, "member(0,2)", 2, "member(1,2)", 1, "member(0,3)", 2,
                "member(2,4)", 1, "member(2,5)", 21, "member(3,5)", 30, "member(0,6)", 2, "member(2,6)", 0,
                "member(4,0)", NSE, "member(-1,0)", NSE, "member(4,9)", NSE, "member(0,7)", IAE, "member(0,-1)", IAE, "status(0)", 3, "status(1)", 2);
    }

    private static void tallyAndLog() {
        three("11 12 tally, log").says("work", "send 2 999;take 0;send 0 0;", 3)
            .due("tally(2)", 3000, "tally(0)", 3001, "tally(1)", 0, "tally(3)", NSE, "tally(-1)", NSE, "log(0,0)", 3000, "log(0,1)", 3001,
                "log(0,2)", IOB, "log(0,63)", IOB, "log(0,64)", IOB, "log(0,-1)", IOB, "log(3,0)", NSE, "log(3,99)", NSE, "status(3)", 4);
        new Run("12 never in").says("group", FOUR, 4).due("log(3,0)", NPE, "log(3,64)", NPE, "log(3,-1)", NPE, "status(2)", 3)
            .says("work", "join 3;hold;view;", 3).due("log(3,0)", 0, "log(3,1)", IOB, "undo()", 0, "log(3,0)", NPE);
        // 30 messages a view; behind each a new view, by one that crashes and joins again.
        Run r = new Run("12 64 entries").says("group", THREE, 3);
        for (int i = 0; i < 3; i++) {
            r.says("work", "again 30 [send 0 1;];crash 2;join 2;hold;view;", 34);
        }
        r.due("tally(0)", 180, "member(0,6)", 64, "log(0,63)", 128, "log(0,64)", IOB, "member(1,6)", 64, "tally(1)", 180, "log(1,63)", 128,
            "member(2,6)", 1, "log(2,0)", 180);
    }

    private static void message() {
        three("13 message").says("work", "send 2 42;take 0;send 1 7;tell 0;", 4)
            .due("message(0,0)", 2, "message(0,1)", 42, "message(0,2)", 5, "message(0,3)", 5, "message(0,4)", 2, "message(1,0)", 1, "message(1,4)", 5,
                "message(2,0)", NPE, "message(29,4)", NPE, "message(30,0)", IOB, "message(-1,4)", IOB, "message(0,5)", IAE, "message(0,-1)", IAE,
                "message(30,5)", IAE, "message(2,5)", IAE, "status(1)", 4, "status(2)", 2, "status(3)", 2);
    }

    private static void knowsStableLore() {
        new Run("14 15 30 knows, stable, lore").says("group", FOUR, 4).says("work", "send 0 1;take 1;take 2;tell 1;tell 2;send 1 1;tell 0;", 7)
            .due("knows(0,0)", 1, "knows(0,1)", 1, "knows(0,2)", 1, "knows(1,1)", 3, "knows(0,3)", 0, "knows(3,0)", 0, "knows(2,2)", 1,
                "knows(4,0)", NSE, "knows(0,4)", NSE, "knows(-1,0)", NSE, "knows(0,-1)", NSE, "stable(0)", 1, "stable(1)", 1, "stable(3)", 0,
                "stable(4)", NSE, "stable(-1)", NSE, "lore(0)", 3, "lore(1)", 4, "lore(3)", 0, "lore(4)", NSE, "lore(-1)", NSE, "status(0)", 8)
            // Who has crashed is still one of the view: what is known of it counts.
            .says("work", "crash 2;", 1).due("stable(0)", 1, "stable(2)", 0, "knows(0,2)", 1, "lore(0)", 3, "lore(2)", 0)
            .says("work", "trim 0;trim 0;", 1).due("stable(0)", 1, "message(0,3)", 2, "message(0,2)", 3, "missing(0)", 2);
        three("15 one that has crashed never got it").says("work", "crash 2;send 0 1;take 1;tell 0;tell 1;trim 0;", 5).due("stable(0)", 0, "told(10)", 1);
    }

    private static void would() {
        new Run("16 would").due("would(0,0,0,0)", 1, "would(5,9999,9999,6)", 1, "would(6,0,0,0)", IAE, "would(-1,0,0,0)", IAE, "would(0,10000,0,0)", IAE,
            "would(0,-1,0,0)", IAE, "would(0,0,10000,0)", IAE, "would(0,0,-1,0)", IAE, "would(0,0,0,7)", IAE, "would(0,0,0,-1)", IAE, "status(1)", 8)
            .says("law", "member+age/999+view/999*2+size*3", 1).due("would(5,9999,9999,6)", 5 + 10 + 20 + 18, "would(0,0,0,0)", 0);
    }

    private static void primary() {
        new Run("17 primary").says("group", FOUR, 4).due("primary()", 7).says("work", "part 1;", 1).due("primary()", 6)
            .says("work", "part 6;", 1).due("primary()", 6).says("work", "part 14;join 3;", 2).due("primary()", 14)
            .says("work", "part 1;", 1).due("primary()", 14).says("work", "part 9;", 1).due("primary()", 6)
            .says("work", "part 0;crash 1;", 2).due("primary()", 13).says("work", "part 8;", 1).due("primary()", 5)
            .says("work", "part 1;", 1).due("primary()", -1)
            .says("law", "1+(3-member)/3*5", 1).due("primary()", 1).says("law", "0", 1).due("primary()", -1);
        new Run("17 just half is not more").says("group", "member 1;member 1;", 2).due("primary()", 3).says("work", "part 2;", 1).due("primary()", -1)
            .says("law", "1+member", 1).due("primary()", 2);
        new Run("17 nobody is in").says("group", "member 0;member 0;", 2).says("work", "join 0;hold;view;", 1).due("primary()", -1, "told(5)", 1, "told(2)", 0);
    }

    private static void missingLostAgree() {
        three("18 19 25 missing, lost, agree").says("work", "send 2 1;send 0 2;send 1 3;take 0;crash 2;", 5)
            .due("missing(0)", 4, "missing(1)", 3, "missing(2)", 0, "missing(3)", NSE, "missing(-1)", NSE, "lost()", 0, "agree()", true)
            .says("work", "crash 0;", 1).due("lost()", 0, "missing(1)", 0, "primary()", -1, "agree()", true)
            .due("undo()", 1).says("work", "join 2;", 1).due("primary()", 7, "missing(2)", 0, "missing(1)", 3);
        three("19 lost").says("work", "send 2 1;send 0 2;crash 2;", 3).due("lost()", 1, "missing(1)", 2).says("work", "part 1;", 1).due("lost()", 0, "primary()", -1);
        three("19 what nobody keeps is not lost").says("work", "send 0 1;take 1;take 2;tell 0;tell 1;tell 2;trim 0;trim 1;trim 2;", 9)
            .due("lost()", 0, "missing(0)", 0, "message(0,3)", 0, "agree()", true);
    }

    private static void fallAndSplits() {
        new Run("20 21 fall, splits").says("group", times(5, "member 1;"), 5).due("fall()", 3, "splits()", 0)
            .says("work", "part 3;", 1).due("fall()", 1, "splits()", 0)
            // Of four that stand among five three must be together: all 5 sets of at most one apart, twice, for each side of 4.
            .says("work", "crash 4;", 1).due("fall()", 0, "primary()", -1, "splits()", 12)
            .says("work", "part 0;", 1).due("fall()", 2, "splits()", 12).says("law", "1+(4-member)/4*9", 1).due("fall()", 1, "splits()", 0)
            .says("law", "0", 1).due("fall()", 0, "splits()", 32);
        new Run("21 splits of those outside, too").says("group", "member 1;member 1;member 0;", 3).due("splits()", 4, "fall()", 1);
        new Run("21 nobody in").says("group", "member 0;", 1).due("splits()", 2, "fall()", 0);
    }

    private static void tells() {
        three("22 tells").due("tells()", 0).says("work", "send 0 1;", 1).due("tells()", 1).says("work", "take 1;tell 1;", 2).due("tells()", 1)
            .says("work", "take 2;", 1).due("tells()", 2).says("work", "part 4;tell 0;", 2).due("tells()", 0).says("work", "part 0;", 1).due("tells()", 2)
            .says("work", "crash 2;", 1).due("tells()", 0);
    }

    private static void next() {
        new Run("23 next").says("group", FOUR, 4).due("next(0)", -1, "next(4)", NSE, "next(-1)", NSE).says("work", "send 0 1;send 1 1;", 2)
            .due("next(0)", 1, "next(1)", 0, "next(2)", 0, "next(3)", -1).says("work", "part 6;", 1).due("next(0)", -1, "next(1)", -1, "next(2)", 1)
            .says("work", "crash 2;", 1).due("next(2)", -1, "status(0)", 2);
    }

    private static void held() {
        three("24 held").says("work", "hold;send 1 0;send 1 999;", 3).due("held(1,0)", 0, "held(1,1)", 999, "held(1,2)", -1, "held(1,8)", -1,
            "held(1,2147483647)", -1, "held(0,0)", -1, "held(1,-1)", IAE, "held(3,0)", NSE, "held(-1,-1)", NSE);
    }

    private static void fitsAndLook() {
        new Run("26 27 fits, look").says("group", FOUR, 4).due("fits(0)", 16, "fits(1)", 0, "look(0)", 0, "look(1)", 12, "fits(2)", IAE, "fits(-1)", IAE,
            "look(2)", IAE, "look(-1)", IAE)
            .says("book", "0 0;", 1).due("fits(0)", 4, "fits(1)", 1, "look(0)", 1, "look(1)", 4)
            .says("book", "3 1;", 1).due("fits(0)", 0, "fits(1)", -1, "look(0)", 0, "look(1)", 0)
            .says("work", "join 3;", 1).due("fits(0)", 8, "fits(1)", 0, "look(0)", 0, "look(1)", 6)
            .says("book", "3 1;1 0;0 1;", 3).due("fits(0)", 2, "fits(1)", 2, "look(0)", 2, "look(1)", 2)
            .says("book", "0 1;1 1;2 1;3 0;", 4).due("fits(0)", 2, "fits(1)", 7, "look(0)", -1, "look(1)", -1)
            .says("book", "0 0;1 0;2 0;", 3).due("fits(0)", 0, "fits(1)", -1, "look(0)", 3, "look(1)", 0)
            .says("law", "0", 1).due("fits(0)", 16, "fits(1)", 0, "look(0)", 3, "look(1)", 16);
    }

    private static void noteAndSpelt() {
        Run r = new Run("28 29 note").says("group", FOUR, 4).note("v1:0,1,2;0").due("note()", 10, "spelt(0)", 118, "spelt(9)", 48, "spelt(10)", -1,
            "spelt(2147483647)", -1, "spelt(-1)", IAE);
        r.says("work", "again 12 [send 0 1;];hold;crash 1;join 3;", 15).note("v1:0!,1?,2!;12").says("work", "join 1;", 1).note("v1:0!,1,2!;12")
            .says("work", "again 18 [hold;view;crash 3;join 3;];", 71).note("v19:0,1,2,3;0");
    }

    private static void behind() {
        new Run("31 behind").says("group", "member 0;" + THREE, 4).due("behind(0)", 1, "behind(1)", 0).says("work", "send 1 1;send 3 1;take 3;", 3)
            .due("behind(0)", 2, "behind(1)", 0).says("work", "take 2;", 1).due("behind(0)", 1, "behind(1)", 1).says("work", "take 1;", 1)
            .due("behind(0)", 2, "behind(1)", 1, "behind(2)", IAE, "behind(-1)", IAE).says("work", "crash 1;crash 2;crash 3;", 3).due("behind(0)", -1, "behind(1)", -1);
        new Run("31 behind with all of 30").says("group", "member 0;member 1;", 2).says("work", "again 31 [send 1 1;];", 30).due("behind(0)", 1, "behind(1)", 30);
    }

    private static void stormAndSpan() {
        // By seed 1, of three: 16838 % 3 = 2, 5758 % 8 = 6, 10113 % 16 = 1.
        three("32 33 storm, span").due("storm(1,1,2,1)", 7, "span(1,1,1,2,2,2)", 0, "span(1,1,1,1,2,2)", 1, "span(1,1,1,2,2,1)", 1, "told(3)", 7)
            .due("storm(1,0,0,0)", IAE, "storm(1,97,0,0)", IAE, "storm(1,1,-1,0)", IAE, "storm(1,1,17,0)", IAE, "storm(1,1,0,4)", IAE, "storm(1,1,0,-1)", IAE,
                "span(1,0,1,0,0,0)", IAE, "span(1,11,1,0,0,0)", IAE, "span(1,1,0,0,0,0)", IAE, "span(1,1,97,0,0,0)", IAE, "span(1,1,1,17,0,0)", IAE,
                "span(1,1,1,-1,0,0)", IAE, "span(1,1,1,0,3,0)", IAE, "span(1,1,1,0,-1,0)", IAE, "span(1,11,1,0,0,3)", NSE, "span(1,1,1,0,1,-1)", NSE,
                "status(1)", 14, "status(0)", 2)
            .due("storm(2147483647,96,16,3)", 1, "span(2147483647,10,96,0,0,0)", 1, "told(7)", 0);
    }

    private static void imageAndRestore() {
        three("34 35 image, restore").due("restore()", -1).says("work", "send 0 1;send 0 1;join 0;", 2).due("image()", 1, "image()", 2, "image()", 3, "image()", -1,
            "count(0)", 3, "told(10)", 1)
            .says("law", "7", 1).says("book", "1 1;", 1).says("work", "crash 0;part 3;", 2).says("work", "join 1;", 0).due("told(10)", 1, "count(2)", 3)
            .due("restore()", 2, "told(10)", 0, "told(3)", 7, "told(6)", 0, "told(7)", 2, "count(2)", 1, "member(0,5)", 7, "told(9)", 1)
            .due("undo()", 0, "told(7)", 0, "image()", 3, "restore()", 2, "undo()", -1, "restore()", 1, "told(7)", 2, "count(2)", 1, "restore()", 0, "restore()", -1,
                "undo()", 0, "told(7)", 0);
        three("34 works of an image").says("work", "send 0 1;", 1).says("work", "send 0 2;", 1).due("image()", 1, "undo()", 1, "undo()", 0)
            .says("work", "part 1;", 1).says("work", "part 2;", 1).due("restore()", 0, "told(7)", 2, "told(6)", 0, "undo()", 1, "told(7)", 1,
                "told(6)", 0, "undo()", 0, "told(7)", 0, "told(6)", 0);
        Run r = three("34 an image of 16 works");
        for (int i = 0; i < 16; i++) {
            r.says("work", "send 0 " + i + ";", 1);
        }
        r.due("image()", 1);
        for (int i = 15; i >= 0; i--) {
            r.due("undo()", i);
        }
        r.says("work", "part 1;", 1).due("restore()", 0, "count(2)", 16, "told(7)", 16, "told(6)", 0).says("work", "", -20);
        for (int i = 15; i >= 0; i--) {
            r.due("undo()", i, "told(7)", i);
        }
    }

    private static void statusAndCount() {
        new Run("36 37 status, count").due("status(0)", 0, "status(1)", 0, "status(2)", 0, "status(3)", 0, "status(4)", -1, "status(-1)", -1, "image()", 1,
            "member(0,0)", NSE, "told(12)", IAE, "message(0,0)", NPE, "message(30,0)", IOB, "restore()", 0, "status(0)", 1, "status(1)", 1, "status(2)", 1, "status(3)", 1)
            .says("group", THREE, 3).due("status(0)", 1, "status(1)", 1, "feed(0,0,0,0,0)", 20, "count(0)", 0, "count(1)", 20, "count(2)", 0, "count(3)", -1, "count(-1)", -1);
    }
}
