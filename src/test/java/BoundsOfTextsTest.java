/**
 * The texts (part 1 of the document's Terms) and the calls that read them (promises 2 to 7): each sentence that names a
 * boundary case has a run of its own, which bears the sentence's words.
 */
public final class BoundsOfTextsTest {
    private static final String IAE = Run.IAE;
    private static final String THREE = "member 1;member 1;member 1;";
    private static final String SIX = THREE + THREE;
    // 2 to the 31st, which wraps to the least number there is.
    private static final String WRAPPED = "512*512*512*16";

    private BoundsOfTextsTest() { }

    public static void main(String[] args) {
        groupText();
        groupClauses();
        lawText();
        lawValues();
        lawNames();
        workText();
        workNumbers();
        bookText();
        numbersWordsBlanks();
        misspeltWords();
        faultPlaces();
        tooManyOpen();
        ofOneTheLeast();
        feed();
        group();
        law();
        work();
        book();
        fault();
        Run.end("BoundsOfTextsTest");
    }

    private static String times(int n, String s) {
        return s.repeat(n);
    }

    private static String blanks(int n) {
        return " ".repeat(n);
    }

    /** A text that is brought to a length by blanks at its end. */
    private static String wide(String text, int length) {
        return text + blanks(length - text.length());
    }

    private static Run three(String name) {
        return new Run(name).group(THREE);
    }

    private static void groupText() {
        new Run("A GROUP is a text of up to 600 bytes").says("group", wide("member 1;member 0;", 600), 2).due("told(2)", 1)
            .says("group", blanks(582) + "member 0;member 1;", 2).due("told(2)", 2);
        new Run("{ CLAUSE \";\" }: none").group(SIX).says("group", "", 0).due("told(0)", 0, "told(2)", 0, "told(3)", 0);
        new Run("at most 60").says("group", times(54, "limit 5;") + SIX, 6).due("told(11)", 5).says("group", times(60, "limit 9;"), 0)
            .due("told(11)", 9).faults("group", -7, times(54, "limit 5;") + SIX + " limit 5;", 54 * 8 + 55, times(60,
                "limit 9;") + "member", 480, times(60, "limit 9;") + blanks(100) + "limit 99;", 580);
    }

    private static void groupClauses() {
        new Run("MEMBERS, numbered from 0 on, 6 at most").says("group", SIX, 6)
            .due("told(0)", 6, "told(3)", 63, "member(5,0)", 1, "member(6,0)", Run.NSE)
            .faults("group", -7, SIX + "member 1;", 54, SIX + "limit 3;  member 0;", 64, SIX + "member 2;", 54);
        new Run("1 in the first VIEW, 0 outside").says("group", "member 0;member 1;member 00;member 01;", 4)
            .due("told(2)", 10, "member(0,0)", 0, "member(1,0)", 1, "member(2,0)", 0, "member(3,0)", 1)
            .faults("group", -8, "member 2;", 7, "member 10;", 7, "member 4294967296;", 7, "member 4294967297;", 7);
        new Run("\"limit\" N (1 to 30").says("group", "limit 1;", 0).due("told(11)", 1).says("group", "limit 30;", 0)
            .due("told(11)", 30).faults("group", -8, "limit 0;", 6, "limit 31;", 6, "limit 000;", 6, "limit 4294967297;", 6,
                "limit 18446744073709551617;", 6);
        new Run("30 without").due("told(11)", 30).says("group", "limit 4;", 0).due("told(11)", 4).says("group", "member 1;", 1)
            .due("told(11)", 30);
        new Run("the last counts").says("group", "limit 30;member 1;limit 1;limit 7;member 1;", 2).due("told(11)", 7)
            .says("group", "limit 7;limit 1;limit 30;", 0).due("told(11)", 30);
    }

    private static void lawText() {
        three("A LAW is a text of up to 150 bytes").says("law", blanks(148) + "42", 1).due("member(0,5)", 42)
            .says("law", wide("41", 150), 1).due("member(0,5)", 41).says("law", times(74, "1+") + "2", 1).due("member(0,5)", 76)
            .feed(wide("7", 160)).due("law(151)", IAE, "count(1)", 160, "member(0,5)", 76, "law(150)", 1, "member(0,5)", 7);
        three("at the end nothing more").says("law", "5", 1)
            .faults("law", -9, "1 2", 2, "1)", 1, "1]", 1, "1,2", 1, "1;", 1, "age age", 4, "1 (2)", 2, "(1)(2)", 3, "2 least[1,2]", 2)
            .due("member(0,5)", 5);
        new Run("without: 1").due("would(0,0,0,0)", 1, "would(5,9999,9999,6)", 1).group(THREE).due("member(0,5)", 1).says("law", "8", 1)
            .due("member(0,5)", 8).group(THREE).due("member(0,5)", 1, "would(0,0,0,0)", 1);
        three("E: T { + or - T }. T: U { * or / or % U }").says("law", "70-20-30+5", 1).due("member(0,5)", 25).says("law", "2+3*4", 1)
            .due("member(0,5)", 14).says("law", "3*4+2", 1).due("member(0,5)", 14).says("law", "50-2*3-4", 1).due("member(0,5)", 40)
            .says("law", "7*8/5%4", 1).due("member(0,5)", 3).says("law", "90%50*2", 1).due("member(0,5)", 80).says("law", "(2+3)*4", 1)
            .due("member(0,5)", 20).faults("law", -9, "+1", 0, "-1", 0, "1+", 2, "1++1", 2, "1*", 2, "*1", 0, "1//1", 2, "1-*2", 2,
                "()", 1, "", 0);
    }

    private static void lawValues() {
        three("0 at least").says("law", "0-1", 1).due("member(0,5)", 0).says("law", "0", 1).due("member(0,5)", 0).says("law", "1", 1)
            .due("member(0,5)", 1).says("law", WRAPPED, 1).due("member(0,5)", 0);
        three("99 at most").says("law", "98", 1).due("member(0,5)", 98).says("law", "99", 1).due("member(0,5)", 99)
            .says("law", "100", 1).due("member(0,5)", 99).says("law", WRAPPED + "-1", 1).due("member(0,5)", 99);
        three("N (0 to 999)").says("law", "0+5", 1).due("member(0,5)", 5).says("law", "999/10", 1).due("member(0,5)", 99)
            .says("law", "999-990", 1).due("member(0,5)", 9)
            .faults("law", -8, "1000", 0, "1+1000", 2, "4294967296", 0, "18446744073709551616", 0, times(150, "9"), 0);
        three("Values are whole numbers of 32 bits that wrap").says("law", WRAPPED + "-1+1", 1).due("member(0,5)", 0)
            .says("law", "0-" + WRAPPED, 1).due("member(0,5)", 0).says("law", "0-" + WRAPPED + "-1", 1).due("member(0,5)", 99)
            .says("law", "512*512*512*32", 1).due("member(0,5)", 0).says("law", "512*512*512*32+6", 1).due("member(0,5)", 6)
            .says("law", "(512*512*512*32+3)*5", 1).due("member(0,5)", 15)
            // 2 to the 31st less 1, times itself, is 2 to the 62nd less 2 to the 32nd and 1: 1 is left.
            .says("law", "(" + WRAPPED + "-1)*(" + WRAPPED + "-1)", 1).due("member(0,5)", 1);
        three("/ cuts").says("law", "7/2", 1).due("member(0,5)", 3).says("law", "1/2", 1).due("member(0,5)", 0)
            .says("law", "10+(0-7)/2", 1).due("member(0,5)", 7).says("law", "10+7/(0-2)", 1).due("member(0,5)", 7)
            .says("law", "(0-7)/(0-2)", 1).due("member(0,5)", 3).says("law", "10+(0-1)/2", 1).due("member(0,5)", 10)
            .says("law", WRAPPED + "/(0-1)", 1).due("member(0,5)", 0).says("law", WRAPPED + "/(0-1)-1", 1).due("member(0,5)", 99);
        three("% leaves (with the sign of what is divided)").says("law", "7%4", 1).due("member(0,5)", 3).says("law", "8%4", 1)
            .due("member(0,5)", 0).says("law", "10+(0-7)%4", 1).due("member(0,5)", 7).says("law", "10+7%(0-4)", 1)
            .due("member(0,5)", 13).says("law", "10+(0-7)%(0-4)", 1).due("member(0,5)", 7).says("law", "5+" + WRAPPED + "%(0-1)", 1)
            .due("member(0,5)", 5);
        three("by 0 both are 0").says("law", "7/0", 1).due("member(0,5)", 0).says("law", "7%0", 1).due("member(0,5)", 0)
            .says("law", "4+0/0", 1).due("member(0,5)", 4).says("law", "4+0%0", 1).due("member(0,5)", 4).says("law", "4+(0-7)/(1-1)", 1)
            .due("member(0,5)", 4).says("law", "4+(0-7)%(1-1)", 1).due("member(0,5)", 4);
    }

    private static void lawNames() {
        new Run("\"member\" (its number)").group(SIX).says("law", "member*7", 1)
            .due("member(0,5)", 0, "member(1,5)", 7, "member(5,5)", 35);
        new Run("\"age\" (how many VIEWS it has been in by now)").group(THREE + "member 0;").says("law", "10+age", 1)
            .due("member(0,5)", 11, "member(3,5)", 10).work("crash 2;hold;view;", 3)
            .due("member(0,5)", 12, "member(2,5)", 11, "member(3,5)", 10);
        three("\"view\" (the number of the VIEW)").says("law", "20+view", 1).due("member(0,5)", 21).work("crash 2;hold;view;", 3)
            .due("member(0,5)", 22, "member(2,5)", 22);
        new Run("\"size\" (how many MEMBERS are in the VIEW)").group(THREE + "member 0;").says("law", "30+size", 1)
            .due("member(0,5)", 33, "member(3,5)", 33)
            // Who crashes is one of the VIEW still.
            .work("crash 2;join 3;", 2).due("member(0,5)", 33).work("part 8;hold;view;", 3).due("member(0,5)", 32).group("member 0;")
            .says("law", "30+size", 1).due("member(0,5)", 30);
        three("\"least\" \"[\" E \",\" E \"]\"").says("law", "least[3,4]", 1).due("member(0,5)", 3).says("law", "least[4,3]", 1)
            .due("member(0,5)", 3).says("law", "least[3,3]", 1).due("member(0,5)", 3).says("law", "9+least[0-1,0]", 1)
            .due("member(0,5)", 8).says("law", "5+least[0," + WRAPPED + "]*2", 1).due("member(0,5)", 5)
            .says("law", "least[1+1,2*3]*10", 1).due("member(0,5)", 20);
        three("\"most\" \"[\" E \",\" E \"]\"").says("law", "most[3,4]", 1).due("member(0,5)", 4).says("law", "most[4,3]", 1)
            .due("member(0,5)", 4).says("law", "most[3,3]", 1).due("member(0,5)", 3).says("law", "9+most[0-1,0-2]", 1)
            .due("member(0,5)", 8).says("law", "most[7," + WRAPPED + "]", 1).due("member(0,5)", 7).says("law", "most[1+1,2*3]*10", 1)
            .due("member(0,5)", 60);
    }

    private static void workText() {
        three("WORK is a text of up to 150 bytes").says("work", wide("send 0 1;", 150), 1).says("work", blanks(141) + "send 0 2;", 1)
            .says("work", times(30, "hold;"), 1).due("told(10)", 29).feed(wide("part 1;", 160))
            .due("work(151)", IAE, "count(1)", 160, "count(2)", 3, "told(6)", 0, "work(150)", 1, "told(6)", 1);
        three("{ STEP \";\" }: none").work("", 0).work("    ", 0).due("count(2)", 2);
        three("\"again\" N \"[\" { STEP \";\" } \"]\" (N 0 to 60)").work("again 0 [part 1;];", 0).due("told(6)", 0)
            .work("again 1 [part 1;];", 1).due("told(6)", 1).work("again 60 [part 2;];", 1, 59).work("again 60 [];again 0 [];", 0)
            .faults("work", -8, "again 61 [];", 6, "again 4294967296 [];", 6)
            .faults("work", -9, "again [];", 6, "again 1 [hold;;];", 14, "again 1 [hold];", 13, "again 1 [hold;];];", 16,
                "again 1 hold;", 8, "again 1 []", 10);
    }

    private static void workNumbers() {
        String[] words = {"take ", "lose ", "tell ", "trim ", "crash ", "join "};
        for (String word : words) {
            int at = word.length();
            new Run("STEP (M: a MEMBER, told): " + word).group(SIX).due("told(7)", 0).feed(word + "5;")
                .due("work(" + (at + 2) + ")", word.matches("tell |crash ") ? 1 : 0)
                .faults("work", -8, word + "6;", at, word + "4294967296;", at)
                .faults("work", -9, word + ";", at, word + "0 0;", at + 2, word, at);
            new Run("STEP (M: a MEMBER, told), of none: " + word).faults("work", -8, word + "0;", at);
        }
        new Run("\"send\" M V (V 0 to 999)").group(SIX).work("send 5 0;send 0 999;", 2)
            .due("message(0,0)", 5, "message(0,1)", 0, "message(1,0)", 0, "message(1,1)", 999)
            .faults("work", -8, "send 6 0;", 5, "send 0 1000;", 7, "send 6 1000;", 5, "send 0 4294967296;", 7);
        three("\"send\" M V").faults("work", -9, "send 0;", 6, "send;", 4, "send 0 1 2;", 9);
        new Run("\"part\" P (0 to 63)").group(THREE).work("part 63;part 0;", 2).work("part 63;", 1).due("told(6)", 63)
            .faults("work", -8, "part 64;", 5, "part 4294967296;", 5).faults("work", -9, "part;", 4, "part 1 1;", 7);
        new Run("\"hold\", \"view\"").group(THREE).faults("work", -9, "hold 0;", 5, "view 0;", 5).work("hold;view;", 1, 1);
    }

    private static void bookText() {
        three("A BOOK is a text of up to 60 bytes").says("book", wide("0 1;", 60), 1).says("book", blanks(52) + "0 1;1 1;", 2)
            .feed(wide("2 1;", 80)).due("book(61)", IAE, "count(1)", 80, "told(9)", 2, "book(60)", 1, "told(9)", 1);
        new Run("{ M V \";\" }: none, and of all").group(SIX).says("book", "5 0;4 1;3 0;2 1;1 0;0 1;", 6).due("told(9)", 6)
            .says("book", "", 0).due("told(9)", 0);
        three("no M twice").says("book", "1 1;", 1).faults("book", -8, "0 1;0 1;", 4, "0 1;0 0;", 4, "0 1;1 1;2 1;  00 1;", 14,
                "0 1;1 1;2 1;3 1;", 12);
        three("MEMBER M, one told").says("book", "2 1;", 1).faults("book", -8, "3 1;", 0, " 4294967296 1;", 1);
        new Run("MEMBER M, one told, of none").faults("book", -8, "0 1;", 0).says("book", "", 0).says("book", "  ", 0);
        three("would be in the next VIEW (V 1), or would not (0)").says("book", "0 1;1 0;", 2).due("fits(0)", 2, "fits(1)", 2)
            .says("book", "0 0;1 1;", 2).due("fits(0)", 2, "fits(1)", 1).faults("book", -8, "0 2;", 2, "0 10;", 2, "0 4294967297;", 2);
    }

    private static void numbersWordsBlanks() {
        three("Numbers: digits, as many as stand there").work("send " + times(60, "0") + "1 " + times(60, "0") + "999;", 1)
            .due("message(0,0)", 1, "message(0,1)", 999).says("law", times(147, "0") + "999", 1).due("member(0,5)", 99)
            .says("book", times(50, "0") + "2 01;", 1).due("fits(0)", 6).says("group", "limit " + times(500, "0") + "12;", 0)
            .due("told(11)", 12);
        three("Numbers: digits, as many as stand there, and no more")
            .faults("work", -9, "take 0a;", 6, "take 0.0;", 6, "take -0;", 5, "send 0 1,2;", 8)
            // The two digits are one number; there are not so many members.
            .faults("work", -8, "send 01 1000;", 8, "send 11;", 5).faults("law", -8, "99 + 9999", 5);
        three("WORDS: small letters, as many as stand there").work("tell0;send0 1;hold;", 3)
            .faults("work", -9, "tel 0;", 0, "tells 0;", 0, "tella0;", 0, "Tell 0;", 0, "tEll 0;", 0, "te ll 0;", 0, "holdview;", 0,
                "hol", 0, "0;", 0, ";", 0, "again1[hol", 7)
            .faults("group", -9, "membe 1;", 0, "memberlimit 1;", 0, "LIMIT 1;", 0, "limi", 0, "`", 0, "{", 0)
            .faults("law", -9, "siz", 0, "sizes", 0, "Size", 0, "1+agee", 2, "leas[1,2]", 0, "mostly[1,2]", 0, "viewage", 0);
        three("blanks (32) may stand ahead of all these, and at the end")
            .work("  send  1   7  ;  take  2 ; again  2  [ hold ; ]  ;  ", 3, 1).due("message(0,1)", 7, "message(0,2)", 6)
            .says("law", "  ( 2  +  3 )  *  least  [  4  ,  5  ]  ", 1).due("member(0,5)", 20).says("book", "  1   0  ;  ", 1)
            .due("told(9)", 1).says("group", "  member   1  ;   limit  9  ; ", 1).due("told(11)", 9).says("group", " ", 0)
            .says("book", " ", 0).says("work", " ", 0);
        three("blanks (32), no other signs").faults("work", -9, "\thold;", 0, "hold\t;", 4, "hold;\n", 5, "take\u00a00;", 4,
                "hold;\u0000", 5, "hold;\u001f", 5, "hold;!", 5)
            .faults("group", -9, "limit\u0000001;", 5, "limit 1;\u0020\u0000", 9, "\u00e9", 0, "\u00ff", 0, "limit 1;\u0080", 8)
            .faults("law", -9, "1\t", 1, "\u00b2", 0, "\u0660", 0).faults("book", -9, "0\t1;", 1);
    }

    private static void misspeltWords() {
        misspell("group", "member", " 1;");
        misspell("group", "limit", " 1;");
        for (String word : new String[] {"member", "age", "view", "size"}) {
            misspell("law", word, "");
        }
        misspell("law", "least", "[1,2]");
        misspell("law", "most", "[1,2]");
        misspell("work", "send", " 0 1;");
        for (String word : new String[] {"take", "lose", "tell", "trim", "crash", "join", "part"}) {
            misspell("work", word, " 0;");
        }
        misspell("work", "hold", ";");
        misspell("work", "view", ";");
        misspell("work", "again", " 0 [];");
    }

    /** Each letter in turn is another one, or is not there, or is there twice. */
    private static void misspell(String reader, String word, String rest) {
        Run run = three("1 what can't stand there: " + word + " with a wrong letter");
        for (int i = 0; i < word.length(); i++) {
            String head = word.substring(0, i);
            String tail = word.substring(i + 1);
            char letter = word.charAt(i);
            run.fails(reader, head + (letter == 'z' ? 'a' : (char) (letter + 1)) + tail + rest, -9, 0)
                .fails(reader, head + tail + rest, -9, 0).fails(reader, head + letter + letter + tail + rest, -9, 0);
        }
    }

    private static void faultPlaces() {
        three("FAULTS, the first from the left").faults("work", -8, "take 9;foo;", 5, "hold;take 9;take 9;", 10)
            .faults("work", -9, "foo;take 9;", 0).faults("group", -8, "member 2;limit 0;foo", 7, SIX + "limit 0;member 1;", 60)
            .faults("group", -7, SIX + "member 2;", 54);
        three("FAULTS, the first from the left, of a LAW").faults("law", -8, "1000+(", 0, "((((((1000", 6)
            .faults("law", -9, "+1000", 0, "(1;(((((((", 2).faults("law", -7, "(((((((1000", 6);
        three("FAULTS, the first from the left, of a BOOK").faults("book", -8, "3 2", 0, "0 2;0", 2).faults("book", -9, "0;9 9;", 1);
        three("FAULTS, at its first byte").faults("group", -8, "limit   0031;", 8).faults("work", -8, "send  00  01000;", 10)
            .faults("law", -8, "  0001000", 2).faults("book", -8, "0 1;  000 1;", 6);
        three("FAULTS, at its first byte: words").faults("group", -9, "   foobar 1;", 3, "limit 7  foo", 9)
            .faults("law", -9, "1+  siz", 4);
        String ends = "1 what can't stand there (at the length, if the text ends too early)";
        three(ends).faults("group", -9, "member", 6, "member ", 7, "member 1", 8, "member 1   ", 11, "limit", 5, "limit 1;member 1", 16)
            .faults("book", -9, "0", 1, "0 ", 2, "0 1", 3, "0 1 ", 4, "0 1;1", 5);
        three(ends).faults("law", -9, "", 0, "   ", 3, "1+", 2, "1+  ", 4, "(", 1, "(1", 2, "least", 5, "least[", 6, "least[1", 7,
                "least[1,", 8, "least[1,2", 9, "least[1,2 ", 10);
        three(ends).faults("work", -9, "hold", 4, "hold ", 5, "take", 4, "take 0", 6, "send 0", 6, "send 0 1", 8, "again", 5,
                "again 1", 7, "again 1[", 8, "again 1[hold;", 13, "again 1[]", 9);
        three("at the length: the text is the first n bytes alone").feed("limit 25;").due("group(7)", -9, "fault()", 7, "count(1)", 0)
            .feed("hold;").due("work(4)", -9, "fault()", 4).feed("1+2").due("law(2)", -9, "fault()", 2).feed("0 1;")
            .due("book(3)", -9, "fault()", 3).feed("take 10;").due("work(6)", -9, "fault()", 6).feed("holdx")
            .due("work(4)", -9, "fault()", 4);
    }

    private static void tooManyOpen() {
        three("a 7th of ( that is open at one time").says("law", "((((((5))))))", 1).due("member(0,5)", 5)
            .says("law", "((((((5))))))+((((((6))))))", 1).due("member(0,5)", 11)
            .faults("law", -7, "(((((((5)))))))", 6, "((((((  (", 8, "(1)+(((((((5", 10, "((((((5)+1)+(((1", 14).due("member(0,5)", 11);
        three("a 7th of least that is open at one time").says("law", times(6, "least[") + "5" + times(6, ",9]"), 1)
            .due("member(0,5)", 5).says("law", times(6, "least[9,") + "5" + times(6, "]"), 1).due("member(0,5)", 5)
            .faults("law", -7, times(7, "least["), 36, times(7, "least[9,"), 48, times(6, "(") + "least", 6, "(((((least[(", 11,
                "((((least[1,((", 13);
        three("a 7th of most that is open at one time").says("law", times(6, "most[") + "5" + times(6, ",3]"), 1).due("member(0,5)", 5)
            .says("law", times(6, "most[3,") + "5" + times(6, "]"), 1).due("member(0,5)", 5)
            .faults("law", -7, times(7, "most["), 30, times(6, "(") + " most", 7, times(6, "least[") + "most", 36, "(((((most[1,(", 12);
        three("a 7th of again that is open at one time").work(times(6, "again1[") + "tell 0;" + times(6, "];"), 1)
            .work(times(7, "again 1 [];"), 0).work(times(6, "again1[") + times(6, "];") + "again 1 [again 1 [];];", 0)
            .faults("work", -7, times(7, "again1["), 42, times(6, "again1[") + " again", 43, times(6, "again1[") + "again 61", 42,
                times(6, "again1[") + "];];" + "again1[again1[again1[", 60);
    }

    private static void ofOneTheLeast() {
        three("of one the least").faults("group", -9, times(60, "limit 5;") + "limits 5;", 480, times(60, "limit 5;") + "5;", 480,
                times(60, "limit 5;") + ";", 480).faults("law", -9, "((((((foo", 6, "((((((leastmost[", 6, "((((((1(", 7, "(((((()", 6,
                "((((((", 6).faults("work", -9, times(6, "again1[") + "agains", 42, times(6, "again1[") + "agai", 42, times(6,
                "again1[") + "1", 42);
    }

    private static void feed() {
        Run full = new Run("2 NONE, doing nothing, if there would be more than 600");
        // Thirty times the twenty bytes of "limit 7;limit 11;   ".
        for (int i = 1; i <= 30; i++) {
            full.due("feed(1818848617,1948268347,1818848617,1948266801,991961120)", 20 * i);
        }
        full.due("feed(0,0,0,0,0)", -1, "feed(-1,-1,-1,-1,-1)", -1, "count(1)", 600, "group(600)", 0, "told(11)", 11, "count(1)", 0,
                "feed(0,0,0,0,0)", 20);
        new Run("2 Twenty bytes come on the TAPE, of each number the highest first")
            .due("feed(1818848617,1948268347,538976288,538976288,538976288)", 20, "group(20)", 0, "told(11)", 7,
                "feed(538976288,538976288,538976288,538976288,538976511)", 20, "group(20)", -9, "fault()", 19,
                "feed(538976288,-14671840,538976288,538976288,538976288)", 20, "group(20)", -9, "fault()", 4);
        new Run("2 how many there are").due("count(1)", 0, "feed(0,0,0,0,0)", 20, "feed(0,0,0,0,0)", 40, "count(1)", 40);
    }

    private static void group() {
        new Run("3 IllegalArgumentException: n is not 0 to the TAPE's bytes (it stays)").group(THREE)
            .due("group(1)", IAE, "group(-1)", IAE).feed("member 1;")
            .changesNothing("group(-1)", IAE, "group(21)", IAE, "group(2147483647)", IAE, "group(-2147483648)", IAE, "count(1)", 20,
                "status(1)", 6, "fault()", -1).due("group(9)", 1, "count(1)", 0);
        new Run("3 (empty then)").feed(wide("member 1;", 100)).due("group(9)", 1, "count(1)", 0, "group(1)", IAE).feed(wide("foo", 100))
            .due("group(3)", -9, "count(1)", 0).feed(wide("member 1;", 40)).due("group(0)", 0, "count(1)", 0, "group(0)", 0);
        new Run("3 no LAW, BOOK, IMAGES, nothing to undo").group(THREE).says("law", "9", 1).says("book", "0 1;", 1).work("part 1;", 1)
            .due("image()", 1, "image()", 2).group(THREE)
            .due("member(0,5)", 1, "told(9)", 0, "fits(0)", 8, "count(0)", 0, "restore()", -1, "count(2)", 0, "undo()", -1,
                "told(6)", 0);
        new Run("3 or the FAULT less 10 (all stays)").group(THREE).says("law", "9", 1).says("book", "0 1;", 1)
            .work("part 1;join 1;", 1, 1).due("image()", 1).faults("group", -9, "foo", 0).faults("group", -8, "member 1;member 2;", 16)
            .faults("group", -7, SIX + "member 1;", 54)
            .due("told(10)", 1, "count(0)", 1, "count(2)", 1, "fits(0)", 6, "restore()", 0, "told(6)", 1, "undo()", 0, "told(6)", 0);
    }

    private static void law() {
        three("4 n is not 0 to the TAPE's bytes (it stays)").due("law(1)", IAE, "law(-1)", IAE, "law(0)", -9).feed("8")
            .changesNothing("law(-1)", IAE, "law(21)", IAE, "law(2147483647)", IAE, "law(-2147483648)", IAE, "count(1)", 20)
            .due("law(1)", 1, "count(1)", 0, "member(0,5)", 8);
        three("4 or the FAULT less 10 (all stays)").says("law", "age+6", 1).faults("law", -9, "9+", 2).faults("law", -8, "9+1000", 2)
            .faults("law", -7, "9+(((((((", 8).due("member(0,5)", 7);
        three("4 the LAW alone is another one").says("book", "0 1;", 1).work("part 1;join 1;", 1, 1).due("image()", 1)
            .says("law", "3", 1).due("told(9)", 1, "told(6)", 1, "told(10)", 1, "count(0)", 1, "count(2)", 1);
    }

    private static void work() {
        three("5 n is not 0 to the TAPE's bytes (it stays)").due("work(1)", IAE, "work(-1)", IAE).feed("part 1;")
            .changesNothing("work(-1)", IAE, "work(21)", IAE, "work(2147483647)", IAE, "work(-2147483648)", IAE, "count(1)", 20,
                "count(2)", 0).due("work(7)", 1, "count(1)", 0, "told(6)", 1, "work(0)", 0, "count(2)", 2);
        three("5 agains not counted, nor REFUSED ones").work("again 2 [part 1;again 3 [join 0;];];", 1, 7);
        three("5 or the FAULT less 10 (none is)").work("join 0;", 0, 1).faults("work", -9, "part 1;send 0 1;foo;", 16)
            .faults("work", -8, "part 1;take 3;", 12).faults("work", -7, "part 1;" + times(7, "again1["), 49)
            .due("count(2)", 1, "told(10)", 1);
        Run full = three("5 -20 ahead of that: 16 WORKS are there that were not undone");
        for (int i = 1; i < 16; i++) {
            full.work("", 0);
        }
        full.due("count(2)", 15).work("part 1;join 0;", 1, 1).due("count(2)", 16).feed("part 2;").changesNothing("work(7)", -20)
            .due("count(1)", 0, "fault()", -1).feed("foo")
            .due("work(3)", -20, "fault()", -1, "count(1)", 0, "work(0)", -20, "count(2)", 16, "told(10)", 1, "work(1)", IAE,
                "work(-1)", IAE).fails("law", "1+", -9, 2).says("work", "foo", -20).fails("book", "foo", -9, 0)
            .due("work(0)", -20, "fault()", -1).due("undo()", 15, "told(6)", 0).work("part 3;", 1).due("count(2)", 16, "work(0)", -20);
    }

    private static void book() {
        three("6 n is not 0 to the TAPE's bytes (it stays)").due("book(1)", IAE, "book(-1)", IAE).feed("0 1;")
            .changesNothing("book(-1)", IAE, "book(21)", IAE, "book(2147483647)", IAE, "book(-2147483648)", IAE, "count(1)", 20)
            .due("book(4)", 1, "count(1)", 0, "told(9)", 1, "book(0)", 0, "told(9)", 0);
        three("6 or the FAULT less 10 (all stays)").says("book", "0 1;1 0;", 2).faults("book", -9, "2 1", 3)
            .faults("book", -8, "2 1;2 1;", 4).due("told(9)", 2, "fits(0)", 2, "fits(1)", 2);
        three("6 a BOOK is in the place of the one ahead of it").says("book", "0 1;1 0;", 2).says("book", "2 0;", 1)
            .due("told(9)", 1, "fits(0)", 2, "fits(1)", 3);
    }

    private static void fault() {
        three("7 NONE without").due("fault()", -1).fails("law", "1+", -9, 2).says("law", "1", 1).fails("work", "x", -9, 0)
            .says("work", "", 0).fails("book", "x", -9, 0).says("book", "", 0).fails("group", "x", -9, 0).says("group", "", 0)
            .due("fault()", -1);
        three("7 of the latest text").fails("law", "1+", -9, 2)
            .due("fault()", 2, "law(1)", IAE, "fault()", 2, "told(-1)", IAE, "undo()", -1, "image()", 1, "restore()", 0, "fault()", 2)
            .fails("book", "0", -9, 1).due("fault()", 1);
    }
}
