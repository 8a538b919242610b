/** Term I, sentence by sentence: THE TAPE, its TOKENS, what a BOOK and a TABLE have at most. */
public final class TextBoundTests {
    private static final String A = "field a top 1 cost 1";
    private static final String B = "field b top 1 cost 1";
    private static final String[] KEYS = {"field", "never", "and", "count", "sum", "by", "where"};
    private static final int BLANKS = 0x20202020;
    private static final Checks CHECKS = new Checks("TextBoundTests");
    private static final Twins TWINS = new Twins(CHECKS, () -> Desk.with(A + ";" + B + "; never a = 1 and b = 1"));

    public static void main(String[] args) {
        tape();
        tapeBehindOneRefused();
        blanks();
        everyByteBehindAToken();
        everyByteInAName();
        letters();
        lettersTellApart();
        digits();
        singleOnes();
        lines();
        lineOfAField();
        lineOfARule();
        tops();
        costs();
        things();
        keysAreNoNames();
        wordsNearKeysAreNames();
        sixFields();
        twelveRules();
        twelveOnes();
        twelveOnesOfEachTest();
        textsStandAlone();
        space();
        tableText();
        tableOrder();
        CHECKS.close();
    }

    private static void taken(String text, int fields) {
        Desk desk = new Desk();
        CHECKS.dueWith(desk.x, "book of " + text, desk.book(text), fields, 0);
        CHECKS.due("fault() of " + text, desk.x.fault(), 0);
        CHECKS.due("where() of " + text, desk.x.where(), -1);
        CHECKS.due("count(0) of " + text, desk.x.count(0), fields);
    }

    private static void faulty(String text, int fault, int place) {
        TWINS.faulty(true, text, fault, place);
    }

    private static void tableTaken(String text) {
        Desk desk = Desk.with(A + ";" + B);
        CHECKS.dueWith(desk.x, "table of " + text, desk.table(text), 0, 0);
        CHECKS.due("fault() of " + text, desk.x.fault(), 0);
        CHECKS.due("count(3) of " + text, desk.x.count(3), 1);
    }

    private static void tableFaulty(String text, int fault, int place) {
        TWINS.faulty(false, text, fault, place);
    }

    private static int feedBlanks(CountOffice x) {
        return x.feed(BLANKS, BLANKS, BLANKS, BLANKS, BLANKS);
    }

    private static void tape() {
        CHECKS.sentence("Term I and promise 2", "THE TAPE has 500 bytes; NONE, and none comes, if there would be more than 500");
        CountOffice x = new CountOffice();
        CHECKS.due("count(10) at first", x.count(10), 0);
        for (int k = 1; k <= 24; k++) {
            CHECKS.due("feed " + k, feedBlanks(x), 20 * k);
        }
        CHECKS.due("feed 25", x.feed(0x6669656c, 0x64206120, 0x746f7020, 0x3220636f, 0x73742031), 500);
        for (int k = 0; k < 3; k++) {
            CHECKS.due("feed 26", x.feed(-1, -1, -1, -1, -1), -1);
            CHECKS.due("count(10)", x.count(10), 500);
        }
        CHECKS.due("trouble()", x.trouble(), 0);
        CHECKS.due("the bytes stay: book(500)", x.book(500), 1);
        CHECKS.due("field(0, 0)", x.field(0, 0), 2);
        CHECKS.due("count(10)", x.count(10), 0);
        CHECKS.due("a feed behind it", feedBlanks(x), 20);
    }

    private static void tapeBehindOneRefused() {
        CHECKS.sentence("Promise 2", "Twenty bytes come behind THE TAPE, of each number the highest first");
        CountOffice x = new CountOffice();
        CHECKS.due("feed", x.feed(0x6669656c, 0x64206120, 0x746f7020, 0x3120636f, 0x73742031), 20);
        CHECKS.due("feed of 128 to 255", x.feed(0x80ff9fe1, 0xfae3e0db, 0x61616161, 0x20202020, 0x7b606162), 40);
        CHECKS.due("book(40)", x.book(40), -1);
        CHECKS.due("the first of the bytes above 127", x.where(), 20);
        CHECKS.due("feed of 19 blanks", x.feed(0x3b202020, BLANKS, BLANKS, BLANKS, BLANKS), 20);
        CHECKS.due("feed", x.feed(0x6669656c, 0x64206120, 0x746f7020, 0x3120636f, 0x73742031), 40);
        CHECKS.due("book(40)", x.book(40), -1);
        CHECKS.due("the first byte", x.where(), 0);
    }

    private static void blanks() {
        CHECKS.sentence("Term I", "blanks, 32, part TOKENS and mean nothing else");
        taken("field a top1cost1", 1);
        taken("     field     a     top     1     cost     1     ", 1);
        taken("field a top1cost1;never a=0;never a>0 and a<2", 1);
        faulty("fielda top 1 cost 1", 1, 0);
        faulty("fi eld a top 1 cost 1", 1, 0);
        faulty("field a to p 1 cost 1", 1, 8);
        faulty("field a topcost 1", 1, 8);
        faulty("field a top 1 1 cost 1", 1, 14);
        faulty("field a b top 1 cost 1", 1, 8);
        faulty(A + "; never a = 1 and a = 1 1", 1, 44);
        faulty(A + "; never a = 1and", 1, 36);
        tableTaken(" count  by  a ,  b  where  a = 1 ");
        tableTaken("count by a,b where a=1and b=0");
        tableFaulty("coun t", 1, 0);
        tableFaulty("countby a", 1, 0);
        tableFaulty("count by ab", 2, 9);
    }

    /** Each byte there is, behind a BOOK that could end there. */
    private static void everyByteBehindAToken() {
        CHECKS.sentence("Term I", "FORM: the first byte that begins no TOKEN, or TOKEN with which no BOOK goes on");
        for (int sign = 0; sign < 256; sign++) {
            String text = A + (char) sign;
            if (sign == ' ') {
                taken(text, 1);
            } else if (sign == ';') {
                faulty(text, 1, 21);
            } else if (sign >= '0' && sign <= '9') {
                faulty(text, 4, 19);
            } else {
                faulty(text, 1, 20);
            }
        }
    }

    /** Each byte there is, as a NAME of one letter. */
    private static void everyByteInAName() {
        CHECKS.sentence("Term I", "WORDS of 1 to 8 small letters that stand together");
        for (int sign = 0; sign < 256; sign++) {
            String text = "field " + (char) sign + " top 1 cost 1";
            if (sign >= 'a' && sign <= 'z') {
                taken(text, 1);
            } else {
                // A blank makes top the NAME, and then 1 stands where top should.
                faulty(text, 1, sign == ' ' ? 12 : 6);
            }
        }
    }

    private static void letters() {
        CHECKS.sentence("Term I", "WORDS of 1 to 8 small letters that stand together: 8 and 9");
        taken("field abcdefgh top 1 cost 1; never abcdefgh = abcdefgh", 1);
        faulty("field abcdefghi top 1 cost 1", 1, 6);
        faulty("field abcdefgh i top 1 cost 1", 1, 15);
        faulty("field aaaaaaaaaaaaaaaaaaaaaaaaaaaa", 1, 6);
        faulty("field abcdefgh top 1 cost 1; never abcdefghi = 1", 1, 35);
        faulty("field abcdefgh top 1 cost 1; never abcdefgh = abcdefghi", 1, 46);
        faulty("neverrrrr a = 1", 1, 0);
        tableFaulty("countcount", 1, 0);
        tableFaulty("sum abcdefghi", 1, 4);
        tableFaulty("count by abcdefghi", 1, 9);
        tableFaulty("sum abcdefgh", 2, 4);
    }

    private static void lettersTellApart() {
        CHECKS.sentence("Term I", "3 a NAME of a FIELD told again: all 8 letters count");
        taken("field abcdefgh top 1 cost 1; field abcdefgi top 1 cost 1; field bbcdefgh top 1 cost 1;"
                + "field abcdefg top 1 cost 1; field bcdefgh top 1 cost 1; field a top 1 cost 1", 6);
        faulty("field abcdefgh top 1 cost 1; field abcdefgh top 1 cost 1", 3, 35);
        faulty("field abcdefgh top 1 cost 1; never abcdefgi = 1", 2, 35);
    }

    private static void digits() {
        CHECKS.sentence("Term I", "WHOLES of 1 to 4 digits that do: 4 and 5");
        taken("field a top 1 cost 01; never a = 001 and a < 0001", 1);
        taken("field a top 0009 cost 0009; never a = 0099", 1);
        faulty("field a top 00009 cost 1", 1, 12);
        faulty("field a top 9 cost 00009", 1, 19);
        faulty(A + "; never a = 00001", 1, 32);
        faulty(A + "; never a = 0001 1", 1, 37);
        faulty("field a top 9999 cost 1", 4, 12);
        faulty("field a top 10000 cost 1", 1, 12);
        faulty(A + "; never a = 9999", 4, 32);
        faulty(A + "; never a = 10000", 1, 32);
        faulty(A + "; never a = 99999999999999999999", 1, 32);
        // 2^32 and 1 more would be a 1, if digits were lost.
        faulty("field a top 4294967297 cost 1", 1, 12);
        tableTaken("count where a = 0000");
        tableFaulty("count where a = 00000", 1, 16);
    }

    private static void singleOnes() {
        CHECKS.sentence("Term I", "single ones of ; , = < >");
        taken(A + ";never a=1;never a<1;never a>1", 1);
        tableTaken("count by a,b where a<b and a=b and a>b");
        for (String two : new String[] {"==", "<=", ">=", "<>", "=<", "=>", "><", "<<", ">>", "=,", "=;"}) {
            faulty(A + ";never a" + two + "1", 1, 29);
        }
        for (String other : new String[] {"!", "#", "*", "+", "-", ".", "/", ":", "?", "@", "\\", "|", "~", "\0", "\t"}) {
            faulty(A + ";never a" + other + "1", 1, 28);
        }
        faulty(A + ";;" + B, 1, 21);
        faulty(A + "," + B, 1, 20);
        faulty(A + "=" + B, 1, 20);
        tableFaulty("count by a,,b", 1, 11);
        tableFaulty("count by a;b", 1, 10);
        tableFaulty("count by a=b", 1, 10);
    }

    private static void lines() {
        CHECKS.sentence("Term I", "BOOK: LINE {; LINE}");
        taken(A, 1);
        taken(A + ";" + B, 2);
        taken(A + ";never a=1;" + B + ";never b=1", 2);
        faulty("", 1, 0);
        faulty(";" + A, 1, 0);
        faulty(A + ";", 1, 21);
        faulty(A + " " + B, 1, 21);
        faulty(A + ";" + B + ";", 1, 42);
        faulty(A + ";never a=1 never a=1", 1, 31);
    }

    private static void lineOfAField() {
        CHECKS.sentence("Term I", "LINE: field NAME top WHOLE cost WHOLE");
        taken(A, 1);
        int[] place = {0, 6, 8, 12, 14, 19};
        String[] parts = {"field", "a", "top", "1", "cost", "1"};
        for (int cut = 0; cut < parts.length; cut++) {
            StringBuilder start = new StringBuilder();
            for (int k = 0; k < cut; k++) {
                start.append(parts[k]).append(' ');
            }
            faulty(start + ";", 1, place[cut]);
            faulty(start.toString(), 1, place[cut]);
        }
        faulty("top a field 1 cost 1", 1, 0);
        faulty("field a cost 1 top 1", 1, 8);
        faulty("field 1 top 1 cost 1", 1, 6);
        faulty("field a top = cost 1", 1, 12);
        faulty("field a top 1, cost 1", 1, 13);
    }

    private static void lineOfARule() {
        CHECKS.sentence("Term I", "never TEST. TEST: ONE {and ONE}. ONE: NAME = THING, NAME < THING, NAME > THING. THING: WHOLE or NAME");
        taken(A + ";never a=1", 1);
        taken(A + ";never a<a and a>a and a=0", 1);
        faulty(A + ";never", 1, 26);
        faulty(A + ";never a", 1, 28);
        faulty(A + ";never a=", 1, 29);
        faulty(A + ";never a=1 and", 1, 34);
        faulty(A + ";never a=1 and and a=1", 1, 35);
        faulty(A + ";never and a=1", 1, 27);
        faulty(A + ";never a=1,a=1", 1, 30);
        faulty(A + ";never 1=a", 1, 27);
        faulty(A + ";never 1=1", 1, 27);
        faulty(A + ";never a=a=a", 1, 30);
        faulty(A + ";never =1", 1, 27);
    }

    private static void tops() {
        CHECKS.sentence("Term I", "top 1 .. 9");
        for (int top = 1; top <= 9; top++) {
            Desk desk = Desk.with("field a top " + top + " cost 1");
            CHECKS.due("field(0, 0) of top " + top, desk.x.field(0, 0), top);
        }
        faulty("field a top 0 cost 1", 4, 12);
        faulty("field a top 00 cost 1", 4, 12);
        faulty("field a top 10 cost 1", 4, 12);
        faulty("field a top 99 cost 1", 4, 12);
        faulty(A + "; field b top 0 cost 1", 4, 34);
        faulty(A + "; field b top 10 cost 1", 4, 34);
    }

    private static void costs() {
        CHECKS.sentence("Term I", "cost 1 .. 9");
        for (int cost = 1; cost <= 9; cost++) {
            Desk desk = Desk.with("field a top 1 cost " + cost);
            CHECKS.due("field(0, 1) of cost " + cost, desk.x.field(0, 1), cost);
        }
        faulty("field a top 1 cost 0", 4, 19);
        faulty("field a top 1 cost 10", 4, 19);
        faulty("field a top 1 cost 9999", 4, 19);
        faulty(A + "; field b top 1 cost 0", 4, 41);
        faulty(A + "; field b top 1 cost 10", 4, 41);
    }

    private static void things() {
        CHECKS.sentence("Term I", "THING: WHOLE (0 .. 99)");
        taken(A + ";never a=0", 1);
        taken(A + ";never a=99 and a<99 and a>99", 1);
        faulty(A + ";never a=100", 4, 29);
        faulty(A + ";never a<0100", 4, 29);
        faulty(A + ";never a>9999", 4, 29);
        faulty(A + ";never a=1 and a=100", 4, 37);
        tableTaken("count where a=0 and a<99");
        tableFaulty("count where a=100", 4, 14);
        tableFaulty("count where a=0 and a>100", 4, 22);
    }

    private static void keysAreNoNames() {
        CHECKS.sentence("Term I", "NAMES are WORDS but field, never, and, count, sum, by, where");
        for (String key : KEYS) {
            faulty("field " + key + " top 1 cost 1", 1, 6);
            faulty(A + ";never " + key + "=1", 1, 27);
            faulty(A + ";never a=" + key, 1, 29);
            tableFaulty("sum " + key, 1, 4);
            tableFaulty("count by " + key, 1, 9);
            tableFaulty("count by a," + key, 1, 11);
            tableFaulty("count where " + key + "=1", 1, 12);
            tableFaulty("count where a=" + key, 1, 14);
        }
    }

    private static void wordsNearKeysAreNames() {
        CHECKS.sentence("Term I", "NAMES are WORDS but those: all others are, top and cost too");
        for (String key : KEYS) {
            wordIsName(key + "s");
            wordIsName(key.substring(1));
            wordIsName("x" + key);
            if (key.length() > 2) {
                wordIsName(key.substring(0, key.length() - 1));
            }
        }
        for (String word : new String[] {"top", "cost", "book", "table", "b", "yb", "order", "or", "not"}) {
            wordIsName(word);
        }
        taken("field top top 1 cost 1; field cost top 1 cost 1; never top = cost and cost < top", 2);
    }

    private static void wordIsName(String word) {
        Desk desk = Desk.with("field " + word + " top 1 cost 1; field q top 1 cost 1; never " + word + " = " + word);
        CHECKS.due("RULES with " + word, desk.x.count(1), 1);
        CHECKS.due("sum " + word, desk.table("sum " + word + " by q," + word + " where " + word + "=1"), 0);
    }

    private static String fieldsUpTo(char last) {
        StringBuilder text = new StringBuilder();
        for (char name = 'a'; name <= last; name++) {
            text.append(name == 'a' ? "" : ";").append("field ").append(name).append(" top 1 cost 1");
        }
        return text.toString();
    }

    private static void sixFields() {
        CHECKS.sentence("Term I", "Up to 6 FIELDS; a seventh FIELD, at its NAME");
        for (int fields = 1; fields <= 6; fields++) {
            taken(fieldsUpTo((char) ('a' + fields - 1)), fields);
        }
        String six = fieldsUpTo('f');
        faulty(fieldsUpTo('g'), 5, six.length() + 7);
        faulty(six + ";field g", 5, six.length() + 7);
        faulty(six + ";field", 1, six.length() + 6);
        faulty(six + ";never a=1;never b=1;field g top 1 cost 1", 5, six.length() + 27);
        Desk desk = Desk.with(six);
        CHECKS.due("field(5, 0)", desk.x.field(5, 0), 1);
        CHECKS.due("sum f by f, a", desk.table("sum f by f, a where e = f"), 0);
    }

    private static void twelveRules() {
        CHECKS.sentence("Term I", "12 RULES (never); a thirteenth never, at it");
        for (int rules = 0; rules <= 12; rules++) {
            Desk desk = Desk.with(A + ";never a=1".repeat(rules));
            CHECKS.due("count(1) of " + rules, desk.x.count(1), rules);
        }
        String twelve = A + ";never a=1".repeat(12);
        faulty(twelve + ";never a=1", 5, twelve.length() + 1);
        faulty(twelve + ";never", 5, twelve.length() + 1);
        faulty(twelve + ";neve", 1, twelve.length() + 1);
        faulty(twelve + "; " + B + "; never a=1", 5, twelve.length() + B.length() + 4);
        taken(twelve + "; " + B, 2);
        Desk desk = Desk.with("field a top 9 cost 1" + ";never a=9".repeat(11) + ";never a=8");
        desk.row(8);
        CHECKS.due("of(0, 6): the twelfth counts", desk.x.of(0, 6), 11);
    }

    private static void twelveOnes() {
        CHECKS.sentence("Term I", "12 ONES in a TEST; a thirteenth ONE, at its NAME");
        for (int ones = 1; ones <= 12; ones++) {
            taken(A + ";never a=1" + " and a=1".repeat(ones - 1), 1);
        }
        String twelve = A + ";never a=1" + " and a=1".repeat(11);
        faulty(twelve + " and a=1", 5, twelve.length() + 5);
        faulty(twelve + " and a", 5, twelve.length() + 5);
        faulty(twelve + " and", 1, twelve.length() + 4);
        String where = "count where a=1" + " and a=1".repeat(11);
        tableTaken(where);
        tableFaulty(where + " and a=1", 5, where.length() + 5);
        tableFaulty(where + " and a", 5, where.length() + 5);
        tableFaulty(where + " and", 1, where.length() + 4);
        Desk desk = Desk.with("field a top 9 cost 1");
        desk.table("count where a>0" + " and a>0".repeat(10) + " and a>7");
        desk.row(7);
        desk.row(8);
        CHECKS.due("the twelfth counts", desk.x.figure(0, 0, 0, 0, 0), 1);
    }

    private static void twelveOnesOfEachTest() {
        CHECKS.sentence("Term I", "12 ONES in a TEST: of each TEST anew");
        String ones = "never a=1" + " and a=1".repeat(11);
        taken(A + ";" + ones + ";" + ones + ";" + ones + ";" + ones, 1);
        Desk desk = Desk.with(A);
        String where = "count where a=1" + " and a=1".repeat(11);
        for (int round = 0; round < 4; round++) {
            CHECKS.due("a TABLE", desk.table(where), 0);
            CHECKS.due("another one", desk.table(where), 1);
            CHECKS.due("one too much", desk.table(where + " and a=1"), -1);
            CHECKS.due("and another one", desk.table(where), 2);
            CHECKS.due("another BOOK", desk.book(A + ";" + ones), 1);
            CHECKS.due("one too much", desk.book(A + ";" + ones + " and a=1"), -1);
        }
    }

    private static void textsStandAlone() {
        CHECKS.sentence("Term I", "THE TEXT of a BOOK; of a TABLE: what another text told is of no matter");
        Desk desk = Desk.with("field a top 9 cost 9;field b top 9 cost 9" + ";never a=1".repeat(12));
        for (int round = 0; round < 4; round++) {
            CHECKS.due("12 RULES", desk.book(A + ";" + B + ";never a=1".repeat(12)), 2);
            CHECKS.due("too many", desk.book(A + ";never a=0".repeat(13)), -1);
            CHECKS.due("RULES", desk.x.count(1), 12);
            CHECKS.due("FIELDS", desk.x.count(0), 2);
            CHECKS.due("a RULE", desk.book(A + ";never a=1"), 1);
            CHECKS.due("RULES", desk.x.count(1), 1);
            desk.row(0);
            CHECKS.due("of(0, 1)", desk.x.of(0, 1), 0);
            CHECKS.due("a FAULT at the end", desk.table("sum a by a where a=1;"), -1);
            CHECKS.due("count", desk.table("count"), 0);
            CHECKS.due("figure(0, 0, 0, 0, 0)", desk.x.figure(0, 0, 0, 0, 0), 1);
            CHECKS.dueWith(desk.x, "without by", desk.x.figure(0, 1, 0, 0, 0), Checks.NO_FIGURE, 1);
        }
    }

    private static String tops(int... tops) {
        StringBuilder text = new StringBuilder();
        for (int f = 0; f < tops.length; f++) {
            text.append(f == 0 ? "" : ";").append("field ").append((char) ('a' + f)).append(" top ").append(tops[f])
                    .append(" cost 1");
        }
        return text.toString();
    }

    private static void space() {
        CHECKS.sentence("Term I", "The SPACE: the product of all tops, 1 more each: 20,000 at most; a top with which it is too much, at it (behind 4)");
        taken(tops(9, 9, 9, 9, 1), 5);
        taken(tops(9, 9, 9, 4, 3), 5);
        taken(tops(4, 1, 9, 9, 9, 1), 6);
        taken(tops(6, 6, 6, 6, 7), 5);
        // 10 by 9 by 8 by 7 by 4 are 20,160: the least above that there is.
        faulty(tops(9, 8, 7, 6, 3), 5, 21 * 4 + 12);
        faulty(tops(3, 6, 7, 8, 9), 5, 21 * 4 + 12);
        faulty(tops(9, 9, 9, 9, 2), 5, 21 * 4 + 12);
        faulty(tops(4, 1, 9, 9, 9, 2), 5, 21 * 5 + 12);
        faulty(tops(9, 9, 9, 9, 9, 9), 5, 21 * 4 + 12);
        faulty(tops(9, 9, 9, 9) + ";field e top 9", 5, 21 * 4 + 12);
        faulty(tops(9, 9, 9, 9) + ";field e top 0 cost 1", 4, 21 * 4 + 12);
        faulty(tops(9, 9, 9, 9) + ";field e top 10 cost 1", 4, 21 * 4 + 12);
        Desk desk = Desk.with(tops(9, 9, 9, 9, 1));
        CHECKS.due("of each BOOK anew", desk.book(tops(9, 9, 9, 9, 1)), 5);
        CHECKS.due("behind one with too much, too", desk.book(tops(9, 9, 9, 9, 9)), -1);
        CHECKS.due("behind one with too much, too", desk.book(tops(9, 9, 9, 9, 1)), 5);
    }

    private static void tableText() {
        CHECKS.sentence("Term I", "count or sum NAME, then perhaps by NAME, or by NAME , NAME (not the same), then perhaps where TEST");
        for (String what : new String[] {"count", "sum a", "sum b"}) {
            for (String by : new String[] {"", " by a", " by b", " by a,b", " by b,a"}) {
                for (String where : new String[] {"", " where a=1", " where a=b and b>0"}) {
                    tableTaken(what + by + where);
                }
            }
        }
        tableFaulty("count by a,a", 3, 11);
        tableFaulty("sum b by b,b where a=1", 3, 11);
    }

    private static void tableOrder() {
        CHECKS.sentence("Term I", "TOKEN with which no TABLE goes on");
        tableFaulty("", 1, 0);
        tableFaulty("a", 1, 0);
        tableFaulty("by a", 1, 0);
        tableFaulty("where a=1", 1, 0);
        tableFaulty("sum", 1, 3);
        tableFaulty("sum 1", 1, 4);
        tableFaulty("sum a,b", 1, 5);
        tableFaulty("count sum a", 1, 6);
        tableFaulty("count by", 1, 8);
        tableFaulty("count by 1", 1, 9);
        tableFaulty("count by a b", 1, 11);
        tableFaulty("count by a,", 1, 11);
        tableFaulty("count by a,b,a", 1, 12);
        tableFaulty("count by a by b", 1, 11);
        tableFaulty("count where", 1, 11);
        tableFaulty("count where a=1 by a", 1, 16);
        tableFaulty("count where a=1 where a=1", 1, 16);
        tableFaulty("count where a=1;", 1, 15);
        tableFaulty("count never a=1", 1, 6);
        tableFaulty(A, 1, 0);
        faulty("count", 1, 0);
        faulty("count by a", 1, 0);
    }
}
