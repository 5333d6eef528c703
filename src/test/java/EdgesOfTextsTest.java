/** The edges that the document names for promises 23 to 27, a sentence a test. */
public final class EdgesOfTextsTest {
    private static final int BAD = ThirstLead.BAD, FULL = ThirstLead.FULL, NONE = ThirstLead.NONE;
    private static final int LEAST = Integer.MIN_VALUE, MOST = Integer.MAX_VALUE;

    public static void main(String[] args) throws Exception {
        Edges.run(EdgesOfTextsTest.class);
    }

    /** With this on the tape, text() tells a FAULT at a place. */
    private static void fault(String tape, int place) {
        ThirstLead x = new ThirstLead();
        Due.is("text() of '" + tape + "'", Due.textOf(x, tape), -100 - place);
        Due.is("TEXTS behind '" + tape + "'", x.count(6), 0);
        Due.is("THE TAPE behind '" + tape + "'", x.count(8), 0);
    }

    private static void good(String tape) {
        ThirstLead x = new ThirstLead();
        Due.is("text() of '" + tape + "'", Due.textOf(x, tape), 0);
        Due.is("TEXTS behind '" + tape + "'", x.count(6), 1);
        Due.is("THE TAPE behind '" + tape + "'", x.count(8), 0);
    }

    private static void gives(String e, int want) {
        ThirstLead x = new ThirstLead();
        Due.is("text() of 'fee " + e + "'", Due.textOf(x, "fee " + e), 0);
        Due.is("fee " + e, x.fee(), want);
    }

    private static ThirstLead fourteen() {
        ThirstLead x = new ThirstLead();
        for (int i = 0; i < 14; i++) {
            Due.textOf(x, "fee " + i);
        }
        return x;
    }

    // ---- 23, feed

    @Says("Twelve bytes come to THE TAPE, the highest of each number first: how many it has.")
    private static void promise23_theHighestByteFirst() {
        ThirstLead x = new ThirstLead();
        // "fee 12+345*6"
        Due.is("feed", x.feed(0x66656520, 0x31322b33, 0x34352a36), 12);
        Due.is("text()", x.text(), 0);
        Due.is("fee()", x.fee(), 12 + 345 * 6);
        // Bytes of 128 and more are signs that are in no TEXT: "fee d", then 255, 128.
        x.feed(0x66656520, 0x64ff8020, 0x20202020);
        Due.is("a FAULT at byte 255", x.text(), -105);
        x.feed(0x66656520, 0x64208020, 0x20202020);
        Due.is("a FAULT at byte 128", x.text(), -106);
        x.feed(0x80666565, 0x20642020, 0x20202020);
        Due.is("a FAULT at the first byte", x.text(), -100);
    }

    @Says({"THE TAPE (96 bytes at most", "FULL: it would have more than 96."})
    private static void promise23_notMoreThan96() {
        ThirstLead x = new ThirstLead();
        for (int i = 1; i <= 8; i++) {
            Due.is("feed " + i, x.feed(0x20202020, 0x20202020, 0x20202020), 12 * i);
        }
        Due.is("96 and 12", x.feed(0, 0, 0), FULL);
        x.trim(85);
        Due.is("85 and 12", x.feed(0, 0, 0), FULL);
        Due.is("bytes", x.count(8), 85);
        x.trim(84);
        Due.is("84 and 12", x.feed(0, 0, 0), 96);
        Twins.Made full = () -> {
            ThirstLead y = Bands.rich(4);
            y.trim(0);
            Due.feedText(y, "fee 5" + " ".repeat(80));
            return y;
        };
        Twins.changesNothing("feed with 85 bytes", full, y -> y.feed(1, 2, 3), FULL);
    }

    @Says("Twelve bytes come to THE TAPE")
    private static void promise23_bytesComeBehindThoseThatAreThere() {
        ThirstLead x = new ThirstLead();
        x.feed(0x66656520, 0x39393939, 0x39393939);
        x.trim(5);
        Due.is("5 and 12", x.feed(0x2b312020, 0x20202020, 0x20202020), 17);
        Due.is("text()", x.text(), 0);
        Due.is("9 and 1", x.fee(), 10);
    }

    // ---- 24, trim

    @Says("THE TAPE keeps its first n bytes: n. BAD.")
    private static void promise24_badNumbers() {
        int[] bad = {-1, 10, LEAST, MOST};
        for (int n : bad) {
            Twins.changesNothing("trim(" + n + ") of 9 bytes", () -> Bands.rich(4), x -> x.trim(n), BAD);
        }
        Due.is("trim(1) of none", new ThirstLead().trim(1), BAD);
    }

    @Says("THE TAPE keeps its first n bytes: n.")
    private static void promise24_fromNoneToAll() {
        Due.is("trim(0) of none", new ThirstLead().trim(0), 0);
        Twins.changesNothing("trim(9) of 9 bytes", () -> Bands.rich(4), x -> x.trim(9), 9);
        ThirstLead x = new ThirstLead();
        Due.feedText(x, "fee 123" + " ".repeat(89));
        Due.is("trim(96)", x.trim(96), 96);
        Due.is("trim(6)", x.trim(6), 6);
        Due.is("bytes", x.count(8), 6);
        Due.is("text()", x.text(), 0);
        Due.is("the first ones are kept", x.fee(), 12);
        Due.feedText(x, "fee 5");
        Due.is("trim(0)", x.trim(0), 0);
        Due.is("text() of nothing", x.text(), -100);
    }

    // ---- 25, text

    @Says("the end (the place behind the last byte), if it comes too soon.")
    private static void promise25_theEndComesTooSoon() {
        fault("", 0);
        fault(" ", 1);
        fault(" ".repeat(96), 96);
        fault("fee", 3);
        fault("fee ", 4);
        fault("thirst", 6);
        fault("fine   ", 7);
        fault("fee !", 5);
        fault("fee (", 5);
        fault("fee (1", 6);
        fault("fee (1 ", 7);
        fault("fee ((1)", 8);
        String signs = "|&<=>+-*/";
        for (int i = 0; i < signs.length(); i++) {
            fault("fee 1" + signs.charAt(i), 6);
            fault("fee 1" + signs.charAt(i) + "  ", 8);
        }
        fault("fee 1" + "+1".repeat(45) + "+", 96);
    }

    @Says("KEY: thirst | fee | fine.")
    private static void promise25_theKeyComesFirst() {
        good("thirst 1");
        good("fee 1");
        good("fine 1");
        String[] none = {"thirs 1", "thirstt 1", "fe 1", "feee 1", "fin 1", "finee 1", "t 1", "d", "1", "12345", "(fee 1)", "+", "Fee 1", "!1"};
        for (String tape : none) {
            fault(tape, 0);
        }
        String[] keys = {"thirst", "fee", "fine"};
        for (String key : keys) {
            for (int i = 0; i < key.length(); i++) {
                fault(key.substring(0, i) + "x" + key.substring(i + 1) + " 1", 0);
            }
        }
        fault("  fees 1", 2);
        fault("fee fee", 4);
        fault("fee fine 1", 4);
    }

    @Says({"PIECE: NUMBER (1 to 4 digits) | NAME | ! PIECE | ( E ).", "a NUMBER of more than 4 digits"})
    private static void promise25_aNumberHasOneToFourDigits() {
        gives("0", 0);
        gives("9", 9);
        gives("0000", 0);
        gives("0009", 9);
        gives("9999", 9999);
        fault("fee 10000", 4);
        fault("fee 00000", 4);
        fault("fee 1+12345", 6);
        fault("fee 123456789012", 4);
        fault("fee 1 1", 6);
        fault("fee ()", 5);
        fault("fee (1)(2)", 7);
        fault("fee 1!", 5);
    }

    @Says("NAMES, each one letter: of thirst h HEAT, s SKIN, t THIRST; of fee d DEATHS, l LOST")
    private static void promise25_namesAreOfTheirKey() {
        String[] keys = {"thirst", "fee", "fine"};
        String[] names = {"hst", "dl", "sl"};
        for (int i = 0; i < keys.length; i++) {
            for (char c = 'a'; c <= 'z'; c++) {
                String tape = keys[i] + " " + c;
                if (names[i].indexOf(c) >= 0) {
                    good(tape);
                } else {
                    fault(tape, keys[i].length() + 1);
                }
            }
        }
        fault("thirst hh", 7);
        fault("fee dl", 4);
        fault("fine H", 5);
    }

    @Says("A word is a row of letters a .. z, or of digits, as long as it goes; any other byte is a sign by itself.")
    private static void promise25_wordsEndAtTheLettersAndDigitsEdges() {
        // The bytes right beside a .. z and 0 .. 9 are no parts of words.
        fault("fee`", 3);
        fault("fee{", 3);
        fault("`fee 1", 0);
        fault("fee 1:", 5);
        good("fee 1/2");
        fault("fee :", 4);
        fault("fee 1" + (char) 0, 5);
        fault("fee 1\t", 5);
        fault("fee 1\n", 5);
        fault("fee 1" + (char) 31, 5);
        fault("fee" + (char) 33 + (char) 34 + "1", 4);
        good("fee" + (char) 33 + "1");
        fault("fee 1" + (char) 160, 5);
        fault("fee A", 4);
        gives("10", 10);
        gives("9", 9);
    }

    @Says({"Between words and signs, and at the ends, there may be blanks (byte 32); a word right behind another one needs one.",
        "(a word that needs a blank ahead of it"})
    private static void promise25_blanks() {
        good("   fee   (  1  +  !  d  )  *  2   ");
        good("fee(1)");
        good("fee!1");
        good("fee 1<d");
        fault("fee1", 3);
        fault("fee12345", 3);
        fault("1fee", 0);
        fault("fee 1d", 5);
        fault("fee d1", 5);
        fault("thirst5 h", 6);
        good("fee d" + " ".repeat(91));
        good(" ".repeat(91) + "fee 1");
        fault(" ".repeat(92) + "fee ", 96);
        fault("f ee 1", 0);
        fault("fee 1 0", 6);
    }

    @Says("FAULT: the first byte of the first word or sign with which no TEXT goes on")
    private static void promise25_theFirstThatDoesNotGoOn() {
        fault("fee ) )", 4);
        fault("fee   +", 6);
        fault("fee 1   )", 8);
        fault("fee (1))", 7);
        fault("fee (1", 6);
        fault("fee 1 ++ 1", 7);
        fault("fee 1 *+ 1", 7);
        fault("fee !)", 5);
        fault("fee !+1", 5);
        fault("fee 1 + dd + 12345", 8);
        fault("fee (1+)", 7);
        fault("fee 1&&1", 6);
        fault("fee 1||1", 6);
        fault("fee 1%2", 5);
    }

    @Says("TEST: SUM [ (< | = | >) SUM ]")
    private static void promise25_oneSignInATest() {
        good("fee 1<2");
        fault("fee 1<2<3", 7);
        fault("fee 1=2=3", 7);
        fault("fee 1>2+3=4", 9);
        fault("fee 1<=2", 6);
        fault("fee <1", 4);
        good("fee 1<2&2<3|3=4");
        fault("fee 1<2&2<3<4", 11);
        good("fee (1<2)<3");
        good("fee 1<(2<3)");
        fault("fee (1<2<3)", 8);
    }

    @Says("the ninth ( that would be open within others")
    private static void promise25_eightBracketsAreOpenAtMost() {
        good("fee " + "(".repeat(8) + "1" + ")".repeat(8));
        fault("fee " + "(".repeat(9) + "1" + ")".repeat(9), 12);
        fault("fee " + "(".repeat(9), 12);
        fault("fee " + "(".repeat(92), 12);
        good("fee (1)+(1)+(1)+(1)+(1)+(1)+(1)+(1)+(1)+(1)");
        good("fee ((((((((1))))))))+((((((((1))))))))");
        fault("fee (((((((1)+(((1)))))))))", 16);
        fault("fee " + "(1+".repeat(8) + "(1" + ")".repeat(9), 28);
    }

    @Says("the ninth ! likewise, each by itself")
    private static void promise25_eightNotsAreOpenAtMost() {
        good("fee " + "!".repeat(8) + "1");
        fault("fee " + "!".repeat(9) + "1", 12);
        fault("fee " + "!".repeat(92), 12);
        good("fee " + "!".repeat(8) + "1+" + "!".repeat(8) + "1");
        good("fee " + "!".repeat(8) + "(".repeat(8) + "1" + ")".repeat(8));
        good("fee " + "!(".repeat(8) + "1" + ")".repeat(8));
        fault("fee " + "!(".repeat(8) + "!1" + ")".repeat(8), 20);
        fault("fee " + "!(".repeat(8) + "(1)" + ")".repeat(8), 20);
        good("fee !!!!!!!!(1)+!!!!!!!!(1)");
        good("fee !!!!!!!(!1)+!!!!!!!(!1)");
        fault("fee !!!!!!!(1+!!1)", 15);
    }

    @Says("Ints wrap; / is 0 by 0; tests, & | ! give 1 or 0 (what is not 0 is true; both sides are worked out).")
    private static void promise25_intsWrapAndNothingIsDividedBy0() {
        gives("9999*9999*99", 9999 * 9999 * 99);
        gives("9999*9999*21+9999*9999", 9999 * 9999 * 22);
        // 65536 * 65536 / 2 is the least int; by -1 it stays so.
        gives("256*256*256*128", LEAST);
        gives("256*256*256*128-1", MOST);
        gives("256*256*256*128/(0-1)", LEAST);
        gives("0-256*256*256*128", LEAST);
        gives("7/0", 0);
        gives("0/0", 0);
        gives("1|1/0", 1);
        gives("0&1/0", 0);
        gives("5/(3-3)+2", 2);
    }

    @Says("All numbers are whole; / cuts towards 0.")
    private static void promise25_divisionCutsTowards0() {
        gives("7/2", 3);
        gives("(0-7)/2", -3);
        gives("7/(0-2)", -3);
        gives("(0-7)/(0-2)", 3);
        gives("1/2", 0);
        gives("(0-1)/2", 0);
    }

    @Says("tests, & | ! give 1 or 0 (what is not 0 is true")
    private static void promise25_testsGive1Or0() {
        gives("1<2", 1);
        gives("2<2", 0);
        gives("3<2", 0);
        gives("1=2", 0);
        gives("2=2", 1);
        gives("3=2", 0);
        gives("1>2", 0);
        gives("2>2", 0);
        gives("3>2", 1);
        gives("(0-1)<0", 1);
        gives("7&9", 1);
        gives("7&0", 0);
        gives("0&7", 0);
        gives("0|0", 0);
        gives("7|0", 1);
        gives("0|(0-7)", 1);
        gives("!0", 1);
        gives("!1", 0);
        gives("!(0-1)", 0);
        gives("!!9", 1);
    }

    @Says({"E, the loosest first: OR: AND { | AND }; AND: TEST { & TEST }", "SUM: TERM { (+ | -) TERM }; TERM: PIECE { (* | /) PIECE }"})
    private static void promise25_theLoosestAndTheClosest() {
        gives("1|0&0", 1);
        gives("0&0|1", 1);
        gives("1&2=2", 1);
        gives("2=1&1", 0);
        gives("1+1=2", 1);
        gives("2+3*4", 14);
        gives("20-6/2", 17);
        gives("9-4-3", 2);
        gives("9-(4-3)", 8);
        gives("64/4/2", 8);
        gives("64/4*2", 32);
        gives("!0+1", 2);
        gives("!0*0", 0);
        gives("!(0*0)", 1);
    }

    @Says({"TEXTS, 14 at most, numbered from 0", "THE TAPE is a TEXT: its number. -100 less the place of its FAULT; FULL."})
    private static void promise25_theFifteenthIsFull() {
        ThirstLead x = new ThirstLead();
        for (int i = 0; i < 14; i++) {
            Due.is("text " + i, Due.textOf(x, "fee " + i), i);
        }
        Due.is("the fifteenth", Due.textOf(x, "fee 99"), FULL);
        Due.is("TEXTS", x.count(6), 14);
        Due.is("fee()", x.fee(), 13);
    }

    @Says({"-100 less the place of its FAULT; FULL.", "of several the one that stands first with it"})
    private static void promise25_aFaultComesAheadOfFull() {
        ThirstLead x = fourteen();
        Due.is("a FAULT", Due.textOf(x, "fee 99)"), -106);
        Due.is("an empty tape", x.text(), -100);
    }

    @Says("an act that reads it uses it up, whatever it answers")
    private static void promise25_whatWasReadBeforeDoesNotCount() {
        String[] before = {"", "fee", "fee q", "fee 12345", "fee d1", "feed", "fee (1", "fee (((((((((", "thirst h+h", "fee 1"};
        for (String tape : before) {
            ThirstLead x = new ThirstLead();
            int texts = Due.textOf(x, tape) < 0 ? 0 : 1;
            Due.is("text() behind '" + tape + "'", Due.textOf(x, "fine 1+2"), texts);
            Due.is("its KEY", x.textTold(texts, 0), 2);
            Due.is("its NUMBERS", x.textTold(texts, 1), 2);
            Due.is("a FAULT behind it", Due.textOf(x, "fee"), -103);
            Due.is("an empty tape behind it", x.text(), -100);
        }
        String[] told = {"fee !1", "fee 1+1", "fee 1*!0", "fee (1|1)&!1"};
        for (String tape : told) {
            ThirstLead x = new ThirstLead();
            x.walker(0, 0, 0);
            Due.textOf(x, tape);
            Due.textOf(x, "fine 7");
            Due.is("fine 7 behind '" + tape + "'", x.fine(0), 7);
            Due.textOf(x, "fine 7-2");
            Due.is("fine 7-2 behind '" + tape + "'", x.fine(0), 5);
        }
    }

    @Says({"an act that reads it uses it up, whatever it answers", "changes nothing (but the tape and the numbers that wait, where told)"})
    private static void promise25_theTapeIsUsedUpWhateverIsAnswered() {
        Twins.Made faulty = () -> {
            ThirstLead x = Bands.rich(4);
            x.feed(0, 0, 0);
            return x;
        };
        Twins.changesAs("text() with a FAULT", faulty, ThirstLead::text, -109, x -> x.trim(0));
        Twins.Made full = () -> {
            ThirstLead x = fourteen();
            Due.feedText(x, "thirst 1");
            return x;
        };
        Twins.changesAs("text() that is FULL", full, ThirstLead::text, FULL, x -> x.trim(0));
        Twins.changesAs("text() that is good", () -> Bands.rich(4), ThirstLead::text, 4, x -> Due.textOf(x, "fee  3*d + 4"));
    }

    // ---- 26, textTold

    @Says("Of a TEXT: what 0 KEY (0 thirst, 1 fee, 2 fine), 1 how many NUMBERS and NAMES it has. BAD.")
    private static void promise26_badTextsAndBadWhats() {
        int[][] bad = {{-1, 0}, {4, 0}, {14, 0}, {LEAST, 0}, {MOST, 0}, {0, -1}, {0, 2}, {0, LEAST}, {0, MOST}};
        for (int[] b : bad) {
            Twins.changesNothing("textTold(" + b[0] + ", " + b[1] + ")", () -> Bands.rich(4), x -> x.textTold(b[0], b[1]), BAD);
        }
        Due.is("no TEXTS", new ThirstLead().textTold(0, 0), BAD);
        ThirstLead x = fourteen();
        Due.is("the fourteenth", x.textTold(13, 0), 1);
        Due.is("no fifteenth", x.textTold(14, 0), BAD);
    }

    @Says("what 0 KEY (0 thirst, 1 fee, 2 fine), 1 how many NUMBERS and NAMES it has")
    private static void promise26_fromOneToAsManyAsATapeHas() {
        String[] texts = {"thirst h", "fee 1", "fine l", "fee ((!!d))", "thirst h+s*t-1234", "fee 1" + "+d".repeat(45)};
        int[][] want = {{0, 1}, {1, 1}, {2, 1}, {1, 1}, {0, 4}, {1, 46}};
        ThirstLead x = new ThirstLead();
        for (int i = 0; i < texts.length; i++) {
            Due.is(texts[i], Due.textOf(x, texts[i]), i);
        }
        for (int i = 0; i < texts.length; i++) {
            Due.is(texts[i] + ", KEY", x.textTold(i, 0), want[i][0]);
            Due.is(texts[i] + ", NUMBERS and NAMES", x.textTold(i, 1), want[i][1]);
        }
    }

    // ---- 27, why

    @Says("The TEXT that counts for a KEY. BAD; NONE.")
    private static void promise27_badKeysAndNone() {
        int[] bad = {-1, 3, LEAST, MOST};
        for (int key : bad) {
            Twins.changesNothing("why(" + key + ")", () -> Bands.rich(4), x -> x.why(key), BAD);
        }
        ThirstLead x = new ThirstLead();
        for (int key = 0; key < 3; key++) {
            Due.is("why(" + key + ") of none", x.why(key), NONE);
        }
        Due.textOf(x, "fee 1");
        Due.is("why(0)", x.why(0), NONE);
        Due.is("why(1)", x.why(1), 0);
        Due.is("why(2)", x.why(2), NONE);
    }

    @Says("Of a KEY that TEXT counts that was told last.")
    private static void promise27_theLastOneCounts() {
        ThirstLead x = fourteen();
        Due.is("the fourteenth", x.why(1), 13);
        x = new ThirstLead();
        x.walker(0, 4, 0);
        String[] texts = {"fine 1", "thirst 2", "fee 3", "thirst 4", "fee 5", "fine 6"};
        for (String text : texts) {
            Due.textOf(x, text);
        }
        int[] want = {3, 4, 5};
        for (int key = 0; key < 3; key++) {
            Due.is("why(" + key + ")", x.why(key), want[key]);
        }
        Due.is("THIRSTS", x.told(0, 6), 4);
        Due.is("fee()", x.fee(), 5);
        Due.is("fine(0)", x.fine(0), 6);
        Due.textOf(x, "thirst");
        Due.is("a FAULT does not count", x.why(0), 3);
    }
}
