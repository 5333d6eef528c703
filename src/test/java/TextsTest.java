/** Promises 23 to 27: the tape, texts and their faults, what texts give. */
public final class TextsTest {
    private static final int BAD = ThirstLead.BAD, FULL = ThirstLead.FULL;

    public static void main(String[] args) {
        feedAndTrim();
        values();
        names();
        faults();
        depths();
        thirstByText();
        toldAndCounts();
        full();
        Due.end("TextsTest");
    }

    private static void feedAndTrim() {
        ThirstLead x = new ThirstLead();
        // "fee 7 + 5 * " by the highest byte first
        Due.is("feed", x.feed(0x66656520, 0x37202b20, 0x35202a20), 12);
        Due.is("trim(-1)", x.trim(-1), BAD);
        Due.is("trim(13)", x.trim(13), BAD);
        Due.is("bytes", x.count(8), 12);
        Due.is("trim(12)", x.trim(12), 12);
        Due.is("trim(9)", x.trim(9), 9);
        Due.is("text", x.text(), 0);
        Due.is("7 and 5", x.fee(), 12);
        Due.is("the tape is used up", x.count(8), 0);
        for (int i = 1; i <= 8; i++) {
            Due.is("feed " + i, x.feed(0, -1, 7), 12 * i);
        }
        Due.is("96 bytes are full", x.feed(0, 0, 0), FULL);
        Due.is("96 bytes stay", x.count(8), 96);
        x.trim(85);
        Due.is("one byte too many", x.feed(0, 0, 0), FULL);
        x.trim(84);
        Due.is("just enough", x.feed(0, 0, 0), 96);
        Due.is("a fault uses it up", x.text(), -100);
        Due.is("no bytes", x.count(8), 0);
        Due.is("trim(0)", x.trim(0), 0);
        Due.is("an empty tape", x.text(), -100);
    }

    private static void value(String e, int want) {
        ThirstLead x = new ThirstLead();
        Due.is("fee " + e + " is a text", Due.textOf(x, "fee " + e), 0);
        Due.is("fee " + e, x.fee(), want);
    }

    private static void values() {
        value("0", 0);
        value("9999", 9999);
        value("0007", 7);
        value("7-2-1", 4);
        value("2+3*4", 14);
        value("(2+3)*4", 20);
        value("17/5", 3);
        value("(0-17)/5", -3);
        value("7/0", 0);
        value("7/(1-1)", 0);
        value("100/7/2", 7);
        value("100/(7/2)", 33);
        value("2*3/4*5", 5);
        value("9999*9999*9999", 9999 * 9999 * 9999);
        value("3<4", 1);
        value("4<4", 0);
        value("4=4", 1);
        value("4=5", 0);
        value("4>3", 1);
        value("4>4", 0);
        value("3>4", 0);
        value("(3<4)<1", 0);
        value("1+1=2", 1);
        value("5|0", 1);
        value("0|0", 0);
        value("5&7", 1);
        value("5&0", 0);
        value("0&0|1", 1);
        value("1|0&0", 1);
        value("0|2>1&3", 1);
        value("!0", 1);
        value("!7", 0);
        value("!!7", 1);
        value("!0*5", 5);
        value("!(0*5)", 1);
        value("!0+1", 2);
        value("1-!1", 1);
        value("((((((((3))))))))", 3);
        value("(1)+(2)", 3);
        value("1<2|3<4", 1);
        value("1<2&4<3", 0);
        value("(0-9999*9999*22)/(0-1)", -(-9999 * 9999 * 22));
    }

    private static void names() {
        ThirstLead x = new ThirstLead();
        x.walker(0, 12, 24);
        x.set(0, 1, 8);
        x.rule(0, 9);
        Due.textOf(x, "thirst h");
        Due.is("h", x.told(0, 6), 9);
        Due.textOf(x, "thirst s");
        Due.is("s", x.told(0, 6), 12);
        Due.textOf(x, "thirst t");
        Due.is("t", x.told(0, 6), 8);
        Due.textOf(x, "fine s");
        Due.is("s of fine", x.fine(0), 12);
        Due.textOf(x, "fine l");
        Due.is("l of fine", x.fine(0), 0);
        x.rule(2, 100);
        x.rule(3, 20);
        x.hours(3);
        Due.is("l of fine, led", x.fine(0), x.told(0, 4));
        Due.textOf(x, "fee d");
        Due.is("d", x.fee(), x.band(2));
        Due.textOf(x, "fee l");
        Due.is("l of fee", x.fee(), x.band(3));
    }

    private static void fault(String tape, int place) {
        ThirstLead x = new ThirstLead();
        int want = place < 0 ? 0 : -100 - place;
        Due.is("text '" + tape + "'", Due.textOf(x, tape), want);
        Due.is("texts behind '" + tape + "'", x.count(6), place < 0 ? 1 : 0);
        Due.is("tape behind '" + tape + "'", x.count(8), 0);
    }

    private static void faults() {
        int none = -1;
        fault("", 0);
        fault("   ", 3);
        fault("fee", 3);
        fault("fee  ", 5);
        fault("fee d", none);
        fault("  fee   d  ", none);
        fault("feed", 0);
        fault("fe d", 0);
        fault("xee d", 0);
        fault("fed d", 0);
        fault("feee d", 0);
        fault(" Fee d", 1);
        fault("12", 0);
        fault("(fee d)", 0);
        fault("fee(d)", none);
        fault("fee!d", none);
        fault("fee12", 3);
        fault("fee 12", none);
        fault("fee d d", 6);
        fault("fee d1", 5);
        fault("fee 1d", 5);
        fault("fee 1 2", 6);
        fault("fee 12345", 4);
        fault("fee 1+12345", 6);
        fault("fee 00001", 4);
        fault("fee 0001", none);
        fault("fee dl", 4);
        fault("fee h", 4);
        fault("thirst d", 7);
        fault("thirst l", 7);
        fault("fine t", 5);
        fault("fine d", 5);
        fault("fee thirst", 4);
        fault("fee d fee", 6);
        fault("fee +1", 4);
        fault("fee 1+", 6);
        fault("fee 1+ ", 7);
        fault("fee 1++1", 6);
        fault("fee 1-(", 7);
        fault("fee (1", 6);
        fault("fee (1))", 7);
        fault("fee ()", 5);
        fault("fee )", 4);
        fault("fee 1)", 5);
        fault("fee (1 2)", 7);
        fault("fee 1(2)", 5);
        fault("fee 1!2", 5);
        fault("fee !", 5);
        fault("fee !)", 5);
        fault("fee 1<2<3", 7);
        fault("fee 1<2=3", 7);
        fault("fee 1<2+3>4", 9);
        fault("fee (1<2)<3", none);
        fault("fee 1<2&3<4|5=6", none);
        fault("fee 1<2|3<4<5", 11);
        fault("fee 1<=2", 6);
        fault("fee 1&&2", 6);
        fault("fee 1 | | 2", 8);
        fault("fee 1 % 2", 6);
        fault("fee d\t", 5);
        fault("fee\td", 3);
        fault("fee d" + (char) 0, 5);
        fault("fee " + (char) 255, 4);
        fault("fee D", 4);
        fault("fee d" + " ".repeat(91), none);
        fault("fee d+" + " ".repeat(90), 96);
    }

    private static void depths() {
        fault("fee " + "(".repeat(8) + "1" + ")".repeat(8), -1);
        fault("fee " + "(".repeat(9) + "1" + ")".repeat(9), 12);
        fault("fee " + "!".repeat(8) + "1", -1);
        fault("fee " + "!".repeat(9) + "1", 12);
        fault("fee " + "!(".repeat(8) + "1" + ")".repeat(8), -1);
        fault("fee " + "!(".repeat(8) + "!1" + ")".repeat(8), 20);
        fault("fee " + "!(".repeat(8) + "(1)" + ")".repeat(8), 20);
        fault("fee " + "(".repeat(8) + "!".repeat(8) + "1" + ")".repeat(8), -1);
        fault("fee " + "!".repeat(8) + "1+" + "!".repeat(8) + "1", -1);
        fault("fee " + "((((((((1))))))))+((((((((1))))))))", -1);
        fault("fee " + "(1)+".repeat(10) + "(1)", -1);
        fault("fee " + "!!!!(!!!!1+!!!!(!1))", 20);
        fault("fee " + "!!!!(!!!!1+1)*!!!!!!!!1", -1);
        fault("fee " + "1+".repeat(45) + "1", -1);
        fault("fee " + "1|1&1<1+1*(".repeat(8) + "1" + "))", 95);
    }

    private static void thirstByText() {
        ThirstLead x = new ThirstLead();
        for (int kind = 0; kind < 6; kind++) {
            x.walker(kind, kind, 24);
        }
        Due.textOf(x, "thirst 41");
        int[] most = {40, 42, 20, 41, 20, 1};
        Due.textOf(x, "thirst 0-1");
        int[] least = {0, 2, 0, 1, 0, 1};
        for (int i = 0; i < 6; i++) {
            Due.is("0 at least, kind " + i, x.told(i, 6), least[i]);
        }
        Due.textOf(x, "thirst 9999");
        for (int i = 0; i < 6; i++) {
            Due.is("40 at most, kind " + i, x.told(i, 6), most[i]);
        }
        Due.textOf(x, "thirst s*3+1");
        int[] bySkin = {1, 6, 3, 11, 6, 1};
        for (int i = 0; i < 6; i++) {
            Due.is("by skin, kind " + i, x.told(i, 6), bySkin[i]);
        }
        // The heat of the hour, the skin that is filled, the thirst that is slaked at the well count.
        x = new ThirstLead();
        x.walker(0, 0, 0);
        x.set(0, 1, 18);
        x.water(0, 10);
        Due.textOf(x, "thirst s*4+t+h*0");
        x.hours(1);
        Due.is("4 cups drunk, 6 in the skin: 24 more, 2 cups less", x.told(0, 1), 14);
    }

    private static void toldAndCounts() {
        ThirstLead x = new ThirstLead();
        Due.is("no text", x.textTold(0, 0), BAD);
        Due.is("none", x.why(0), ThirstLead.NONE);
        Due.is("fine", Due.textOf(x, "fine s+l*(2-!3)"), 0);
        Due.is("thirst", Due.textOf(x, "thirst 1"), 1);
        Due.is("fee", Due.textOf(x, "fee d|d|l"), 2);
        Due.is("thirst again", Due.textOf(x, "thirst h+h"), 3);
        Due.is("a fault", Due.textOf(x, "thirst"), -106);
        int[][] told = {{2, 4}, {0, 1}, {1, 3}, {0, 2}};
        for (int i = 0; i < 4; i++) {
            Due.is("key of " + i, x.textTold(i, 0), told[i][0]);
            Due.is("numbers and names of " + i, x.textTold(i, 1), told[i][1]);
        }
        Due.is("thirst", x.why(0), 3);
        Due.is("fee", x.why(1), 2);
        Due.is("fine", x.why(2), 0);
        int[][] bad = {{-1, 0}, {4, 0}, {0, -1}, {0, 2}};
        for (int[] b : bad) {
            Due.is("textTold, wrong", x.textTold(b[0], b[1]), BAD);
        }
        Due.is("why(-1)", x.why(-1), BAD);
        Due.is("why(3)", x.why(3), BAD);
    }

    private static void full() {
        ThirstLead x = new ThirstLead();
        for (int i = 0; i < 14; i++) {
            Due.is("text " + i, Due.textOf(x, "fee " + i), i);
        }
        Due.is("a fault first", Due.textOf(x, "fee"), -103);
        Due.is("full", Due.textOf(x, "fee 99"), FULL);
        Due.is("full: the tape is used up", x.count(8), 0);
        Due.is("14 texts", x.count(6), 14);
        Due.is("the fourteenth counts", x.why(1), 13);
        Due.is("and gives", x.fee(), 13);
        Due.is("the last one told", x.textTold(13, 1), 1);
    }
}
