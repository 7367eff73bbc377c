/** Promises 8 to 11: bytes, texts and their faults. */
final class TextTest {
    private static final int NONE = BangSquare.NONE;
    private static final Check check = new Check("TextTest");

    public static void main(String[] args) {
        promise8();
        promise9();
        promise10();
        promise10TakesTheBytes();
        promise11Faults();
        promise11RuleFaults();
        promise11Depth();
        promise11Lines();
        check.close();
    }

    private static void promise8() {
        BangSquare s = new BangSquare();
        for (int i = 1; i <= 20; i++) {
            check.due("feed " + i, s.feed(0x20202020, 0x20202020, 0x20202020, 0x20202020, 0x20202020), 20 * i);
        }
        check.due("feed 21", s.feed(0, 0, 0, 0, 0), NONE);
        check.due("nothing came", s.end(401), false);
        check.due("381", s.end(381), true);
        check.due("401 would be too many", s.feed(0, 0, 0, 0, 0), NONE);
        check.due("380", s.end(380), true);
        check.due("400 may be", s.feed(0x20202020, 0x20202020, 0x20202020, 0x20202020, 0x20202020), 400);
        check.due("blanks are no line", s.text(0), 0);
        check.due("highest first", Check.text(s, 4, "shot when 1=1;"), 1);
    }

    private static void promise9() {
        BangSquare s = new BangSquare();
        check.due("end(0) of none", s.end(0), true);
        check.due("end(1) of none", s.end(1), false);
        check.due("feed", s.feed(1, 2, 3, 4, 5), 20);
        check.due("end(-1)", s.end(-1), false);
        check.due("end(21)", s.end(21), false);
        check.due("end(20)", s.end(20), true);
        check.due("end(7)", s.end(7), true);
        check.due("end(8)", s.end(8), false);
        check.due("feed behind", s.feed(1, 2, 3, 4, 5), 27);
    }

    private static void promise10() {
        BangSquare s = new BangSquare();
        check.due("law", Check.text(s, 0, "turn bang when bang>0;turn crack when crack<gap*2-3+walls/7 and near=wall;"), 2);
        check.due("empty", Check.text(s, 0, ""), 0);
        check.due("no blanks needed", Check.text(s, 1, "turn no when not(1=1or 2=2)and(3>4);"), 1);
        check.due("newlines", Check.text(s, 2, "\nturn\nwall\nwhen\n00001\n=\n99999\n;\n"), 1);
        check.due("rules", Check.text(s, 4, "shot when loud>long;truck when ahead<behind or 1=2;board when not not 1=1;"), 3);
        check.due("law 3", Check.text(s, 3, "turn no when ((1=1));"), 1);
    }

    private static void promise10TakesTheBytes() {
        BangSquare s = new BangSquare();
        s.hearer(0, 0);
        s.shot(5, 0, NONE, 0);
        Check.text(s, 0, "turn bang when 1=1;");
        check.due("none then", s.end(1), false);
        check.due("turns by it", s.turning(0, 0, 0), 0);
        check.due("a fault", Check.text(s, 0, "turn no when 1=1; x"), NONE);
        check.due("none then, with a fault, too", s.end(1), false);
        check.due("it stays as it was", s.turning(0, 0, 0), 0);
        check.due("fault is told", s.fault(0), 1);
        Check.lay(s, "turn no when 1=1;");
        check.due("no such text", s.text(5), NONE);
        check.due("fault tells 0", s.fault(0), 0);
        check.due("and no place", s.fault(1), NONE);
        check.due("none then, without such a text, too", s.end(1), false);
        check.due("no text -1", s.text(-1), NONE);
        check.due("an empty one", s.text(0), 0);
        check.due("turns by no line", s.turning(0, 0, 0), NONE);
    }

    private static void fault(int k, String text, int fault, int place) {
        BangSquare s = new BangSquare();
        check.due("before, fault(0)", s.fault(0), 0);
        check.due("before, fault(1)", s.fault(1), NONE);
        int lines = Check.text(s, k, text);
        check.due("'" + text + "' is none: " + (lines == NONE), lines == NONE, fault != 0);
        check.due("'" + text + "' fault", s.fault(0), fault);
        check.due("'" + text + "' place", s.fault(1), place);
        check.due("fault(2)", s.fault(2), NONE);
        check.due("fault(-1)", s.fault(-1), NONE);
    }

    private static void promise11Faults() {
        fault(0, "turn bang when 1=1;", 0, NONE);
        fault(0, "turn bang when 1=1", 1, 18);
        fault(0, "turn bang when 1=1  ", 1, 20);
        fault(0, "turn", 1, 4);
        fault(0, " turn  ", 1, 7);
        fault(0, "turns bang when 1=1;", 1, 0);
        fault(0, "Turn bang when 1=1;", 1, 0);
        fault(0, "turnX bang when 1=1;", 1, 0);
        fault(0, "turn gap when 1=1;", 1, 5);
        fault(0, "turn walls when 1=1;", 1, 5);
        fault(0, "turn no no when 1=1;", 1, 8);
        fault(0, "turn no when ;", 1, 13);
        fault(0, "turn no when 1;", 1, 14);
        fault(0, "turn no when 1=;", 1, 15);
        fault(0, "turn no when 1=1=1;", 1, 16);
        fault(0, "turn no when 1=1 and;", 1, 20);
        fault(0, "turn no when 1=1 or or 1=1;", 1, 20);
        fault(0, "turn no when 1 and 1=1;", 1, 15);
        fault(0, "turn no when (1)=1;", 1, 15);
        fault(0, "turn no when 1=(1);", 1, 15);
        fault(0, "turn no when (1=1;", 1, 17);
        fault(0, "turn no when (1=1));", 1, 18);
        fault(0, "turn no when (1=1)(1=1);", 1, 18);
        fault(0, "turn no when (1=1)=1;", 1, 18);
        fault(0, "turn no when (1=1) not 1=1;", 1, 19);
        fault(0, "turn no when ();", 1, 14);
        fault(0, "turn no when -1=1;", 1, 13);
        fault(0, "turn no when 1=1+;", 1, 17);
        fault(0, "turn no when 2*-1=1;", 1, 15);
        fault(0, "turn no when 2/bang=1;", 1, 15);
        fault(0, "turn no when 2/1/0=1;", 2, 17);
        fault(0, "turn no when 1=2*3/00000;", 2, 19);
        fault(0, "turn no when 1=2/000000;", 1, 17);
        fault(0, "turn no when 1=2/1*0;", 0, NONE);
        fault(0, "turn no when 1=2/10/5*gap/3;", 0, NONE);
        fault(0, "turn no when 1 2=1;", 1, 15);
        fault(0, "turn no when 100000=1;", 1, 13);
        fault(0, "turn no when 1=1;;", 1, 17);
        fault(0, "turn no when 1=1,", 1, 16);
        fault(0, "turn no when\t1=1;", 1, 12);
        fault(0, "turn no when\r1=1;", 1, 12);
        fault(0, "turn no when 1=1;" + (char) 233, 1, 17);
        fault(0, "turn no when 1=1;" + (char) 0, 1, 17);
        fault(0, "turn no when loud=1;", 1, 13);
        fault(0, "turn no when turn=1;", 1, 13);
        fault(0, "turn no when no=1;", 1, 13);
        fault(0, "turn no when not;", 1, 16);
        fault(0, "turn no when 1=not 1=1;", 1, 15);
        fault(0, "when 1=1;", 1, 0);
        fault(3, "shot when 1=1;", 1, 0);
        fault(0, "turn no when 1a=1;", 1, 14);
        fault(0, "turn no when 12and=1;", 1, 15);
    }

    private static void promise11RuleFaults() {
        fault(4, "shot when 1=1;", 0, NONE);
        fault(4, "turn no when 1=1;", 1, 0);
        fault(4, "shot shot when 1=1;", 1, 5);
        fault(4, "loud when 1=1;", 1, 0);
        fault(4, "shot when board=1;", 1, 10);
        fault(4, "shot when near=1;", 1, 10);
        fault(4, "shot when walls=1;", 1, 10);
        fault(4, "board when behind/0=1;", 2, 18);
        fault(4, "board when behinds=1;", 1, 11);
        fault(4, "board when behindbehind=1;", 1, 11);
        fault(4, "truck when ahead=1", 1, 18);
    }

    private static void promise11Depth() {
        fault(0, "turn no when ((((((((1=1))))))));", 0, NONE);
        fault(0, "turn no when (((((((((1=1)))))))));", 3, 21);
        fault(0, "turn no when not not not not not not not not 1=1;", 0, NONE);
        fault(0, "turn no when not not not not not not not not not 1=1;", 3, 45);
        fault(0, "turn no when not(not(not(not(1=1 and not 1=1))));", 3, 37);
        fault(0, "turn no when not(not(not(not(1=1)))) and not(not(not(not(1=1))));", 0, NONE);
        fault(0, "turn no when (((((((not 1=1 and not 1=1 or not (1=1))))))));", 3, 47);
        fault(0, "turn no when (((((((not 1=1 and not 1=1 or not 1=1)))))));", 0, NONE);
        fault(0, "turn no when (((((((not 1=1 and (1=1) or not 1=1) and not (1=1)))))));", 0, NONE);
        fault(0, "turn no when ((((((((1=1))))))(", 1, 30);
        fault(4, "shot when (((((((((1=1)))))))));", 3, 18);
    }

    private static void promise11Lines() {
        StringBuilder law = new StringBuilder();
        StringBuilder rules = new StringBuilder();
        for (int i = 0; i < 12; i++) {
            law.append("turn no when 1=1;\n");
            rules.append("shot when 1=1;\n");
        }
        BangSquare s = new BangSquare();
        check.due("twelve lines", Check.text(s, 0, law.toString()), 12);
        check.due("twelve rules", Check.text(s, 4, rules.toString()), 12);
        fault(0, law + "turn", 3, 12 * 18);
        fault(0, law + "  x", 1, 12 * 18 + 2);
        fault(0, law + "when", 1, 12 * 18);
        fault(4, rules + " board", 3, 12 * 15 + 1);
        fault(4, rules + "loud", 1, 12 * 15);
    }
}
