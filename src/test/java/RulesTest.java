/** Promises 24 to 28: the tape, its texts and their faults, the rule and what it comes to, and the counts. */
public final class RulesTest {
    private static final Check CHECK = new Check("rules");

    public static void main(String[] args) {
        feedTape();
        goodTexts();
        faults();
        faultsOfDepth();
        faultsOfBytes();
        faultsOfWords();
        faultsAheadOfSigns();
        faultsAtTheEnd();
        tapesAfterOthers();
        textIsTaken();
        textsAreFull();
        force();
        firstRule();
        values();
        deepValues();
        longChains();
        wrapping();
        names();
        namesInATick();
        rawParts();
        bagsByState();
        crewAtTheLimit();
        lateAtEtd();
        tellsRefuses();
        count();
        CHECK.end();
    }

    private static void feedTape() {
        WingPort x = new WingPort();
        CHECK.due("feedTape(1, 0)", x.feedTape(1, 0), WingPort.BAD);
        CHECK.due("feedTape(1, 9)", x.feedTape(1, 9), WingPort.BAD);
        CHECK.due("feedTape(1, -1)", x.feedTape(1, -1), WingPort.BAD);
        CHECK.due("one byte of many", x.feedTape(0x1122334455667700L + 'p', 1), 1);
        CHECK.due("the highest first", x.feedTape(0x7fffffL << 40 | 'r' << 24 | 'i' << 16 | 'o' << 8 | ' ', 4), 5);
        CHECK.due("bytes", x.count(6), 5);
        CHECK.due("the rest", Ports.tape(x, "1;sep 2;hold 3;"), 20);
        CHECK.due("it reads well", x.text(), 1);
        CHECK.due("the tape is empty", x.count(6), 0);
        for (int k = 1; k <= 20; k++) {
            CHECK.due("feed " + k, x.feedTape(-1, 8), k * 8);
        }
        CHECK.due("no more", x.feedTape(0, 1), WingPort.FULL);
        CHECK.due("not so many", x.feedTape(0, 9), WingPort.BAD);
        CHECK.due("160 bytes", x.count(6), 160);
        CHECK.due("a byte that begins none", x.text(), -100);
        Ports.tape(x, "prio 1;sep 2;hold 3;" + " ".repeat(135));
        CHECK.due("155 bytes and 8", x.feedTape(0, 8), WingPort.FULL);
        CHECK.due("155 bytes and 5", x.feedTape(0x2020202020L, 5), 160);
        CHECK.due("as many as can be", x.text(), 2);
    }

    private static void goodTexts() {
        String[] texts = {
            "prio 1;sep 2;hold 3;",
            "  prio\n1 ;\n\nsep 2;hold 3;  \n ",
            "prio in;sep late;hold kind;",
            "prio wait;sep prev;hold fog;",
            "prio bags;sep crew;hold 9999;",
            "prio 0000;sep not 1 or not not 2 and 3;hold 1<2 and 3=4;",
            "prio -1;sep --1;hold 1--1;",
            "prio 1+2-3*4;sep (1);hold ((1));",
            "prio 1 or(2)and not(3);sep 1or 2;hold 3 and4;",
            "prio 1+(1<2)*(not 3);sep (1 or 2)<(3 and 4);hold (1<2)<3;",
            "prio(1);sep(2);hold(3);",
            "prio-1;sep-1;hold-1;",
            "prio not-1;sep 1<-1;hold 1*-1;",
            "prio (((((1)))));sep -----1;hold not not not not not 1;",
            "prio -(-(-1));sep not (not (-1));hold not -(-(1));",
            "prio (((1)))+(((((1)))));sep -----1*-----1;hold not not not not not 1 and not not not not not 1;",
            "prio 1 or 1 or 1 or 1 or 1 or 1 or (((((1)))));sep 1 and 1 and 1 and 1 and 1 and (((((1)))));hold 1;",
            "prio 1*1*1*1*1*1*1*(((((1)))));sep 1+1-1+1-1+1-(((((1)))));hold (((((1)))))<(((((1)))));"
        };
        for (String text : texts) {
            CHECK.due(text, Ports.text(new WingPort(), text), 1);
        }
    }

    private static void fault(String text, int place) {
        WingPort x = new WingPort();
        CHECK.due("[" + text + "]", Ports.text(x, text), -100 - place);
        CHECK.due("texts behind [" + text + "]", x.count(4), 1);
    }

    private static void faults() {
        fault("", 0);
        fault("   ", 3);
        fault("prio", 4);
        fault("prio 1", 6);
        fault("prio 1; ", 8);
        fault("prio 1;sep 2;hold 3", 19);
        fault("prio 1;sep 2;hold 3 \n", 21);
        fault("prio 1;sep 2;hold 3; ;", 21);
        fault("prio 1;sep 2;hold 3;prio", 20);
        fault("sep 1;", 0);
        fault(" 1", 1);
        fault("prio ;", 5);
        fault("prio prio;", 5);
        fault("prio 1 sep", 7);
        fault("prio 1;hold 2;sep 3;", 7);
        fault("prio 1 2;", 7);
        fault("prio 12in;", 7);
        fault("prio in 2;", 8);
        fault("prio + 1;", 5);
        fault("prio 1 +;", 8);
        fault("prio 1 + + 1;", 9);
        fault("prio 1 * * 1;", 9);
        fault("prio 1 < 2 < 3;", 11);
        fault("prio 1 = 2 = 3;", 11);
        fault("prio 1 < not 2;", 9);
        fault("prio 1 + not 2;", 9);
        fault("prio - not 2;", 7);
        fault("prio 1 not 2;", 7);
        fault("prio or 1;", 5);
        fault("prio 1 or or 2;", 10);
        fault("prio 1 and;", 10);
        fault("prio not;", 8);
        fault("prio ();", 6);
        fault("prio (1;", 7);
        fault("prio 1);", 6);
        fault("prio (1));", 8);
        fault("prio (1;)", 7);
        fault("prio (1", 7);
        fault("prio 1;;", 7);
        fault("prioin;", 0);
        fault("prio1;sep 1;holdx 1;", 12);
    }

    private static void faultsOfDepth() {
        fault("prio ((((((1))))));", 10);
        fault("prio ------1;", 10);
        fault("prio not not not not not not 1;", 25);
        fault("prio ( - ( not ( - 1)));", 17);
        fault("prio not (not (not (1)));", 19);
        fault("prio (((((-1)))));", 10);
        fault("prio (((((not 1)))));", 10);
        fault("prio 1+(((((1)))))+((((((1))))));", 24);
        fault("prio ((((((", 10);
        fault("prio not not not not not (1);", 25);
        fault("prio not -(-(not 1));", 13);
        fault("prio not not not not not 1 < -1;", 29);
        fault("prio (1 or (((((1))))));", 15);
        fault("prio (1 and (((((1))))));", 16);
        fault("prio (1*(((((1))))));", 12);
        fault("prio (1+(((((1))))));", 12);
        fault("prio (1-(((((1))))));", 12);
        fault("prio (1<(((((1))))));", 12);
        fault("prio (1=(((((1))))));", 12);
        fault("prio not 1*(((((1)))));", 15);
        fault("prio not 1<(((((1)))));", 15);
        fault("prio not not not not not 1 + -1;", 29);
        fault("prio not (not not not 1 and -1 and - - - - -1);", 41);
    }

    private static void faultsOfBytes() {
        fault("prio 12345;", 5);
        fault("prio 00000;", 5);
        fault("prio 1 12345;", 7);
        fault("prio 1 + 99999999999999999999;", 9);
        fault("prio waits;", 5);
        fault("prio waitz;", 5);
        fault("prio await;", 5);
        fault("prio xn;", 5);
        fault("brio 1;", 0);
        fault("prio i;", 5);
        fault("prio a;", 5);
        fault("prio 1 x;", 7);
        fault("prio crewcrewcrew;", 5);
        fault("prio In;", 5);
        fault("prio 1 / 2;", 7);
        fault("prio 1 > 2;", 7);
        fault("prio\t1;", 4);
        fault("prio 1,", 6);
        fault("prio \u00e9;", 5);
        fault("prio \u0000;", 5);
        fault("prio 1;\r", 7);
        fault("prio `;", 5);
        fault("prio {;", 5);
        fault("prio :;", 5);
        fault("prio 1;sep 2;hold 3;$", 20);
        for (char b : "AZ@[`{_/:.,!\"#&'>?\t\r\u000b\f\u0000\u001f\u007f\u0080\u00a0\u00e4\u00ff".toCharArray()) {
            fault("prio in" + b + ";sep 2;hold 3;", 7);
            fault("prio 12" + b + ";sep 2;hold 3;", 7);
            fault("prio" + b + "1;sep 2;hold 3;", 4);
            fault("prio 1;" + b + "sep 2;hold 3;", 7);
            fault(b + "prio 1;sep 2;hold 3;", 0);
            fault("prio 1;sep 2;hold 3;" + b, 20);
        }
    }

    /** A WORD that is neither KEY nor NAME, where a KEY, a NAME or a sign could stand. */
    private static void faultsOfWords() {
        String[] words = {"x", "pri", "prioo", "se", "seq", "sepp", "hol", "held", "holds", "nor", "an", "ands", "no",
            "note", "i", "inn", "lat", "later", "king", "kin", "weit", "pre", "preb", "fo", "fogs", "bag", "bugs",
            "cre", "crewe", "z", "a"};
        for (String word : words) {
            fault(word + " 1;sep 2;hold 3;", 0);
            fault("prio 1;" + word + " 2;hold 3;", 7);
            fault("prio 1;sep 2;" + word + " 3;", 13);
            fault("prio 1 " + word + " 2;sep 2;hold 3;", 7);
            fault("prio " + word + ";sep 2;hold 3;", 5);
            fault("prio 1 or " + word + " 1;sep 2;hold 3;", 10);
        }
        String[] keys = {"prio", "sep", "hold", "or", "and"};
        for (String key : keys) {
            fault("prio " + key + ";sep 2;hold 3;", 5);
            fault("prio 1 + " + key + ";sep 2;hold 3;", 9);
        }
        fault("prio not or;sep 2;hold 3;", 9);
        fault("hold 1;sep 2;hold 3;", 0);
        fault("in;", 0);
        fault("prio 1;in;", 7);
        fault("prio 1;prio 2;", 7);
        fault("prio 1;sep 2;sep 3;", 13);
        fault("prio 1;sep 2;;", 13);
        fault("prio 1 in;", 7);
        fault("prio (1 in);", 8);
        fault("prio (1) in;", 9);
        fault("prio 1 (2);", 7);
        fault("prio in(2);", 7);
        fault("prio 1;5", 7);
    }

    /** A sign behind which nothing stands, ahead of the end of its part, of its ( and of the text. */
    private static void faultsAheadOfSigns() {
        String[] signs = {"or", "and", "<", "=", "+", "-", "*"};
        for (String sign : signs) {
            String head = "prio 1 " + sign;
            int behind = head.length();
            fault(head + ";sep 2;hold 3;", behind);
            fault("prio (1 " + sign + ");sep 2;hold 3;", behind + 1);
            fault(head, behind);
            fault("prio " + sign, sign.equals("-") ? 6 : 5);
            if (!sign.equals("-")) {
                fault(head + " " + sign + " 1;sep 2;hold 3;", behind + 1);
            }
        }
        fault("prio not;sep 2;hold 3;", 8);
        fault("prio (not);sep 2;hold 3;", 9);
        fault("prio -;sep 2;hold 3;", 6);
        fault("prio (-);sep 2;hold 3;", 7);
        fault("prio 1-not 1;", 7);
        fault("prio 1 = not 1;", 9);
        fault("prio 1*not 1;", 7);
        fault("prio 1<2=3;", 8);
        fault("prio 1=2<3;", 8);
        fault("prio 1 ( 2 );", 7);
        fault("prio ) 1;", 5);
        fault("prio ;1;", 5);
    }

    /** The text's size, if it ends too early: wherever that is. */
    private static void faultsAtTheEnd() {
        String text = "prio not in*100+(wait<-2);sep 2 or 3;hold 4 and 5=6;";
        CHECK.due(text, Ports.text(new WingPort(), text), 1);
        int[] ends = {0, 4, 5, 8, 9, 11, 12, 15, 16, 17, 21, 22, 23, 24, 25, 26, 29, 30, 31, 32, 34, 35, 36, 37, 41, 42,
            43, 44, 47, 48, 49, 50, 51};
        for (int end : ends) {
            fault(text.substring(0, end), end);
            fault(text.substring(0, end) + " \n ", end + 3);
        }
    }

    /** What stood on the tape before does not stand there any more, and the tape ends at 160. */
    private static void tapesAfterOthers() {
        WingPort x = new WingPort();
        CHECK.due("a long word", Ports.text(x, "prio infinite;"), -105);
        CHECK.due("the word that it began with", Ports.text(x, "prio in"), -107);
        CHECK.due("a long number", Ports.text(x, "prio 12345;"), -105);
        CHECK.due("the number that it began with", Ports.text(x, "prio 12"), -107);
        CHECK.due("blanks", Ports.text(x, "prio 1 \n\n   "), -112);
        CHECK.due("fewer blanks", Ports.text(x, "prio 1 \n"), -108);
        CHECK.due("a fault behind a sign", Ports.text(x, "prio 1;sep 2;hold -3 4;"), -121);
        CHECK.due("a shorter text", Ports.text(x, "prio 1;sep 2;hold 5;"), 1);
        x.visit(0, 5, 9, 9);
        x.force(1);
        CHECK.due("is what it says", x.tells(0, 2), 5);
        CHECK.due("160 letters", Ports.text(x, "a".repeat(160)), -100);
        CHECK.due("160 digits", Ports.text(x, "prio " + "9".repeat(155)), -105);
        CHECK.due("160 blanks", Ports.text(x, " ".repeat(160)), -260);
        CHECK.due("a name at the end of 160", Ports.text(x, " ".repeat(153) + "prio in"), -260);
        CHECK.due("a number at the end of 160", Ports.text(x, " ".repeat(152) + "prio 999"), -260);
        CHECK.due("a sign at the end of 160", Ports.text(x, " ".repeat(154) + "prio -"), -260);
        CHECK.due("a byte at the end of 160", Ports.text(x, " ".repeat(154) + "prio $"), -259);
        CHECK.due("a text of 160", Ports.text(x, " ".repeat(140) + "prio 7;sep 8;hold 9;"), 2);
        x.force(2);
        CHECK.due("comes to 9", x.tells(0, 2), 9);
        StringBuilder sum = new StringBuilder("prio 1");
        while (sum.length() + ";sep 2;hold 3000;".length() < 159) {
            sum.append("+1");
        }
        CHECK.due("a sum of 160", Ports.text(x, sum + ";sep 2;hold 3000;"), 3);
        x.force(3);
        CHECK.due("comes to 69", x.tells(0, 0), 69);
        CHECK.due("and to 3000", x.tells(0, 2), 3000);
    }

    private static void textIsTaken() {
        WingPort x = new WingPort();
        Ports.tape(x, "prio 9;");
        CHECK.due("too early", x.text(), -107);
        CHECK.due("the tape is empty behind a fault", x.count(6), 0);
        CHECK.due("the next stands alone", Ports.text(x, "prio 1;sep 2;hold 3;"), 1);
        CHECK.due("the rule is as it was", x.count(5), 0);
        x.visit(0, 5, 9, 9);
        x.force(1);
        Ports.text(x, "prio 7 7;");
        CHECK.due("a fault changes no rule", x.tells(0, 0), 1);
        CHECK.due("nor another part", x.tells(0, 2), 3);
    }

    private static void textsAreFull() {
        WingPort x = new WingPort();
        for (int t = 1; t < 6; t++) {
            CHECK.due("text " + t, Ports.text(x, "prio " + t + ";sep 2;hold 3;"), t);
        }
        CHECK.due("tape", Ports.tape(x, "prio $"), 6);
        CHECK.due("full, ahead of the fault", x.text(), WingPort.FULL);
        CHECK.due("the tape stays", x.count(6), 6);
        CHECK.due("count(4)", x.count(4), 6);
        x.visit(0, 5, 9, 9);
        for (int t = 0; t < 6; t++) {
            CHECK.due("force " + t, x.force(t), Math.max(0, t - 1));
            CHECK.due("it is the rule", x.tells(0, 0), t);
        }
    }

    private static void force() {
        WingPort x = new WingPort();
        CHECK.due("force(1)", x.force(1), WingPort.BAD);
        CHECK.due("force(-1)", x.force(-1), WingPort.BAD);
        CHECK.due("force(0)", x.force(0), 0);
        Ports.text(x, "prio 5;sep 2;hold 3;");
        CHECK.due("it isn't the rule yet", x.count(5), 0);
        CHECK.due("force(1), told", x.force(1), 0);
        CHECK.due("THE RULE", x.count(5), 1);
        CHECK.due("force(2)", x.force(2), WingPort.BAD);
        CHECK.due("back", x.force(0), 1);
    }

    private static void firstRule() {
        WingPort x = new WingPort();
        x.visit(0, 5, 9, 9);
        x.run(4);
        CHECK.due("prio", x.tells(0, 0), 4);
        CHECK.due("sep", x.tells(0, 1), 2);
        CHECK.due("hold", x.tells(0, 2), 0);
        x.set(5, 1);
        CHECK.due("sep in fog", x.tells(0, 1), 6);
        x.run(5);
        CHECK.due("prio of one that holds", x.tells(0, 0), 104);
    }

    private static void value(String sum, long due) {
        WingPort x = new WingPort();
        x.visit(5, 5, 9, 9);
        Ports.rule(x, "prio 3;sep " + sum + ";hold 4;");
        CHECK.due(sum, x.tells(0, 1), due);
        CHECK.due("prio beside " + sum, x.tells(0, 0), 3);
        CHECK.due("hold beside " + sum, x.tells(0, 2), 4);
    }

    private static void values() {
        value("7", 7);
        value("0012", 12);
        value("1 + 2 * 3", 7);
        value("2 * 3 + 1", 7);
        value("(1 + 2) * 3", 9);
        value("10 - 3 - 2", 5);
        value("10 - (3 - 2)", 9);
        value("-3 - -2", -1);
        value("-2 * 3", -6);
        value("--3", 3);
        value("1 < 2", 1);
        value("2 < 2", 0);
        value("3 < 2", 0);
        value("2 = 2", 1);
        value("2 = 3", 0);
        value("1 + 1 < 1 + 2", 1);
        value("not 0", 1);
        value("not 5", 0);
        value("not -1", 0);
        value("not not 5", 1);
        value("not 1 < 2", 0);
        value("not 2 < 1", 1);
        value("not 0 and 0", 0);
        value("not (0 and 0)", 1);
        value("5 or 0", 1);
        value("0 or 0", 0);
        value("0 or -7", 1);
        value("5 and 7", 1);
        value("5 and 0", 0);
        value("0 and 5", 0);
        value("1 or 0 and 0", 1);
        value("0 and 0 or 1", 1);
        value("0 and (0 or 1)", 0);
        value("0 or 0 or 4", 1);
        value("3 and 4 and 0", 0);
        value("-1 < 0", 1);
        value("(2 = 2) * 10 + kind", 15);
        value("0 or not 1", 0);
        value("0 or 0 or not 0", 1);
        value("7 and not 0", 1);
        value("1 and not 1", 0);
        value("1 + (not 1)", 1);
        value("5 * (not 0)", 5);
        value("3 - (not 0) - (not 7)", 2);
        value("2 < (not 0) + 2", 1);
        value("4 + -3", 1);
        value("4 * (1 - -3 * -2)", -20);
        value("kind - in", 5);
    }

    /** As deep as five ( go, what stands ahead of each kept till it ends. */
    private static void deepValues() {
        value("1 + 2 * (3 - kind)", -3);
        value("1 + 2 * (3 - 4 * (kind - 6))", 15);
        value("1+2*(3+4*(5+6*(7+8*(9+kind))))", 5759);
        value("1+2*(3+4*(5+6*(7+8*(9+1*(2+kind)))))", 6527);
        value("1<2+3*(4=5*(6+7*(1 and in)))", 1);
        value("2<2+3*(30=5*(6+7*(1 and in)))", 1);
        value("2<2+3*(4=5*(6+7*(1 and in)))", 0);
        value("0 or 1 and 2<3+4*(0 or 1 and 2<3+4*(kind=5 and 7<8*kind))", 1);
        value("0 or 1 and 8<3+4*(0 or 1 and 2<3+4*(kind=4 or 7<8*(in)))", 0);
        value("2-(3-(4-(5-(6-kind))))", -1);
        value("2-(3-(4-(5-(6-(7-kind)))))", 2);
        value("2--(3--(4-5))*-(not 0)", 0);
        value("9--(3--(4-5))*(not 0)", 11);
    }

    /** { } as often as the tape holds. */
    private static void longChains() {
        String[] signs = {" or ", " and ", "+", "-", "*"};
        for (String sign : signs) {
            for (int last = 0; last < 3; last++) {
                StringBuilder sum = new StringBuilder();
                String one = sign.equals(" or ") ? "0" : "1";
                int ones = 0;
                while (sum.length() + sign.length() < 135) {
                    sum.append(one).append(sign);
                    ones++;
                }
                int[] due = {last > 0 ? 1 : 0, last > 0 ? 1 : 0, ones + last, 2 - ones - last, last};
                for (int i = 0; i < signs.length; i++) {
                    if (signs[i].equals(sign)) {
                        value(sum.append(last).toString(), due[i]);
                    }
                }
            }
        }
    }

    private static void wrapping() {
        value("9999*9999*22", 9999 * 9999 * 22);
        value("9999*9999*9999", 9999 * 9999 * 9999);
        value("9999*9999*21+9999*4790+8416", Integer.MAX_VALUE);
        value("9999*9999*21+9999*4790+8416+1", Integer.MIN_VALUE);
        value("-(9999*9999*21+9999*4790+8416+1)", Integer.MIN_VALUE);
        value("9999*9999*21+9999*4790+8416+1<0", 1);
        value("-(9999*9999*21+9999*4790+8416)-1", Integer.MIN_VALUE);
        value("-(9999*9999*21+9999*4790+8416)-2", Integer.MAX_VALUE);
        value("0-(9999*9999*21+9999*4790+8416+1)", Integer.MIN_VALUE);
        value("-1*(9999*9999*21+9999*4790+8416+1)", Integer.MIN_VALUE);
        value("(9999*9999*21+9999*4790+8416+1)*2", 0);
        value("(9999*9999*21+9999*4790+8416)*2", -2);
        value("(9999*9999*21+9999*4790+8416)*(9999*9999*21+9999*4790+8416)", 1);
        value("(9999*9999*21+9999*4790+8416+1)<(9999*9999*21+9999*4790+8416)", 1);
        value("(9999*9999*21+9999*4790+8416)<(9999*9999*21+9999*4790+8416+1)", 0);
        value("not (9999*9999*21+9999*4790+8416+1)*2", 1);
        value("(9999*9999*21+9999*4790+8416+1) and 1", 1);
    }

    private static void names() {
        WingPort x = new WingPort();
        x.set(5, 1);
        x.run(3);
        x.visit(4, 13, 20, 50);
        x.visit(0, 13, 20, 50);
        x.late(0, 3);
        x.feed(1, 0, 5, 5);
        x.feed(1, 0, 5, 5);
        x.feed(0, 1, 5, 5);
        x.run(7);
        Ports.rule(x, "prio in*1000+late;sep kind*1000+wait;hold fog*1000+bags*100+prev;");
        CHECK.due("due: in, late", x.tells(0, 0), 0);
        CHECK.due("due: kind, wait", x.tells(0, 1), 4007);
        CHECK.due("due: fog, bags, prev", x.tells(0, 2), 1199);
        CHECK.due("bags of the other", x.tells(1, 2), 1099);
        Ports.runTill(x, 20);
        CHECK.due("at etd: in, late", x.tells(0, 0), 1000);
        CHECK.due("wait since it holds", x.tells(0, 1), 4004);
        Ports.runTill(x, 27);
        CHECK.due("behind etd: in, late", x.tells(0, 0), 1007);
        Ports.rule(x, "prio crew;sep 0;hold 0;");
        CHECK.due("crew", x.tells(0, 0), 13 + 3 + 50 - 27);
        Ports.runTill(x, 90);
        CHECK.due("crew below 0", x.tells(0, 0), 66 - 90);
        x.force(1);
        CHECK.due("went: in, late", x.tells(0, 0), 70);
        CHECK.due("went: bags", x.tells(0, 2), 999);
    }

    /** The prev of the runway that a visit is asked for, and none where it is asked for none. */
    private static void namesInATick() {
        WingPort x = Ports.with(1, 3, 3, 3);
        Ports.rule(x, "prio (prev = 5) * (kind = 1) * 9 + (prev = 1) * (kind = 3) * 9;sep 0;hold 0;");
        x.visit(5, 0, 300, 99);
        x.visit(3, 1, 300, 99);
        x.visit(1, 1, 300, 99);
        Ports.runTill(x, 4);
        CHECK.due("behind a FREIGHTER a JET", x.visitTold(2, 1), 2);
        CHECK.due("then", x.visitTold(1, 1), 1);
        Ports.runTill(x, 6);
        CHECK.due("a WIDE behind", x.visitTold(1, 1), 2);
        CHECK.due("tells with no runway", x.tells(1, 0), 0);
    }

    /** tells: what a part comes to, also below 0; and prev is -1, whatever has landed. */
    private static void rawParts() {
        WingPort x = Ports.with(1, 1);
        Ports.rule(x, "prio -9999; sep 1 - 3; hold -1 - prev * 10;");
        x.visit(0, 0, 300, 99);
        x.run(3);
        CHECK.due("the runway has a PREV", x.runwayTold(0, 1), 0);
        CHECK.due("prio below 0", x.tells(0, 0), -9999);
        CHECK.due("sep below 0", x.tells(0, 1), -2);
        CHECK.due("hold, with prev -1", x.tells(0, 2), 9);
    }

    /** bags: how many FEEDS to it are 0 or 1. */
    private static void bagsByState() {
        WingPort x = Ports.with(2, 1, 1);
        Ports.rule(x, "prio in; sep 0; hold bags;");
        x.visit(0, 0, 300, 99);
        x.visit(0, 0, 20, 99);
        x.visit(1, 0, 300, 99);
        x.feed(0, 1, 90, 2);
        x.feed(0, 1, 90, 40);
        x.feed(2, 1, 90, 1);
        x.feed(1, 0, 90, 1);
        CHECK.due("in the planes", x.tells(1, 2), 3);
        CHECK.due("to another", x.tells(0, 2), 1);
        CHECK.due("to none", x.tells(2, 2), 0);
        Ports.runTill(x, 15);
        CHECK.due("on the carts", x.tells(1, 2), 3);
        Ports.runTill(x, 17);
        CHECK.due("one is there", x.feedTold(0, 3), 2);
        CHECK.due("two are not", x.tells(1, 2), 2);
        Ports.runTill(x, 55);
        CHECK.due("one is missed", x.feedTold(1, 3), 3);
        CHECK.due("one is left", x.tells(1, 2), 1);
        Ports.runTill(x, 61);
        CHECK.due("from one that went", x.feedTold(2, 3), 3);
        CHECK.due("none is left", x.tells(1, 2), 0);
    }

    /** crew: LIMIT less TICK. */
    private static void crewAtTheLimit() {
        WingPort x = new WingPort();
        Ports.rule(x, "prio crew; sep wait; hold 0;");
        x.run(5);
        x.visit(0, 10, 300, 7);
        CHECK.due("ahead of the limit", x.tells(0, 0), 12);
        CHECK.due("wait as it is told", x.tells(0, 1), 0);
        x.late(0, 2);
        CHECK.due("late", x.tells(0, 0), 14);
        Ports.runTill(x, 19);
        CHECK.due("at the limit", x.tells(0, 0), 0);
        x.run(1);
        CHECK.due("behind it", x.tells(0, 0), -1);
        CHECK.due("wait since it holds", x.tells(0, 1), 8);
    }

    /** late: TICK less ETD, 0 at least. */
    private static void lateAtEtd() {
        WingPort x = new WingPort();
        Ports.rule(x, "prio late; sep in; hold fog;");
        x.visit(0, 3, 8, 7);
        int[] late = {0, 0, 0, 0, 0, 0, 0, 0, 0, 1, 2};
        for (int tick = 0; tick < late.length; tick++) {
            CHECK.due("late at " + tick, x.tells(0, 0), late[tick]);
            CHECK.due("in at " + tick, x.tells(0, 1), tick > 3 ? 1 : 0);
            CHECK.due("fog at " + tick, x.tells(0, 2), tick % 2);
            x.run(1);
            x.set(5, (tick + 1) % 2);
        }
    }

    private static void tellsRefuses() {
        WingPort x = new WingPort();
        x.visit(0, 5, 9, 9);
        CHECK.due("tells(1, 0)", x.tells(1, 0), WingPort.NO);
        CHECK.due("tells(-1, 0)", x.tells(-1, 0), WingPort.NO);
        CHECK.due("tells(0, 3)", x.tells(0, 3), WingPort.NO);
        CHECK.due("tells(0, -1)", x.tells(0, -1), WingPort.NO);
    }

    private static void count() {
        WingPort x = Ports.with(1, 1, 2);
        x.set(7, 4);
        x.set(5, 1);
        x.set(6, 1);
        x.set(8, 2);
        x.visit(3, 3, 4, 99);
        x.visit(0, 80, 90, 99);
        x.visit(0, 80, 90, 99);
        x.feed(0, 1, 12, 3);
        x.estimate(1, 7);
        Ports.text(x, "prio 1;sep 2;hold 3;");
        x.force(1);
        x.feedTape(5, 3);
        Ports.runTill(x, 64);
        int[] due = {64, 3, 2, 1, 2, 1, 3, 1, 59, 12, 4, 1, 1, 2};
        for (int what = 0; what < due.length; what++) {
            CHECK.due("count(" + what + ")", x.count(what), due[what]);
        }
        for (int bits = 0; bits < 4; bits++) {
            x.set(5, bits & 1);
            x.set(6, bits >> 1);
            CHECK.due("FOG of " + bits, x.count(11), bits & 1);
            CHECK.due("COLD of " + bits, x.count(12), bits >> 1);
        }
        CHECK.due("count(14)", x.count(14), WingPort.BAD);
        CHECK.due("count(-1)", x.count(-1), WingPort.BAD);
    }
}
