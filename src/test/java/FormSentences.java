/** The texts of shapes, summaries and questions, and their faults. */
final class FormSentences extends Sentences {
    FormSentences(Document document) {
        super(document);
    }

    @Override
    void all() {
        part("A SHAPE: a TEXT", "A SUMMARY's text");
        shapeTexts();
        shapeFaults();
        shapesTold();
        part("A SUMMARY's text", "A QUESTION's text");
        summaryTexts();
        summarySigns();
        summaryFaults();
        part("A QUESTION's text", "==== 2.");
        questionTexts();
        questionFaults();
    }

    private void shapeTexts() {
        said("A SHAPE: a TEXT of at most 60 bytes, no blanks", () -> {
            String twelve = "a0=3;a1=3;a2=3;a3=3;a4=3;a5=3;a6=3;a7=3;b0=3;b1=3;b2=3;b3=3";
            due(twelve.length(), 59);
            due(shape(twelve), 12);
            due(x.coarse(0, 0), 3);
            due(x.coarse(1, 3), 3);
            due(shape(twelve + ";"), -1060);
            due(shape(twelve + ";b4=3"), -1);
            due(x.count(2), 80);
            due(x.shape(61), -1);
            due(x.shape(60), -1060);
            due(shape(" a0=3"), -1000);
            due(shape("a 0=3"), -1001);
            due(shape("a0=3 "), -1004);
            due(shape("a0=3; b0=3"), -1005);
        });
        said("LINES with a ; (59) between two", () -> {
            due(shape("a0=1"), 1);
            due(shape("a0=1;b0=1"), 2);
            due(shape("a0=1b0=1"), -1004);
            due(shape("a0=1:b0=1"), -1004);
            due(shape("a0=1;;b0=1"), -1005);
            due(shape(";a0=1"), -1000);
            due(shape("a0=1;"), -1005);
        });
        said("a letter a to c, a digit 0 to 7, =, a digit 0 to 3 (that VALUE's COARSE one).", () -> {
            for (int side = 0; side < 3; side++) {
                for (int value = 0; value < 8; value++) {
                    int coarse = (side + value + 1) % 4;
                    due(shape("" + (char) ('a' + side) + value + "=" + coarse), 1);
                    due(x.coarse(side, value), coarse);
                }
            }
            due(shape("d0=0"), -1000);
            due(shape("A0=0"), -1000);
            due(shape("a8=0"), -1001);
            due(shape("a0:0"), -1002);
            due(shape("a0=4"), -1003);
            due(shape("a0=10"), -1004);
        });
    }

    private void shapeFaults() {
        said("FAULTS, the first from the left: 1 what can't stand there (the end, too)", () -> {
            onlyStand(this::shape, "", "abc");
            onlyStand(this::shape, "a", "01234567");
            onlyStand(this::shape, "b7", "=");
            onlyStand(this::shape, "c0=", "0123");
            onlyStand(this::shape, "a0=0", ";");
            onlyStand(this::shape, "a0=0;", "abc");
            onlyStand(this::shape, "a0=0;a", "1234567" + "0");
            endsTooEarly(this::shape, "a0=3;b7=0;c4=1", 4, 9, 14);
            fresh();
            due(shape("a9=9;a9"), -1001);
        });
        said("6 a VALUE told twice, at its letter.", () -> {
            due(shape("a1=1;a1=1"), -6005);
            due(shape("a1=1;a1=2"), -6005);
            due(shape("c7=1;b1=2;c3=1;c7=0"), -6015);
            due(shape("a1=1;a1"), -6005);
            due(shape("a1=1;a1=9"), -6005);
            due(shape("a1=1;a1x"), -6005);
            due(shape("a1=1;a1=1;a1=1"), -6005);
            due(shape("a1=1;a1=1;z"), -6005);
            due(shape("a1=1;a"), -1006);
            due(shape("a1=1;a9"), -1006);
            due(shape("a1=1;x;a1=1"), -1005);
            due(shape("a1=1;b1=1;c1=1;a2=1"), 4);
            // What was told by a shape before is not told twice.
            due(shape("a1=1"), 1);
        });
    }

    private void shapesTold() {
        said("All others stay as they were", () -> {
            shape("a1=3;c6=0");
            shape("b0=2");
            dueAll(value -> x.coarse(0, value), 0, 3, 1, 1, 2, 2, 3, 3);
            dueAll(value -> x.coarse(1, value), 2, 0, 1, 1, 2, 2, 3, 3);
            dueAll(value -> x.coarse(2, value), 0, 0, 1, 1, 2, 2, 0, 3);
        });
        said("SUMMARIES go", () -> {
            fiveFacts();
            for (int i = 0; i < 8; i++) {
                summary("000:s");
            }
            due(shape("a0=0"), 1);
            due(x.count(1), 0);
            due(x.summaryIs(0, 0), -1);
            due(x.count(0), 5);
            due(summary("111:s"), 0);
        });
        said("the QUESTION stays (its LEVELS by this SHAPE, its SPANS let what they let).", () -> {
            x.fact(0, 0, 0, 5);
            x.fact(1, 0, 0, 6);
            x.fact(1, 2, 0, 7);
            due(question("s:122;b1=0-0"), 1);
            due(x.answer(0, 3), 11);
            shape("a0=3;b0=3;b2=0");
            due(x.questionIs(3), 0);
            dueAll(what -> x.questionIs(what), 1, 2, 2);
            due(x.questionIs(11), 3);
            dueAll(i -> x.answer(i, 0), 0, 3, -4);
            dueAll(i -> x.answer(i, 3), 6, 5, -4);
        });
    }

    private void summaryTexts() {
        said("A SUMMARY's text (80 bytes at most, no blanks)", () -> {
            String longest = "000:scnx;a0=0-7;b0=0-7;c0=0-7";
            due(summary(longest), 0);
            due(summary(longest + ";".repeat(51)), -1030);
            tell(longest + ";".repeat(52));
            due(x.summary(81), -1);
            due(x.count(2), 100);
            due(x.summary(80), -1030);
            due(x.count(2), 0);
            due(summary(" 000:s"), -1000);
            due(summary("000 :s"), -1003);
            due(summary("000:s c"), -1005);
            due(summary("000:s "), -1005);
            due(summary("000:s; a0=0-7"), -1006);
            due(summary("000:s;a0=0- 7"), -1011);
        });
        said("three digits 0 to 2 (LEVELS of a, b, c), : (58), one to four of s, c, n, x, "
                + "then SPANS with a ; (59) ahead of each:", () -> {
            String[] wholes = {"000:s", "222:c", "012:sc", "120:nxc", "201:xncs", "000:s;a0=0-7", "000:cs;c1=0-3;a0=1-2",
                "000:scnx;b0=0-7"};
            for (int i = 0; i < wholes.length; i++) {
                due(summary(wholes[i]), i);
            }
            dueAll(what -> x.summaryIs(3, what), 1, 2, 0, 14);
            due(x.summaryIs(6, 10), 6);
            due(summary("00:s"), -1002);
            due(summary("0000:s"), -1003);
            due(summary("000s"), -1003);
            due(summary("000:"), -1004);
            due(summary("000:v"), -1004);
            due(summary("000:sd"), -1005);
            due(summary("000:a0=0-7"), -1004);
            due(summary("000:sa0=0-7"), -1005);
            due(summary("000:s;a0=0-7b0=0-7"), -1012);
            due(summary("000:s;"), -1006);
            due(summary("000:s;a0=0-7;"), -1013);
        });
        said("a letter a to c, a digit 0 or 1 (LEVEL), =, a digit, - (45), a digit, of 0 to 7.", () -> {
            due(summary("000:s;a0=0-0;b1=0-0;c0=7-7"), 0);
            dueAll(side -> x.summaryIs(0, 10 + side), 1, 3, 128);
            due(summary("000:s;a1=3-7;b1=7-7;c0=0-7"), 1);
            dueAll(side -> x.summaryIs(1, 10 + side), 192, 0, 255);
            due(summary("000:s;d0=0-1"), -1006);
            due(summary("000:s;a=0-1"), -1007);
            due(summary("000:s;a0:0-1"), -1008);
            due(summary("000:s;a0=8-9"), -1009);
            due(summary("000:s;a0=0:1"), -1010);
            due(summary("000:s;a0=0-8"), -1011);
            due(summary("000:s;a0=01"), -1010);
            due(summary("000:s;a0=0-11"), -1012);
        });
    }

    private void summarySigns() {
        said("FAULTS: 1;", () -> {
            onlyStand(this::summary, "", "0123456789");
            onlyStand(this::summary, "0", "0123456789");
            onlyStand(this::summary, "21", "0123456789");
            onlyStand(this::summary, "000", ":");
            onlyStand(this::summary, "000:", "scnx");
            onlyStand(this::summary, "000:c", "scnx;");
            onlyStand(this::summary, "000:xcs", "scnx;");
            onlyStand(this::summary, "000:scnx", "scnx;");
            onlyStand(this::summary, "000:s;", "abc");
            onlyStand(this::summary, "000:s;a", "0123456789");
            onlyStand(this::summary, "000:s;a1", "=");
            onlyStand(this::summary, "000:s;a1=", "01234567");
            onlyStand(this::summary, "000:s;a1=0", "-");
            onlyStand(this::summary, "000:s;a1=0-", "01234567");
            onlyStand(this::summary, "000:s;a1=7-", "01234567");
            onlyStand(this::summary, "000:s;a1=0-7", ";");
            onlyStand(this::summary, "000:s;a1=0-7;", "abc");
            onlyStand(this::summary, "000:s;a1=0-7;b0=0-0;c1=1-1", ";");
            endsTooEarly(this::summary, "012:scnx;b1=0-7;a0=3-3;c0=0-0", 5, 6, 7, 8, 15, 22, 29);
        });
    }

    private void summaryFaults() {
        said("3 a digit of a LEVEL, of a SPAN's LEVEL, that is a digit but none of these, at it", () -> {
            for (int digit = 0; digit <= 9; digit++) {
                fresh();
                due(summary(digit + "00:s"), digit < 3 ? 0 : -3000);
                fresh();
                due(summary("0" + digit + "0:s"), digit < 3 ? 0 : -3001);
                fresh();
                due(summary("00" + digit + ":s"), digit < 3 ? 0 : -3002);
                fresh();
                due(summary("000:s;b" + digit + "=0-1"), digit < 2 ? 0 : -3007);
                fresh();
                due(summary("000:s;a0=0-1;b" + digit + "=0-1"), digit < 2 ? 0 : -3014);
            }
            fresh();
            due(summary("3"), -3000);
            due(summary("093:s"), -3001);
            due(summary("000:s;a8"), -3007);
        });
        said("a SPAN whose first is above its last, at the last", () -> {
            for (int from = 0; from < 8; from++) {
                for (int to = 0; to < 8; to++) {
                    fresh();
                    due(summary("000:s;a0=" + from + "-" + to), from > to ? -3011 : 0);
                    due(summary("000:s;a1=" + from + "-" + to + ";b0=0-0"), from > to ? -3011 : 1);
                }
            }
            fresh();
            due(summary("000:s;a0=0-0;b0=7-6"), -3018);
            due(summary("000:s;a0=1-0;z"), -3011);
            due(summary("000:s;a0=1-"), -1011);
            due(summary("000:s;a0=7-9"), -1011);
        });
        said("6 a PART, a SIDE's SPAN told twice, at its letter.", () -> {
            due(summary("000:ss"), -6005);
            due(summary("000:scs"), -6006);
            due(summary("000:scc"), -6006);
            due(summary("000:scnn"), -6007);
            due(summary("000:xx;a0=9-9"), -6005);
            due(summary("000:scnxx"), -6008);
            due(summary("000:scnxs"), -6008);
            due(summary("000:s;a0=0-1;a0=0-1"), -6013);
            due(summary("000:s;a0=0-1;a1=2-3"), -6013);
            due(summary("000:s;a0=0-1;b0=0-1;a"), -6020);
            due(summary("000:s;a0=0-1;b0=0-1;c0=0-1;b0=0-1"), -6027);
            due(summary("000:s;a0=0-1;a9=0-1"), -6013);
            due(summary("000:s;a0=0-1;a0=1-0"), -6013);
            due(summary("000:s;a0=0-1;b0=0-1;c0=0-1;d"), -1027);
            due(summary("000:s;a0=0-1;b0=0-1"), 0);
        });
    }

    private void questionTexts() {
        said("A QUESTION's text (80 bytes at most)", () -> {
            String longest = "s:000;a0=0-7;b0=0-7;c0=0-7";
            due(question(longest), 0);
            due(question(longest + ";".repeat(54)), -1027);
            tell(longest + ";".repeat(55));
            due(x.question(81), -1);
            due(x.count(2), 100);
            due(x.question(80), -1027);
            due(x.count(2), 0);
            due(question(" s:000"), -1000);
            due(question("s: 000"), -1002);
            due(question("s:000 "), -1005);
        });
        said("one of s, c, n, x, v, d, m, : (58), three digits, SPANS as above;", () -> {
            for (int what = 0; what < 7; what++) {
                due(question("scnxvdm".charAt(what) + ":012;c1=1-2"), 0);
                due(x.questionIs(3), what);
                dueAll(level -> x.questionIs(level), 0, 1, 2);
                due(x.questionIs(12), 60);
            }
            due(question(":000"), -1000);
            due(question("S:000"), -1000);
            due(question("sc:000"), -1001);
            due(question("s000"), -1001);
            due(question("s:00"), -1004);
            due(question("s:0000"), -1005);
            due(question("s:000a0=0-7"), -1005);
            due(question("000:s"), -1000);
        });
    }

    private void questionFaults() {
        said("FAULTS as above.", () -> {
            onlyStand(this::question, "", "scnxvdm");
            onlyStand(this::question, "d", ":");
            onlyStand(this::question, "d:", "0123456789");
            onlyStand(this::question, "d:0", "0123456789");
            onlyStand(this::question, "d:01", "0123456789");
            onlyStand(this::question, "d:012", ";");
            onlyStand(this::question, "d:012;", "abc");
            onlyStand(this::question, "d:012;c", "0123456789");
            onlyStand(this::question, "d:012;c0", "=");
            onlyStand(this::question, "d:012;c0=", "01234567");
            onlyStand(this::question, "d:012;c0=2", "-");
            onlyStand(this::question, "d:012;c0=2-", "01234567");
            onlyStand(this::question, "d:012;c0=2-3", ";");
            endsTooEarly(this::question, "v:012;b1=0-7;a0=3-3;c0=0-0", 5, 12, 19, 26);
        });
        said("FAULTS as above.", () -> {
            due(question("s:300"), -3002);
            due(question("s:090"), -3003);
            due(question("s:003"), -3004);
            due(question("s:000;a2=0-0"), -3007);
            due(question("s:000;a9=0-0"), -3007);
            due(question("s:000;a0=7-6"), -3011);
            due(question("s:000;a1=1-0"), -3011);
            due(question("s:000;b0=7-7;b1=0-0"), -6013);
            due(question("s:000;b0=7-7;a0=0-0;b"), -6020);
        });
    }
}
